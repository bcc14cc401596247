set_option maxHeartbeats 4000000 in
set_option maxRecDepth 100000 in
/-- Circuit.and -/
theorem k_and (l : Launch) (Z : Zt) (hc : Nat) (x : CS) (σ : Nat → Bool) (a b : Nat) (hx0 : cok x σ) (ha : a < xn x) (hbb : b < xn x) (hn : xn x < 400000) : MC l yX0_and cX0_and 3 (some .int) 4 180 (4 * (capU (xu x) (xn x + 1) - xu x)) (512 * (capU (xu x) (xn x + 1) - xu x)) Z (cw Z hc x) (fun _ => True) [.ref hc, .int (nI a), .int (nI b)] (gateQ Z hc x σ 1 a b) := by
  refine mc_of (by decide) (Nat.le_of_ble_eq_true rfl) (fun p e s m below meth c ls A hx hb hr hts hown hlk hml hin hK hG hW hA hAe hro hl R hRf hRc hRs hRl => ?_)
  have hl : lv_has ls 3 [(0, .ref hc), (1, .int (nI a)), (2, .int (nI b))] := hl
  have hW : Wd Z A s.heap (cw Z hc x ++ []) _ _ := hW
  refine lv_aload_n hx hb dX0_and_0 rfl (lv_at hl 0 rfl) ?_
  refine lv_iconst (v := nI 1) hx hb dX0_and_1 (by decide) ?_
  refine lv_iload_n hx hb dX0_and_2 rfl (lv_at hl 1 rfl) ?_
  refine lv_iload_n hx hb dX0_and_3 rfl (lv_at hl 2 rfl) ?_
  refine c_virt (As := [.int (nI 1), .int (nI a), .int (nI b)]) (rest := []) (wc := cw Z hc x) (wr := []) (nl := 0) hx hb hml hown hts hK hG rfl hA hl (k_gate l Z hc x σ 1 a b hx0 (by omega) ha hbb (by omega) hn) hW trivial (hW.at 0 rfl) rfl rfl tb_226 tb_227 tb_228 tb_3 tb_229 (nA := 3) (by decide +kernel) rfl ⟨by omega, by omega⟩ ⟨by omega, by omega⟩ rfl (Nat.le_of_ble_eq_true rfl) dX0_and_4 (fun v w1 H1 L1 hp hW hzz hkk hdd => ?_)
  obtain ⟨x1, rfl, rfl, hp1⟩ := hp
  clear hzz hkk hdd
  generalize H1 = H at hW ⊢
  generalize L1 = locs at hW ⊢
  have hW : Wd Z A s.heap (cw Z hc x1) _ _ := hW
  refine W.eq (g2 := F0 m 7 ls [.int (nI (xn x))]) rfl ?_
  exact e_int hx hb hr hlk hAe hW (by omega) (by omega) dX0_and_7 ⟨x1, rfl, rfl, hp1⟩
set_option maxHeartbeats 4000000 in
set_option maxRecDepth 100000 in
/-- Circuit.or -/
theorem k_or (l : Launch) (Z : Zt) (hc : Nat) (x : CS) (σ : Nat → Bool) (a b : Nat) (hx0 : cok x σ) (ha : a < xn x) (hbb : b < xn x) (hn : xn x < 400000) : MC l yX0_or cX0_or 3 (some .int) 4 180 (4 * (capU (xu x) (xn x + 1) - xu x)) (512 * (capU (xu x) (xn x + 1) - xu x)) Z (cw Z hc x) (fun _ => True) [.ref hc, .int (nI a), .int (nI b)] (gateQ Z hc x σ 2 a b) := by
  refine mc_of (by decide) (Nat.le_of_ble_eq_true rfl) (fun p e s m below meth c ls A hx hb hr hts hown hlk hml hin hK hG hW hA hAe hro hl R hRf hRc hRs hRl => ?_)
  have hl : lv_has ls 3 [(0, .ref hc), (1, .int (nI a)), (2, .int (nI b))] := hl
  have hW : Wd Z A s.heap (cw Z hc x ++ []) _ _ := hW
  refine lv_aload_n hx hb dX0_or_0 rfl (lv_at hl 0 rfl) ?_
  refine lv_iconst (v := nI 2) hx hb dX0_or_1 (by decide) ?_
  refine lv_iload_n hx hb dX0_or_2 rfl (lv_at hl 1 rfl) ?_
  refine lv_iload_n hx hb dX0_or_3 rfl (lv_at hl 2 rfl) ?_
  refine c_virt (As := [.int (nI 2), .int (nI a), .int (nI b)]) (rest := []) (wc := cw Z hc x) (wr := []) (nl := 0) hx hb hml hown hts hK hG rfl hA hl (k_gate l Z hc x σ 2 a b hx0 (by omega) ha hbb (by omega) hn) hW trivial (hW.at 0 rfl) rfl rfl tb_226 tb_227 tb_228 tb_3 tb_229 (nA := 3) (by decide +kernel) rfl ⟨by omega, by omega⟩ ⟨by omega, by omega⟩ rfl (Nat.le_of_ble_eq_true rfl) dX0_or_4 (fun v w1 H1 L1 hp hW hzz hkk hdd => ?_)
  obtain ⟨x1, rfl, rfl, hp1⟩ := hp
  clear hzz hkk hdd
  generalize H1 = H at hW ⊢
  generalize L1 = locs at hW ⊢
  have hW : Wd Z A s.heap (cw Z hc x1) _ _ := hW
  refine W.eq (g2 := F0 m 7 ls [.int (nI (xn x))]) rfl ?_
  exact e_int hx hb hr hlk hAe hW (by omega) (by omega) dX0_or_7 ⟨x1, rfl, rfl, hp1⟩
set_option maxHeartbeats 4000000 in
set_option maxRecDepth 100000 in
/-- Circuit.xor -/
theorem k_xor (l : Launch) (Z : Zt) (hc : Nat) (x : CS) (σ : Nat → Bool) (a b : Nat) (hx0 : cok x σ) (ha : a < xn x) (hbb : b < xn x) (hn : xn x < 400000) : MC l yX0_xor cX0_xor 3 (some .int) 4 180 (4 * (capU (xu x) (xn x + 1) - xu x)) (512 * (capU (xu x) (xn x + 1) - xu x)) Z (cw Z hc x) (fun _ => True) [.ref hc, .int (nI a), .int (nI b)] (gateQ Z hc x σ 3 a b) := by
  refine mc_of (by decide) (Nat.le_of_ble_eq_true rfl) (fun p e s m below meth c ls A hx hb hr hts hown hlk hml hin hK hG hW hA hAe hro hl R hRf hRc hRs hRl => ?_)
  have hl : lv_has ls 3 [(0, .ref hc), (1, .int (nI a)), (2, .int (nI b))] := hl
  have hW : Wd Z A s.heap (cw Z hc x ++ []) _ _ := hW
  refine lv_aload_n hx hb dX0_xor_0 rfl (lv_at hl 0 rfl) ?_
  refine lv_iconst (v := nI 3) hx hb dX0_xor_1 (by decide) ?_
  refine lv_iload_n hx hb dX0_xor_2 rfl (lv_at hl 1 rfl) ?_
  refine lv_iload_n hx hb dX0_xor_3 rfl (lv_at hl 2 rfl) ?_
  refine c_virt (As := [.int (nI 3), .int (nI a), .int (nI b)]) (rest := []) (wc := cw Z hc x) (wr := []) (nl := 0) hx hb hml hown hts hK hG rfl hA hl (k_gate l Z hc x σ 3 a b hx0 (by omega) ha hbb (by omega) hn) hW trivial (hW.at 0 rfl) rfl rfl tb_226 tb_227 tb_228 tb_3 tb_229 (nA := 3) (by decide +kernel) rfl ⟨by omega, by omega⟩ ⟨by omega, by omega⟩ rfl (Nat.le_of_ble_eq_true rfl) dX0_xor_4 (fun v w1 H1 L1 hp hW hzz hkk hdd => ?_)
  obtain ⟨x1, rfl, rfl, hp1⟩ := hp
  clear hzz hkk hdd
  generalize H1 = H at hW ⊢
  generalize L1 = locs at hW ⊢
  have hW : Wd Z A s.heap (cw Z hc x1) _ _ := hW
  refine W.eq (g2 := F0 m 7 ls [.int (nI (xn x))]) rfl ?_
  exact e_int hx hb hr hlk hAe hW (by omega) (by omega) dX0_xor_7 ⟨x1, rfl, rfl, hp1⟩
set_option maxHeartbeats 4000000 in
set_option maxRecDepth 100000 in
/-- Circuit.not -/
theorem k_not (l : Launch) (Z : Zt) (hc : Nat) (x : CS) (σ : Nat → Bool) (a : Nat) (hx0 : cok x σ) (ha : a < xn x) (hn : xn x < 400000) : MC l yX0_not cX0_not 2 (some .int) 4 180 (4 * (capU (xu x) (xn x + 1) - xu x)) (512 * (capU (xu x) (xn x + 1) - xu x)) Z (cw Z hc x) (fun _ => True) [.ref hc, .int (nI a)] (gateQ Z hc x σ 3 a 1) := by
  refine mc_of (by decide) (Nat.le_of_ble_eq_true rfl) (fun p e s m below meth c ls A hx hb hr hts hown hlk hml hin hK hG hW hA hAe hro hl R hRf hRc hRs hRl => ?_)
  have hl : lv_has ls 2 [(0, .ref hc), (1, .int (nI a))] := hl
  have hW : Wd Z A s.heap (cw Z hc x ++ []) _ _ := hW
  refine lv_aload_n hx hb dX0_not_0 rfl (lv_at hl 0 rfl) ?_
  refine lv_iconst (v := nI 3) hx hb dX0_not_1 (by decide) ?_
  refine lv_iload_n hx hb dX0_not_2 rfl (lv_at hl 1 rfl) ?_
  refine lv_iconst (v := nI 1) hx hb dX0_not_3 (by decide) ?_
  refine c_virt (As := [.int (nI 3), .int (nI a), .int (nI 1)]) (rest := []) (wc := cw Z hc x) (wr := []) (nl := 0) hx hb hml hown hts hK hG rfl hA hl (k_gate l Z hc x σ 3 a 1 hx0 (by omega) ha (by have := hx0.1; omega) (by omega) hn) hW trivial (hW.at 0 rfl) rfl rfl tb_226 tb_227 tb_228 tb_3 tb_229 (nA := 3) (by decide +kernel) rfl ⟨by omega, by omega⟩ ⟨by omega, by omega⟩ rfl (Nat.le_of_ble_eq_true rfl) dX0_not_4 (fun v w1 H1 L1 hp hW hzz hkk hdd => ?_)
  obtain ⟨x1, rfl, rfl, hp1⟩ := hp
  clear hzz hkk hdd
  generalize H1 = H at hW ⊢
  generalize L1 = locs at hW ⊢
  have hW : Wd Z A s.heap (cw Z hc x1) _ _ := hW
  refine W.eq (g2 := F0 m 7 ls [.int (nI (xn x))]) rfl ?_
  exact e_int hx hb hr hlk hAe hW (by omega) (by omega) dX0_not_7 ⟨x1, rfl, rfl, hp1⟩
set_option maxHeartbeats 4000000 in
set_option maxRecDepth 100000 in
/-- Circuit.source -/
theorem k_source (l : Launch) (Z : Zt) (hc : Nat) (x : CS) (σ : Nat → Bool)  (hx0 : cok x σ) (hn : xn x < 400000) : MC l yX0_source cX0_source 1 (some .int) 4 180 (4 * (capU (xu x) (xn x + 1) - xu x)) (512 * (capU (xu x) (xn x + 1) - xu x)) Z (cw Z hc x) (fun _ => True) [.ref hc] (gateQ Z hc x σ 0 0 0) := by
  refine mc_of (by decide) (Nat.le_of_ble_eq_true rfl) (fun p e s m below meth c ls A hx hb hr hts hown hlk hml hin hK hG hW hA hAe hro hl R hRf hRc hRs hRl => ?_)
  have hl : lv_has ls 1 [(0, .ref hc)] := hl
  have hW : Wd Z A s.heap (cw Z hc x ++ []) _ _ := hW
  refine lv_aload_n hx hb dX0_source_0 rfl (lv_at hl 0 rfl) ?_
  refine lv_iconst (v := nI 0) hx hb dX0_source_1 (by decide) ?_
  refine lv_iconst (v := nI 0) hx hb dX0_source_2 (by decide) ?_
  refine lv_iconst (v := nI 0) hx hb dX0_source_3 (by decide) ?_
  refine c_virt (As := [.int (nI 0), .int (nI 0), .int (nI 0)]) (rest := []) (wc := cw Z hc x) (wr := []) (nl := 0) hx hb hml hown hts hK hG rfl hA hl (k_gate l Z hc x σ 0 0 0 hx0 (by omega) (by have := hx0.1; omega) (by have := hx0.1; omega) (fun _ => ⟨rfl, rfl⟩) hn) hW trivial (hW.at 0 rfl) rfl rfl tb_226 tb_227 tb_228 tb_3 tb_229 (nA := 3) (by decide +kernel) rfl ⟨by omega, by omega⟩ ⟨by omega, by omega⟩ rfl (Nat.le_of_ble_eq_true rfl) dX0_source_4 (fun v w1 H1 L1 hp hW hzz hkk hdd => ?_)
  obtain ⟨x1, rfl, rfl, hp1⟩ := hp
  clear hzz hkk hdd
  generalize H1 = H at hW ⊢
  generalize L1 = locs at hW ⊢
  have hW : Wd Z A s.heap (cw Z hc x1) _ _ := hW
  refine W.eq (g2 := F0 m 7 ls [.int (nI (xn x))]) rfl ?_
  exact e_int hx hb hr hlk hAe hW (by omega) (by omega) dX0_source_7 ⟨x1, rfl, rfl, hp1⟩
