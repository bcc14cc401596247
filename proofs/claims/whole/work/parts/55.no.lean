set_option maxHeartbeats 4000000 in
set_option maxRecDepth 100000 in
theorem k_inputN (l : Launch) (hst : l.stackTraces = false) (Z : Zt) (hb0 hk hc hm : Nat) (x : CS) (σ : Nat → Bool) (mo : Int32) (n wg : Nat) (o : Option (Nat × Nat × (Nat → Option Nat))) (vd vb stb wd : Nat → Nat) (rw : Nat → Nat → Nat) (xw : Int32) (hbok : bok x σ n wg o vd stb wd rw) (hno : ¬ ∃ w, (1 ≤ w ∧ w ≤ 64 ∧ xw = nI w) ∧ w + wg ≤ 100000) : MX l yX3_input cX3_input 4 (some .int) 11 600 (10) (60) Z (cw Z hc x ++ bl Z hb0 hk hc hm wg mo n o) (fun H => BRO Z (cw Z hc x ++ bl Z hb0 hk hc hm wg mo n o) hk hc n vd vb stb wd rw H) [.ref hb0, .int xw] (fun _ _ => False) (fun E => (E = IAE ∧ ¬ wid xw) ∨ (E = ISE ∧ ∃ w, (1 ≤ w ∧ w ≤ 64 ∧ xw = nI w) ∧ ¬ w + wg ≤ 100000)) := by
  refine mx_of (by decide) (Nat.le_of_ble_eq_true rfl) (fun p e s m below meth c ls A hx hb hr hts hown hlk hml hex hK hG hW hA hAe hro hl R hRf hRc hRs hRl => ?_)
  have hl : lv_has ls 4 [(0, .ref hb0), (1, .int xw)] := hl
  have hsm : ∀ q : Nat, q < s.heap.size → s.heap[q]? = s.heap[q]? := fun _ _ => rfl
  refine lv_iload_n hx hb dX3_input_0 rfl (lv_at hl 1 rfl) ?_
  have hsz0 := hW.2.2.1
  refine x_stat (As := [.int xw]) (rest := []) (wc := []) (wr := cw Z hc x ++ bl Z hb0 hk hc hm wg mo n o) hx hb hml hown hts hK hG rfl hA hl (k_needWidth l hst Z xw) hW trivial tb_131 tb_132 tb_1 tb_133 (nA := 1) (by decide +kernel) rfl ⟨by omega, by omega⟩ ⟨by omega, by omega⟩ rfl (Nat.le_of_ble_eq_true rfl) dX3_input_1 (fun E q9 ce H9 L9 hpx hWx hzx hkx hce hcv hcl => x_pass hex hlk (Or.inl hpx) (Nat.le_trans hsz0 hzx) (fun q hq => (hkx q (Nat.lt_of_lt_of_le hq hsz0)).trans (hsm q hq)) hce hcv hcl hWx.2.2.2.2 (by omega) (by omega)) (fun v w1 H1 L1 hp hW hzz hkk hdd => ?_)
  obtain ⟨rfl, rfl, hwid⟩ := hp
  have hsm := sm_step hsz0 hkk hsm
  clear hzz hkk hdd
  generalize H1 = H at hW hsm ⊢
  generalize L1 = locs at hW ⊢
  have hW : Wd Z A s.heap (cw Z hc x ++ bl Z hb0 hk hc hm wg mo n o) _ _ := hW
  refine W.eq (g2 := F0 m 4 ls []) rfl ?_
  obtain ⟨w, hw1, hw64, rfl⟩ := hwid
  have hn5 := hbok.2.2.2.2.1
  have inj : ∀ a b : Nat, a < n → b < n → nI a = nI b → a = b := fun a b ha hb h => (nI_eq (by omega) (by omega)).mp h
  have hxn := hbok.2.2.2.1
  have hwb := hbok.2.2.1
  have hx1 := stp.rf hbok.1
  refine lv_aload_n hx hb dX3_input_4 rfl (lv_at hl 0 rfl) ?_
  refine lv_iload_n hx hb dX3_input_5 rfl (lv_at hl 1 rfl) ?_
  have hsz0 := hW.2.2.1
  refine x_virt (As := [.int (nI w)]) (rest := []) (wc := []) (wr := cw Z hc x ++ bl Z hb0 hk hc hm wg mo n o) hx hb hml hown hts hK hG rfl hA hl (k_needRoom l hst Z hb0 hk hc hm mo (lsq Z o) n wg (w) hbok.2.2.1 (by omega) (by have := hbok.2.2.2.2.1; omega)) hW ⟨hW.at 5 rfl, hW.at 6 rfl⟩ (hW.at 5 rfl) rfl rfl tb_201 tb_203 ts_1 tb_1 tb_204 (nA := 1) (by decide +kernel) rfl ⟨by omega, by omega⟩ ⟨by omega, by omega⟩ rfl (Nat.le_of_ble_eq_true rfl) dX3_input_6 (fun E q9 ce H9 L9 hpx hWx hzx hkx hce hcv hcl => x_pass hex hlk (Or.inr ⟨hpx.1, w, ⟨hw1, hw64, rfl⟩, hpx.2⟩) (Nat.le_trans hsz0 hzx) (fun q hq => (hkx q (Nat.lt_of_lt_of_le hq hsz0)).trans (hsm q hq)) hce hcv hcl hWx.2.2.2.2 (by omega) (by omega)) (fun v w1 H1 L1 hp hW hzz hkk hdd => ?_)
  obtain ⟨rfl, rfl, hroom⟩ := hp
  have hsm := sm_step hsz0 hkk hsm
  clear hzz hkk hdd
  generalize H1 = H at hW hsm ⊢
  generalize L1 = locs at hW ⊢
  have hW : Wd Z A s.heap (cw Z hc x ++ bl Z hb0 hk hc hm wg mo n o) _ _ := hW
  refine W.eq (g2 := F0 m 9 ls []) rfl ?_
  exact absurd ⟨w, ⟨hw1, hw64, rfl⟩, hroom⟩ hno
set_option maxHeartbeats 4000000 in
set_option maxRecDepth 100000 in
theorem k_oneN (l : Launch) (hst : l.stackTraces = false) (Z : Zt) (hb0 hk hc hm : Nat) (x : CS) (σ : Nat → Bool) (mo : Int32) (n wg : Nat) (o : Option (Nat × Nat × (Nat → Option Nat))) (vd vb stb wd : Nat → Nat) (rw : Nat → Nat → Nat) (xk xa : Int32) (hbok : bok x σ n wg o vd stb wd rw) (hno : ¬ ∃ k i, (k ≤ 1 ∧ xk = nI k ∧ i < n ∧ xa = nI i) ∧ g1 k (wd i) + wg ≤ 100000) : MX l yX3_one cX3_one 6 (some .int) 11 600 (10) (60) Z (cw Z hc x ++ bl Z hb0 hk hc hm wg mo n o) (fun H => BRO Z (cw Z hc x ++ bl Z hb0 hk hc hm wg mo n o) hk hc n vd vb stb wd rw H) [.ref hb0, .int xk, .int xa] (fun _ _ => False) (fun E => (E = IAE ∧ ¬ ∃ k i, k ≤ 1 ∧ xk = nI k ∧ i < n ∧ xa = nI i) ∨ (E = ISE ∧ ∃ k i, (k ≤ 1 ∧ xk = nI k ∧ i < n ∧ xa = nI i) ∧ ¬ g1 k (wd i) + wg ≤ 100000)) := by
  refine mx_of (by decide) (Nat.le_of_ble_eq_true rfl) (fun p e s m below meth c ls A hx hb hr hts hown hlk hml hex hK hG hW hA hAe hro hl R hRf hRc hRs hRl => ?_)
  have hl : lv_has ls 6 [(0, .ref hb0), (1, .int xk), (2, .int xa)] := hl
  have hsm : ∀ q : Nat, q < s.heap.size → s.heap[q]? = s.heap[q]? := fun _ _ => rfl
  refine lv_iload_n hx hb dX3_one_0 rfl (lv_at hl 1 rfl) ?_
  refine lv_iconst (v := nI 1) hx hb dX3_one_1 (by decide) ?_
  have hsz0 := hW.2.2.1
  refine x_stat (As := [.int xk, .int (nI 1)]) (rest := []) (wc := []) (wr := cw Z hc x ++ bl Z hb0 hk hc hm wg mo n o) hx hb hml hown hts hK hG rfl hA hl (k_needKind l hst Z xk 1 (by decide)) hW trivial tb_333 tb_334 tb_1 tb_335 (nA := 2) (by decide +kernel) rfl ⟨by omega, by omega⟩ ⟨by omega, by omega⟩ rfl (Nat.le_of_ble_eq_true rfl) dX3_one_2 (fun E q9 ce H9 L9 hpx hWx hzx hkx hce hcv hcl => x_pass hex hlk (Or.inl ⟨hpx.1, fun ⟨k, i, z⟩ => hpx.2 ⟨k, z.1, z.2.1⟩⟩) (Nat.le_trans hsz0 hzx) (fun q hq => (hkx q (Nat.lt_of_lt_of_le hq hsz0)).trans (hsm q hq)) hce hcv hcl hWx.2.2.2.2 (by omega) (by omega)) (fun v w1 H1 L1 hp hW hzz hkk hdd => ?_)
  obtain ⟨rfl, rfl, hkd⟩ := hp
  have hsm := sm_step hsz0 hkk hsm
  clear hzz hkk hdd
  generalize H1 = H at hW hsm ⊢
  generalize L1 = locs at hW ⊢
  have hW : Wd Z A s.heap (cw Z hc x ++ bl Z hb0 hk hc hm wg mo n o) _ _ := hW
  refine W.eq (g2 := F0 m 5 ls []) rfl ?_
  refine lv_aload_n hx hb dX3_one_5 rfl (lv_at hl 0 rfl) ?_
  refine lv_iload_n hx hb dX3_one_6 rfl (lv_at hl 2 rfl) ?_
  have hsz0 := hW.2.2.1
  refine x_virt (As := [.int xa]) (rest := []) (wc := []) (wr := cw Z hc x ++ bl Z hb0 hk hc hm wg mo n o) hx hb hml hown hts hK hG rfl hA hl (k_bitsOf l hst Z hb0 hk hc hm mo n wg o vd vb stb xa hbok.2.1) hW ⟨hW.at 5 rfl, suf_P (wc := cw Z hc x ++ [bo hb0 hk hc hm wg]) hW.1, fun i hi => (hro.here hAe hW hi).1⟩ (hW.at 5 rfl) rfl rfl tb_337 tb_339 ts_6 tb_1 tb_340 (nA := 1) (by decide +kernel) rfl ⟨by omega, by omega⟩ ⟨by omega, by omega⟩ rfl (Nat.le_of_ble_eq_true rfl) dX3_one_7 (fun E q9 ce H9 L9 hpx hWx hzx hkx hce hcv hcl => x_pass hex hlk (Or.inl ⟨hpx.1, fun ⟨k, i, z⟩ => hpx.2 ⟨i, z.2.2.1, z.2.2.2⟩⟩) (Nat.le_trans hsz0 hzx) (fun q hq => (hkx q (Nat.lt_of_lt_of_le hq hsz0)).trans (hsm q hq)) hce hcv hcl hWx.2.2.2.2 (by omega) (by omega)) (fun v w1 H1 L1 hp hW hzz hkk hdd => ?_)
  obtain ⟨rfl, i, hi, ei, rfl⟩ := hp
  have hsm := sm_step hsz0 hkk hsm
  clear hzz hkk hdd
  generalize H1 = H at hW hsm ⊢
  generalize L1 = locs at hW ⊢
  have hW : Wd Z A s.heap (cw Z hc x ++ bl Z hb0 hk hc hm wg mo n o) _ _ := hW
  refine W.eq (g2 := F0 m 10 ls [.ref (vb i)]) rfl ?_
  obtain ⟨w1_i, w2_i, w3_i, w4_i⟩ := hbok.2.2.2.2.2 i hi
  have hn5 := hbok.2.2.2.2.1
  have inj : ∀ a b : Nat, a < n → b < n → nI a = nI b → a = b := fun a b ha hb h => (nI_eq (by omega) (by omega)).mp h
  have hxn := hbok.2.2.2.1
  have hwb := hbok.2.2.1
  have hx1 := stp.rf hbok.1
  obtain ⟨k, hk12, ek⟩ := hkd
  refine lv_astore_n (lv' := [(3, .ref (vb i)), (0, .ref hb0), (1, .int xk), (2, .int xa)]) hx hb dX3_one_10 rfl hl (by decide) rfl (fun ls hl => ?_)
  refine lv_iload_n hx hb dX3_one_11 rfl (lv_at hl 2 rfl) ?_
  refine n_eqv ek ?_
  rcases (show k = 0 ∨ k = 1 by omega) with hk0 | hk0
  all_goals subst hk0
  · refine n_zne_f (tgt := 20) hx hb rfl dX3_one_12 (by decide) ?_
    refine lv_aload_n hx hb dX3_one_15 rfl (lv_at hl 0 rfl) ?_
    refine r_len hx hb hK (hro.here hAe hW hi).2 dX3_one_16 ?_
    refine lv_goto (tgt := 25) hx hb dX3_one_17 (by decide) ?_
    refine lv_istore (lv' := [(4, .int (nI (wd i))), (3, .ref (vb i)), (0, .ref hb0), (1, .int xk), (2, .int xa)]) hx hb dX3_one_25 hl (by decide) rfl (fun ls hl => ?_)
    refine lv_aload_n hx hb dX3_one_27 rfl (lv_at hl 2 rfl) ?_
    refine lv_iload hx hb dX3_one_28 (lv_at hl 0 rfl) ?_
    have hsz0 := hW.2.2.1
    refine x_virt (As := [.int (nI (wd i))]) (rest := []) (wc := []) (wr := cw Z hc x ++ bl Z hb0 hk hc hm wg mo n o) hx hb hml hown hts hK hG rfl hA hl (k_needRoom l hst Z hb0 hk hc hm mo (lsq Z o) n wg (wd i) hbok.2.2.1 (by omega) (by have := hbok.2.2.2.2.1; omega)) hW ⟨hW.at 5 rfl, hW.at 6 rfl⟩ (hW.at 5 rfl) rfl rfl tb_201 tb_203 ts_1 tb_1 tb_204 (nA := 1) (by decide +kernel) rfl ⟨by omega, by omega⟩ ⟨by omega, by omega⟩ rfl (Nat.le_of_ble_eq_true rfl) dX3_one_30 (fun E q9 ce H9 L9 hpx hWx hzx hkx hce hcv hcl => x_pass hex hlk (Or.inr ⟨hpx.1, 0, i, ⟨by decide, ek, hi, ei⟩, hpx.2⟩) (Nat.le_trans hsz0 hzx) (fun q hq => (hkx q (Nat.lt_of_lt_of_le hq hsz0)).trans (hsm q hq)) hce hcv hcl hWx.2.2.2.2 (by omega) (by omega)) (fun v w1 H1 L1 hp hW hzz hkk hdd => ?_)
    obtain ⟨rfl, rfl, hroom⟩ := hp
    have hsm := sm_step hsz0 hkk hsm
    clear hzz hkk hdd
    generalize H1 = H at hW hsm ⊢
    generalize L1 = locs at hW ⊢
    have hW : Wd Z A s.heap (cw Z hc x ++ bl Z hb0 hk hc hm wg mo n o) _ _ := hW
    refine W.eq (g2 := F0 m 33 ls []) rfl ?_
    exact absurd ⟨0, i, ⟨by decide, ek, hi, ei⟩, hroom⟩ hno
  · refine n_zne_t (tgt := 20) hx hb (by decide) (by omega) dX3_one_12 (by decide) ?_
    refine lv_bipush (v := nI 10) hx hb dX3_one_20 (by decide) ?_
    refine lv_aload_n hx hb dX3_one_22 rfl (lv_at hl 0 rfl) ?_
    refine r_len hx hb hK (hro.here hAe hW hi).2 dX3_one_23 ?_
    refine n_imul hx hb dX3_one_24 ?_
    refine lv_istore (lv' := [(4, .int (nI (10 * (wd i)))), (3, .ref (vb i)), (0, .ref hb0), (1, .int xk), (2, .int xa)]) hx hb dX3_one_25 hl (by decide) rfl (fun ls hl => ?_)
    refine lv_aload_n hx hb dX3_one_27 rfl (lv_at hl 2 rfl) ?_
    refine lv_iload hx hb dX3_one_28 (lv_at hl 0 rfl) ?_
    have hsz0 := hW.2.2.1
    refine x_virt (As := [.int (nI (10 * (wd i)))]) (rest := []) (wc := []) (wr := cw Z hc x ++ bl Z hb0 hk hc hm wg mo n o) hx hb hml hown hts hK hG rfl hA hl (k_needRoom l hst Z hb0 hk hc hm mo (lsq Z o) n wg (10 * wd i) hbok.2.2.1 (by omega) (by have := hbok.2.2.2.2.1; omega)) hW ⟨hW.at 5 rfl, hW.at 6 rfl⟩ (hW.at 5 rfl) rfl rfl tb_201 tb_203 ts_1 tb_1 tb_204 (nA := 1) (by decide +kernel) rfl ⟨by omega, by omega⟩ ⟨by omega, by omega⟩ rfl (Nat.le_of_ble_eq_true rfl) dX3_one_30 (fun E q9 ce H9 L9 hpx hWx hzx hkx hce hcv hcl => x_pass hex hlk (Or.inr ⟨hpx.1, 1, i, ⟨by decide, ek, hi, ei⟩, hpx.2⟩) (Nat.le_trans hsz0 hzx) (fun q hq => (hkx q (Nat.lt_of_lt_of_le hq hsz0)).trans (hsm q hq)) hce hcv hcl hWx.2.2.2.2 (by omega) (by omega)) (fun v w1 H1 L1 hp hW hzz hkk hdd => ?_)
    obtain ⟨rfl, rfl, hroom⟩ := hp
    have hsm := sm_step hsz0 hkk hsm
    clear hzz hkk hdd
    generalize H1 = H at hW hsm ⊢
    generalize L1 = locs at hW ⊢
    have hW : Wd Z A s.heap (cw Z hc x ++ bl Z hb0 hk hc hm wg mo n o) _ _ := hW
    refine W.eq (g2 := F0 m 33 ls []) rfl ?_
    exact absurd ⟨1, i, ⟨by decide, ek, hi, ei⟩, hroom⟩ hno
set_option maxHeartbeats 4000000 in
set_option maxRecDepth 100000 in
theorem k_twoN (l : Launch) (hst : l.stackTraces = false) (Z : Zt) (hb0 hk hc hm : Nat) (x : CS) (σ : Nat → Bool) (mo : Int32) (n wg : Nat) (o : Option (Nat × Nat × (Nat → Option Nat))) (vd vb stb wd : Nat → Nat) (rw : Nat → Nat → Nat) (xk xa xb : Int32) (hbok : bok x σ n wg o vd stb wd rw) (hno : ¬ ∃ k i j, k ≤ 12 ∧ xk = nI k ∧ i < n ∧ j < n ∧ xa = nI i ∧ xb = nI j ∧ wd i = wd j ∧ wt2 k (wd i) + wg ≤ 100000) : MX l yX3_two cX3_two 7 (some .int) 11 600 (10) (60) Z (cw Z hc x ++ bl Z hb0 hk hc hm wg mo n o) (fun H => BRO Z (cw Z hc x ++ bl Z hb0 hk hc hm wg mo n o) hk hc n vd vb stb wd rw H) [.ref hb0, .int xk, .int xa, .int xb] (fun _ _ => False) (fun E => (E = IAE ∧ ¬ (knd xk 12 ∧ ∃ i j, i < n ∧ j < n ∧ xa = nI i ∧ xb = nI j ∧ wd i = wd j)) ∨ (E = ISE ∧ ∃ k i j, k ≤ 12 ∧ xk = nI k ∧ i < n ∧ j < n ∧ xa = nI i ∧ xb = nI j ∧ wd i = wd j ∧ ¬ wt2 k (wd i) + wg ≤ 100000)) := by
  refine mx_of (by decide) (Nat.le_of_ble_eq_true rfl) (fun p e s m below meth c ls A hx hb hr hts hown hlk hml hex hK hG hW hA hAe hro hl R hRf hRc hRs hRl => ?_)
  have hl : lv_has ls 7 [(0, .ref hb0), (1, .int xk), (2, .int xa), (3, .int xb)] := hl
  have hsm : ∀ q : Nat, q < s.heap.size → s.heap[q]? = s.heap[q]? := fun _ _ => rfl
  refine lv_iload_n hx hb dX3_two_0 rfl (lv_at hl 1 rfl) ?_
  refine lv_bipush (v := nI 12) hx hb dX3_two_1 (by decide) ?_
  have hsz0 := hW.2.2.1
  refine x_stat (As := [.int xk, .int (nI 12)]) (rest := []) (wc := []) (wr := cw Z hc x ++ bl Z hb0 hk hc hm wg mo n o) hx hb hml hown hts hK hG rfl hA hl (k_needKind l hst Z xk 12 (by decide)) hW trivial tb_333 tb_334 tb_1 tb_335 (nA := 2) (by decide +kernel) rfl ⟨by omega, by omega⟩ ⟨by omega, by omega⟩ rfl (Nat.le_of_ble_eq_true rfl) dX3_two_3 (fun E q9 ce H9 L9 hpx hWx hzx hkx hce hcv hcl => x_pass hex hlk (Or.inl ⟨hpx.1, fun h => hpx.2 h.1⟩) (Nat.le_trans hsz0 hzx) (fun q hq => (hkx q (Nat.lt_of_lt_of_le hq hsz0)).trans (hsm q hq)) hce hcv hcl hWx.2.2.2.2 (by omega) (by omega)) (fun v w1 H1 L1 hp hW hzz hkk hdd => ?_)
  obtain ⟨rfl, rfl, hkd⟩ := hp
  have hsm := sm_step hsz0 hkk hsm
  clear hzz hkk hdd
  generalize H1 = H at hW hsm ⊢
  generalize L1 = locs at hW ⊢
  have hW : Wd Z A s.heap (cw Z hc x ++ bl Z hb0 hk hc hm wg mo n o) _ _ := hW
  refine W.eq (g2 := F0 m 6 ls []) rfl ?_
  refine lv_aload_n hx hb dX3_two_6 rfl (lv_at hl 0 rfl) ?_
  refine lv_iload_n hx hb dX3_two_7 rfl (lv_at hl 2 rfl) ?_
  have hsz0 := hW.2.2.1
  refine x_virt (As := [.int xa]) (rest := []) (wc := []) (wr := cw Z hc x ++ bl Z hb0 hk hc hm wg mo n o) hx hb hml hown hts hK hG rfl hA hl (k_bitsOf l hst Z hb0 hk hc hm mo n wg o vd vb stb xa hbok.2.1) hW ⟨hW.at 5 rfl, suf_P (wc := cw Z hc x ++ [bo hb0 hk hc hm wg]) hW.1, fun i hi => (hro.here hAe hW hi).1⟩ (hW.at 5 rfl) rfl rfl tb_337 tb_339 ts_6 tb_1 tb_340 (nA := 1) (by decide +kernel) rfl ⟨by omega, by omega⟩ ⟨by omega, by omega⟩ rfl (Nat.le_of_ble_eq_true rfl) dX3_two_8 (fun E q9 ce H9 L9 hpx hWx hzx hkx hce hcv hcl => x_pass hex hlk (Or.inl ⟨hpx.1, fun h => hpx.2 (h.2.elim fun i h => h.elim fun j h => ⟨i, h.1, h.2.2.1⟩)⟩) (Nat.le_trans hsz0 hzx) (fun q hq => (hkx q (Nat.lt_of_lt_of_le hq hsz0)).trans (hsm q hq)) hce hcv hcl hWx.2.2.2.2 (by omega) (by omega)) (fun v w1 H1 L1 hp hW hzz hkk hdd => ?_)
  obtain ⟨rfl, i, hi, ei, rfl⟩ := hp
  have hsm := sm_step hsz0 hkk hsm
  clear hzz hkk hdd
  generalize H1 = H at hW hsm ⊢
  generalize L1 = locs at hW ⊢
  have hW : Wd Z A s.heap (cw Z hc x ++ bl Z hb0 hk hc hm wg mo n o) _ _ := hW
  refine W.eq (g2 := F0 m 11 ls [.ref (vb i)]) rfl ?_
  obtain ⟨w1_i, w2_i, w3_i, w4_i⟩ := hbok.2.2.2.2.2 i hi
  refine lv_astore (lv' := [(4, .ref (vb i)), (0, .ref hb0), (1, .int xk), (2, .int xa), (3, .int xb)]) hx hb dX3_two_11 hl (by decide) rfl (fun ls hl => ?_)
  refine lv_aload_n hx hb dX3_two_13 rfl (lv_at hl 1 rfl) ?_
  refine lv_iload_n hx hb dX3_two_14 rfl (lv_at hl 4 rfl) ?_
  have hsz0 := hW.2.2.1
  refine x_virt (As := [.int xb]) (rest := []) (wc := []) (wr := cw Z hc x ++ bl Z hb0 hk hc hm wg mo n o) hx hb hml hown hts hK hG rfl hA hl (k_bitsOf l hst Z hb0 hk hc hm mo n wg o vd vb stb xb hbok.2.1) hW ⟨hW.at 5 rfl, suf_P (wc := cw Z hc x ++ [bo hb0 hk hc hm wg]) hW.1, fun i hi => (hro.here hAe hW hi).1⟩ (hW.at 5 rfl) rfl rfl tb_337 tb_339 ts_6 tb_1 tb_340 (nA := 1) (by decide +kernel) rfl ⟨by omega, by omega⟩ ⟨by omega, by omega⟩ rfl (Nat.le_of_ble_eq_true rfl) dX3_two_15 (fun E q9 ce H9 L9 hpx hWx hzx hkx hce hcv hcl => x_pass hex hlk (Or.inl ⟨hpx.1, fun h => hpx.2 (h.2.elim fun i h => h.elim fun j h => ⟨j, h.2.1, h.2.2.2.1⟩)⟩) (Nat.le_trans hsz0 hzx) (fun q hq => (hkx q (Nat.lt_of_lt_of_le hq hsz0)).trans (hsm q hq)) hce hcv hcl hWx.2.2.2.2 (by omega) (by omega)) (fun v w1 H1 L1 hp hW hzz hkk hdd => ?_)
  obtain ⟨rfl, j, hj, ej, rfl⟩ := hp
  have hsm := sm_step hsz0 hkk hsm
  clear hzz hkk hdd
  generalize H1 = H at hW hsm ⊢
  generalize L1 = locs at hW ⊢
  have hW : Wd Z A s.heap (cw Z hc x ++ bl Z hb0 hk hc hm wg mo n o) _ _ := hW
  refine W.eq (g2 := F0 m 18 ls [.ref (vb j)]) rfl ?_
  obtain ⟨w1_j, w2_j, w3_j, w4_j⟩ := hbok.2.2.2.2.2 j hj
  refine lv_astore (lv' := [(5, .ref (vb j)), (4, .ref (vb i)), (0, .ref hb0), (1, .int xk), (2, .int xa), (3, .int xb)]) hx hb dX3_two_18 hl (by decide) rfl (fun ls hl => ?_)
  refine lv_aload hx hb dX3_two_20 (lv_at hl 1 rfl) ?_
  refine lv_aload hx hb dX3_two_22 (lv_at hl 0 rfl) ?_
  have hn5 := hbok.2.2.2.2.1
  have inj : ∀ a b : Nat, a < n → b < n → nI a = nI b → a = b := fun a b ha hb h => (nI_eq (by omega) (by omega)).mp h
  have hxn := hbok.2.2.2.1
  have hwb := hbok.2.2.1
  have hx1 := stp.rf hbok.1
  have hsz0 := hW.2.2.1
  refine x_stat (As := [.ref (vb i), .ref (vb j)]) (rest := []) (wc := []) (wr := cw Z hc x ++ bl Z hb0 hk hc hm wg mo n o) hx hb hml hown hts hK hG rfl hA hl (k_needSameWidth l hst Z (vb i) (vb j) (wd i) (wd j) (rw i) (rw j) (by omega) (by omega)) hW ⟨(hro.here hAe hW hi).2, (hro.here hAe hW hj).2⟩ tb_396 tb_397 tb_1 tb_398 (nA := 2) (by decide +kernel) rfl ⟨by omega, by omega⟩ ⟨by omega, by omega⟩ rfl (Nat.le_of_ble_eq_true rfl) dX3_two_24 (fun E q9 ce H9 L9 hpx hWx hzx hkx hce hcv hcl => x_pass hex hlk (Or.inl ⟨hpx.1, fun h => h.2.elim fun a h => h.elim fun b h => hpx.2 (by rw [inj i a hi h.1 (ei.symm.trans h.2.2.1), inj j b hj h.2.1 (ej.symm.trans h.2.2.2.1)]; exact h.2.2.2.2)⟩) (Nat.le_trans hsz0 hzx) (fun q hq => (hkx q (Nat.lt_of_lt_of_le hq hsz0)).trans (hsm q hq)) hce hcv hcl hWx.2.2.2.2 (by omega) (by omega)) (fun v w1 H1 L1 hp hW hzz hkk hdd => ?_)
  obtain ⟨rfl, rfl, hww⟩ := hp
  have hsm := sm_step hsz0 hkk hsm
  clear hzz hkk hdd
  generalize H1 = H at hW hsm ⊢
  generalize L1 = locs at hW ⊢
  have hW : Wd Z A s.heap (cw Z hc x ++ bl Z hb0 hk hc hm wg mo n o) _ _ := hW
  refine W.eq (g2 := F0 m 27 ls []) rfl ?_
  obtain ⟨k, hk12, ek⟩ := hkd
  refine lv_iload_n hx hb dX3_two_27 rfl (lv_at hl 3 rfl) ?_
  refine n_eqv ek ?_
  refine lv_aload hx hb dX3_two_28 (lv_at hl 1 rfl) ?_
  refine r_len hx hb hK (hro.here hAe hW hi).2 dX3_two_30 ?_
  have hsz0 := hW.2.2.1
  refine c_stat (As := [.int (nI k), .int (nI (wd i))]) (rest := []) (wc := []) (wr := cw Z hc x ++ bl Z hb0 hk hc hm wg mo n o) hx hb hml hown hts hK hG rfl hA hl (k_weightOfTwo l Z k (wd i) hk12 w2_i) hW trivial tb_400 tb_401 tb_1 tb_402 (nA := 2) (by decide +kernel) rfl ⟨by omega, by omega⟩ ⟨by omega, by omega⟩ rfl (Nat.le_of_ble_eq_true rfl) dX3_two_31 (fun v w1 H1 L1 hp hW hzz hkk hdd => ?_)
  obtain ⟨rfl, rfl⟩ := hp
  have hsm := sm_step hsz0 hkk hsm
  clear hzz hkk hdd
  generalize H1 = H at hW hsm ⊢
  generalize L1 = locs at hW ⊢
  have hW : Wd Z A s.heap (cw Z hc x ++ bl Z hb0 hk hc hm wg mo n o) _ _ := hW
  refine W.eq (g2 := F0 m 34 ls [.int (nI (wt2 k (wd i)))]) rfl ?_
  refine lv_istore (lv' := [(6, .int (nI (wt2 k (wd i)))), (5, .ref (vb j)), (4, .ref (vb i)), (0, .ref hb0), (1, .int xk), (2, .int xa), (3, .int xb)]) hx hb dX3_two_34 hl (by decide) rfl (fun ls hl => ?_)
  refine lv_aload_n hx hb dX3_two_36 rfl (lv_at hl 3 rfl) ?_
  refine lv_iload hx hb dX3_two_37 (lv_at hl 0 rfl) ?_
  have hwt : wt2 k (wd i) ≤ 1000000 := wt2_le k (wd i) w2_i
  have hsz0 := hW.2.2.1
  refine x_virt (As := [.int (nI (wt2 k (wd i)))]) (rest := []) (wc := []) (wr := cw Z hc x ++ bl Z hb0 hk hc hm wg mo n o) hx hb hml hown hts hK hG rfl hA hl (k_needRoom l hst Z hb0 hk hc hm mo (lsq Z o) n wg (wt2 k (wd i)) hbok.2.2.1 hwt (by have := hbok.2.2.2.2.1; omega)) hW ⟨hW.at 5 rfl, hW.at 6 rfl⟩ (hW.at 5 rfl) rfl rfl tb_201 tb_203 ts_1 tb_1 tb_204 (nA := 1) (by decide +kernel) rfl ⟨by omega, by omega⟩ ⟨by omega, by omega⟩ rfl (Nat.le_of_ble_eq_true rfl) dX3_two_39 (fun E q9 ce H9 L9 hpx hWx hzx hkx hce hcv hcl => x_pass hex hlk (Or.inr ⟨hpx.1, k, i, j, hk12, ek, hi, hj, ei, ej, hww, hpx.2⟩) (Nat.le_trans hsz0 hzx) (fun q hq => (hkx q (Nat.lt_of_lt_of_le hq hsz0)).trans (hsm q hq)) hce hcv hcl hWx.2.2.2.2 (by omega) (by omega)) (fun v w1 H1 L1 hp hW hzz hkk hdd => ?_)
  obtain ⟨rfl, rfl, hroom⟩ := hp
  have hsm := sm_step hsz0 hkk hsm
  clear hzz hkk hdd
  generalize H1 = H at hW hsm ⊢
  generalize L1 = locs at hW ⊢
  have hW : Wd Z A s.heap (cw Z hc x ++ bl Z hb0 hk hc hm wg mo n o) _ _ := hW
  refine W.eq (g2 := F0 m 42 ls []) rfl ?_
  exact absurd ⟨k, i, j, hk12, ek, hi, hj, ei, ej, hww, hroom⟩ hno
set_option maxHeartbeats 4000000 in
set_option maxRecDepth 100000 in
theorem k_compareN (l : Launch) (hst : l.stackTraces = false) (Z : Zt) (hb0 hk hc hm : Nat) (x : CS) (σ : Nat → Bool) (mo : Int32) (n wg : Nat) (o : Option (Nat × Nat × (Nat → Option Nat))) (vd vb stb wd : Nat → Nat) (rw : Nat → Nat → Nat) (xk xa xb : Int32) (hbok : bok x σ n wg o vd stb wd rw) (hno : ¬ ∃ k i j, k ≤ 4 ∧ xk = nI k ∧ i < n ∧ j < n ∧ xa = nI i ∧ xb = nI j ∧ wd i = wd j ∧ 10 * wd i + wg ≤ 100000) : MX l yX3_compare cX3_compare 8 (some .int) 11 600 (10) (60) Z (cw Z hc x ++ bl Z hb0 hk hc hm wg mo n o) (fun H => BRO Z (cw Z hc x ++ bl Z hb0 hk hc hm wg mo n o) hk hc n vd vb stb wd rw H) [.ref hb0, .int xk, .int xa, .int xb] (fun _ _ => False) (fun E => (E = IAE ∧ ¬ (knd xk 4 ∧ ∃ i j, i < n ∧ j < n ∧ xa = nI i ∧ xb = nI j ∧ wd i = wd j)) ∨ (E = ISE ∧ ∃ k i j, k ≤ 4 ∧ xk = nI k ∧ i < n ∧ j < n ∧ xa = nI i ∧ xb = nI j ∧ wd i = wd j ∧ ¬ 10 * wd i + wg ≤ 100000)) := by
  refine mx_of (by decide) (Nat.le_of_ble_eq_true rfl) (fun p e s m below meth c ls A hx hb hr hts hown hlk hml hex hK hG hW hA hAe hro hl R hRf hRc hRs hRl => ?_)
  have hl : lv_has ls 8 [(0, .ref hb0), (1, .int xk), (2, .int xa), (3, .int xb)] := hl
  have hsm : ∀ q : Nat, q < s.heap.size → s.heap[q]? = s.heap[q]? := fun _ _ => rfl
  refine lv_iload_n hx hb dX3_compare_0 rfl (lv_at hl 1 rfl) ?_
  refine lv_iconst (v := nI 4) hx hb dX3_compare_1 (by decide) ?_
  have hsz0 := hW.2.2.1
  refine x_stat (As := [.int xk, .int (nI 4)]) (rest := []) (wc := []) (wr := cw Z hc x ++ bl Z hb0 hk hc hm wg mo n o) hx hb hml hown hts hK hG rfl hA hl (k_needKind l hst Z xk 4 (by decide)) hW trivial tb_333 tb_334 tb_1 tb_335 (nA := 2) (by decide +kernel) rfl ⟨by omega, by omega⟩ ⟨by omega, by omega⟩ rfl (Nat.le_of_ble_eq_true rfl) dX3_compare_2 (fun E q9 ce H9 L9 hpx hWx hzx hkx hce hcv hcl => x_pass hex hlk (Or.inl ⟨hpx.1, fun h => hpx.2 h.1⟩) (Nat.le_trans hsz0 hzx) (fun q hq => (hkx q (Nat.lt_of_lt_of_le hq hsz0)).trans (hsm q hq)) hce hcv hcl hWx.2.2.2.2 (by omega) (by omega)) (fun v w1 H1 L1 hp hW hzz hkk hdd => ?_)
  obtain ⟨rfl, rfl, hkd⟩ := hp
  have hsm := sm_step hsz0 hkk hsm
  clear hzz hkk hdd
  generalize H1 = H at hW hsm ⊢
  generalize L1 = locs at hW ⊢
  have hW : Wd Z A s.heap (cw Z hc x ++ bl Z hb0 hk hc hm wg mo n o) _ _ := hW
  refine W.eq (g2 := F0 m 5 ls []) rfl ?_
  refine lv_aload_n hx hb dX3_compare_5 rfl (lv_at hl 0 rfl) ?_
  refine lv_iload_n hx hb dX3_compare_6 rfl (lv_at hl 2 rfl) ?_
  have hsz0 := hW.2.2.1
  refine x_virt (As := [.int xa]) (rest := []) (wc := []) (wr := cw Z hc x ++ bl Z hb0 hk hc hm wg mo n o) hx hb hml hown hts hK hG rfl hA hl (k_bitsOf l hst Z hb0 hk hc hm mo n wg o vd vb stb xa hbok.2.1) hW ⟨hW.at 5 rfl, suf_P (wc := cw Z hc x ++ [bo hb0 hk hc hm wg]) hW.1, fun i hi => (hro.here hAe hW hi).1⟩ (hW.at 5 rfl) rfl rfl tb_337 tb_339 ts_6 tb_1 tb_340 (nA := 1) (by decide +kernel) rfl ⟨by omega, by omega⟩ ⟨by omega, by omega⟩ rfl (Nat.le_of_ble_eq_true rfl) dX3_compare_7 (fun E q9 ce H9 L9 hpx hWx hzx hkx hce hcv hcl => x_pass hex hlk (Or.inl ⟨hpx.1, fun h => hpx.2 (h.2.elim fun i h => h.elim fun j h => ⟨i, h.1, h.2.2.1⟩)⟩) (Nat.le_trans hsz0 hzx) (fun q hq => (hkx q (Nat.lt_of_lt_of_le hq hsz0)).trans (hsm q hq)) hce hcv hcl hWx.2.2.2.2 (by omega) (by omega)) (fun v w1 H1 L1 hp hW hzz hkk hdd => ?_)
  obtain ⟨rfl, i, hi, ei, rfl⟩ := hp
  have hsm := sm_step hsz0 hkk hsm
  clear hzz hkk hdd
  generalize H1 = H at hW hsm ⊢
  generalize L1 = locs at hW ⊢
  have hW : Wd Z A s.heap (cw Z hc x ++ bl Z hb0 hk hc hm wg mo n o) _ _ := hW
  refine W.eq (g2 := F0 m 10 ls [.ref (vb i)]) rfl ?_
  obtain ⟨w1_i, w2_i, w3_i, w4_i⟩ := hbok.2.2.2.2.2 i hi
  refine lv_astore (lv' := [(4, .ref (vb i)), (0, .ref hb0), (1, .int xk), (2, .int xa), (3, .int xb)]) hx hb dX3_compare_10 hl (by decide) rfl (fun ls hl => ?_)
  refine lv_aload_n hx hb dX3_compare_12 rfl (lv_at hl 1 rfl) ?_
  refine lv_iload_n hx hb dX3_compare_13 rfl (lv_at hl 4 rfl) ?_
  have hsz0 := hW.2.2.1
  refine x_virt (As := [.int xb]) (rest := []) (wc := []) (wr := cw Z hc x ++ bl Z hb0 hk hc hm wg mo n o) hx hb hml hown hts hK hG rfl hA hl (k_bitsOf l hst Z hb0 hk hc hm mo n wg o vd vb stb xb hbok.2.1) hW ⟨hW.at 5 rfl, suf_P (wc := cw Z hc x ++ [bo hb0 hk hc hm wg]) hW.1, fun i hi => (hro.here hAe hW hi).1⟩ (hW.at 5 rfl) rfl rfl tb_337 tb_339 ts_6 tb_1 tb_340 (nA := 1) (by decide +kernel) rfl ⟨by omega, by omega⟩ ⟨by omega, by omega⟩ rfl (Nat.le_of_ble_eq_true rfl) dX3_compare_14 (fun E q9 ce H9 L9 hpx hWx hzx hkx hce hcv hcl => x_pass hex hlk (Or.inl ⟨hpx.1, fun h => hpx.2 (h.2.elim fun i h => h.elim fun j h => ⟨j, h.2.1, h.2.2.2.1⟩)⟩) (Nat.le_trans hsz0 hzx) (fun q hq => (hkx q (Nat.lt_of_lt_of_le hq hsz0)).trans (hsm q hq)) hce hcv hcl hWx.2.2.2.2 (by omega) (by omega)) (fun v w1 H1 L1 hp hW hzz hkk hdd => ?_)
  obtain ⟨rfl, j, hj, ej, rfl⟩ := hp
  have hsm := sm_step hsz0 hkk hsm
  clear hzz hkk hdd
  generalize H1 = H at hW hsm ⊢
  generalize L1 = locs at hW ⊢
  have hW : Wd Z A s.heap (cw Z hc x ++ bl Z hb0 hk hc hm wg mo n o) _ _ := hW
  refine W.eq (g2 := F0 m 17 ls [.ref (vb j)]) rfl ?_
  obtain ⟨w1_j, w2_j, w3_j, w4_j⟩ := hbok.2.2.2.2.2 j hj
  refine lv_astore (lv' := [(5, .ref (vb j)), (4, .ref (vb i)), (0, .ref hb0), (1, .int xk), (2, .int xa), (3, .int xb)]) hx hb dX3_compare_17 hl (by decide) rfl (fun ls hl => ?_)
  refine lv_aload hx hb dX3_compare_19 (lv_at hl 1 rfl) ?_
  refine lv_aload hx hb dX3_compare_21 (lv_at hl 0 rfl) ?_
  have hn5 := hbok.2.2.2.2.1
  have inj : ∀ a b : Nat, a < n → b < n → nI a = nI b → a = b := fun a b ha hb h => (nI_eq (by omega) (by omega)).mp h
  have hxn := hbok.2.2.2.1
  have hwb := hbok.2.2.1
  have hx1 := stp.rf hbok.1
  have hsz0 := hW.2.2.1
  refine x_stat (As := [.ref (vb i), .ref (vb j)]) (rest := []) (wc := []) (wr := cw Z hc x ++ bl Z hb0 hk hc hm wg mo n o) hx hb hml hown hts hK hG rfl hA hl (k_needSameWidth l hst Z (vb i) (vb j) (wd i) (wd j) (rw i) (rw j) (by omega) (by omega)) hW ⟨(hro.here hAe hW hi).2, (hro.here hAe hW hj).2⟩ tb_396 tb_397 tb_1 tb_398 (nA := 2) (by decide +kernel) rfl ⟨by omega, by omega⟩ ⟨by omega, by omega⟩ rfl (Nat.le_of_ble_eq_true rfl) dX3_compare_23 (fun E q9 ce H9 L9 hpx hWx hzx hkx hce hcv hcl => x_pass hex hlk (Or.inl ⟨hpx.1, fun h => h.2.elim fun a h => h.elim fun b h => hpx.2 (by rw [inj i a hi h.1 (ei.symm.trans h.2.2.1), inj j b hj h.2.1 (ej.symm.trans h.2.2.2.1)]; exact h.2.2.2.2)⟩) (Nat.le_trans hsz0 hzx) (fun q hq => (hkx q (Nat.lt_of_lt_of_le hq hsz0)).trans (hsm q hq)) hce hcv hcl hWx.2.2.2.2 (by omega) (by omega)) (fun v w1 H1 L1 hp hW hzz hkk hdd => ?_)
  obtain ⟨rfl, rfl, hww⟩ := hp
  have hsm := sm_step hsz0 hkk hsm
  clear hzz hkk hdd
  generalize H1 = H at hW hsm ⊢
  generalize L1 = locs at hW ⊢
  have hW : Wd Z A s.heap (cw Z hc x ++ bl Z hb0 hk hc hm wg mo n o) _ _ := hW
  refine W.eq (g2 := F0 m 26 ls []) rfl ?_
  obtain ⟨k, hk12, ek⟩ := hkd
  refine lv_bipush (v := nI 10) hx hb dX3_compare_26 (by decide) ?_
  refine lv_aload hx hb dX3_compare_28 (lv_at hl 1 rfl) ?_
  refine r_len hx hb hK (hro.here hAe hW hi).2 dX3_compare_30 ?_
  refine n_imul hx hb dX3_compare_31 ?_
  refine lv_istore (lv' := [(6, .int (nI (10 * (wd i)))), (5, .ref (vb j)), (4, .ref (vb i)), (0, .ref hb0), (1, .int xk), (2, .int xa), (3, .int xb)]) hx hb dX3_compare_32 hl (by decide) rfl (fun ls hl => ?_)
  refine lv_aload_n hx hb dX3_compare_34 rfl (lv_at hl 3 rfl) ?_
  refine lv_iload hx hb dX3_compare_35 (lv_at hl 0 rfl) ?_
  have hsz0 := hW.2.2.1
  refine x_virt (As := [.int (nI (10 * (wd i)))]) (rest := []) (wc := []) (wr := cw Z hc x ++ bl Z hb0 hk hc hm wg mo n o) hx hb hml hown hts hK hG rfl hA hl (k_needRoom l hst Z hb0 hk hc hm mo (lsq Z o) n wg (10 * wd i) hbok.2.2.1 (by omega) (by have := hbok.2.2.2.2.1; omega)) hW ⟨hW.at 5 rfl, hW.at 6 rfl⟩ (hW.at 5 rfl) rfl rfl tb_201 tb_203 ts_1 tb_1 tb_204 (nA := 1) (by decide +kernel) rfl ⟨by omega, by omega⟩ ⟨by omega, by omega⟩ rfl (Nat.le_of_ble_eq_true rfl) dX3_compare_37 (fun E q9 ce H9 L9 hpx hWx hzx hkx hce hcv hcl => x_pass hex hlk (Or.inr ⟨hpx.1, k, i, j, hk12, ek, hi, hj, ei, ej, hww, hpx.2⟩) (Nat.le_trans hsz0 hzx) (fun q hq => (hkx q (Nat.lt_of_lt_of_le hq hsz0)).trans (hsm q hq)) hce hcv hcl hWx.2.2.2.2 (by omega) (by omega)) (fun v w1 H1 L1 hp hW hzz hkk hdd => ?_)
  obtain ⟨rfl, rfl, hroom⟩ := hp
  have hsm := sm_step hsz0 hkk hsm
  clear hzz hkk hdd
  generalize H1 = H at hW hsm ⊢
  generalize L1 = locs at hW ⊢
  have hW : Wd Z A s.heap (cw Z hc x ++ bl Z hb0 hk hc hm wg mo n o) _ _ := hW
  refine W.eq (g2 := F0 m 40 ls []) rfl ?_
  exact absurd ⟨k, i, j, hk12, ek, hi, hj, ei, ej, hww, hroom⟩ hno
set_option maxHeartbeats 4000000 in
set_option maxRecDepth 100000 in
theorem k_chooseN (l : Launch) (hst : l.stackTraces = false) (Z : Zt) (hb0 hk hc hm : Nat) (x : CS) (σ : Nat → Bool) (mo : Int32) (n wg : Nat) (o : Option (Nat × Nat × (Nat → Option Nat))) (vd vb stb wd : Nat → Nat) (rw : Nat → Nat → Nat) (xc xa xb : Int32) (hbok : bok x σ n wg o vd stb wd rw) (hno : ¬ ∃ h i j, (h < n ∧ i < n ∧ j < n ∧ xc = nI h ∧ xa = nI i ∧ xb = nI j ∧ wd i = wd j ∧ wd h = 1) ∧ 4 * wd i + wg ≤ 100000) : MX l yX3_choose cX3_choose 8 (some .int) 11 600 (10) (60) Z (cw Z hc x ++ bl Z hb0 hk hc hm wg mo n o) (fun H => BRO Z (cw Z hc x ++ bl Z hb0 hk hc hm wg mo n o) hk hc n vd vb stb wd rw H) [.ref hb0, .int xc, .int xa, .int xb] (fun _ _ => False) (fun E => (E = IAE ∧ ¬ ∃ h i j, h < n ∧ i < n ∧ j < n ∧ xc = nI h ∧ xa = nI i ∧ xb = nI j ∧ wd i = wd j ∧ wd h = 1) ∨ (E = ISE ∧ ∃ h i j, (h < n ∧ i < n ∧ j < n ∧ xc = nI h ∧ xa = nI i ∧ xb = nI j ∧ wd i = wd j ∧ wd h = 1) ∧ ¬ 4 * wd i + wg ≤ 100000)) := by
  refine mx_of (by decide) (Nat.le_of_ble_eq_true rfl) (fun p e s m below meth c ls A hx hb hr hts hown hlk hml hex hK hG hW hA hAe hro hl R hRf hRc hRs hRl => ?_)
  have hl : lv_has ls 8 [(0, .ref hb0), (1, .int xc), (2, .int xa), (3, .int xb)] := hl
  have hsm : ∀ q : Nat, q < s.heap.size → s.heap[q]? = s.heap[q]? := fun _ _ => rfl
  refine lv_aload_n hx hb dX3_choose_0 rfl (lv_at hl 0 rfl) ?_
  refine lv_iload_n hx hb dX3_choose_1 rfl (lv_at hl 1 rfl) ?_
  have hsz0 := hW.2.2.1
  refine x_virt (As := [.int xc]) (rest := []) (wc := []) (wr := cw Z hc x ++ bl Z hb0 hk hc hm wg mo n o) hx hb hml hown hts hK hG rfl hA hl (k_bitsOf l hst Z hb0 hk hc hm mo n wg o vd vb stb xc hbok.2.1) hW ⟨hW.at 5 rfl, suf_P (wc := cw Z hc x ++ [bo hb0 hk hc hm wg]) hW.1, fun i hi => (hro.here hAe hW hi).1⟩ (hW.at 5 rfl) rfl rfl tb_337 tb_339 ts_6 tb_1 tb_340 (nA := 1) (by decide +kernel) rfl ⟨by omega, by omega⟩ ⟨by omega, by omega⟩ rfl (Nat.le_of_ble_eq_true rfl) dX3_choose_2 (fun E q9 ce H9 L9 hpx hWx hzx hkx hce hcv hcl => x_pass hex hlk (Or.inl ⟨hpx.1, fun ⟨h, i, j, z⟩ => hpx.2 ⟨h, z.1, z.2.2.2.1⟩⟩) (Nat.le_trans hsz0 hzx) (fun q hq => (hkx q (Nat.lt_of_lt_of_le hq hsz0)).trans (hsm q hq)) hce hcv hcl hWx.2.2.2.2 (by omega) (by omega)) (fun v w1 H1 L1 hp hW hzz hkk hdd => ?_)
  obtain ⟨rfl, h, hh, eh, rfl⟩ := hp
  have hsm := sm_step hsz0 hkk hsm
  clear hzz hkk hdd
  generalize H1 = H at hW hsm ⊢
  generalize L1 = locs at hW ⊢
  have hW : Wd Z A s.heap (cw Z hc x ++ bl Z hb0 hk hc hm wg mo n o) _ _ := hW
  refine W.eq (g2 := F0 m 5 ls [.ref (vb h)]) rfl ?_
  obtain ⟨w1_h, w2_h, w3_h, w4_h⟩ := hbok.2.2.2.2.2 h hh
  refine lv_astore (lv' := [(4, .ref (vb h)), (0, .ref hb0), (1, .int xc), (2, .int xa), (3, .int xb)]) hx hb dX3_choose_5 hl (by decide) rfl (fun ls hl => ?_)
  refine lv_aload_n hx hb dX3_choose_7 rfl (lv_at hl 1 rfl) ?_
  refine lv_iload_n hx hb dX3_choose_8 rfl (lv_at hl 3 rfl) ?_
  have hsz0 := hW.2.2.1
  refine x_virt (As := [.int xa]) (rest := []) (wc := []) (wr := cw Z hc x ++ bl Z hb0 hk hc hm wg mo n o) hx hb hml hown hts hK hG rfl hA hl (k_bitsOf l hst Z hb0 hk hc hm mo n wg o vd vb stb xa hbok.2.1) hW ⟨hW.at 5 rfl, suf_P (wc := cw Z hc x ++ [bo hb0 hk hc hm wg]) hW.1, fun i hi => (hro.here hAe hW hi).1⟩ (hW.at 5 rfl) rfl rfl tb_337 tb_339 ts_6 tb_1 tb_340 (nA := 1) (by decide +kernel) rfl ⟨by omega, by omega⟩ ⟨by omega, by omega⟩ rfl (Nat.le_of_ble_eq_true rfl) dX3_choose_9 (fun E q9 ce H9 L9 hpx hWx hzx hkx hce hcv hcl => x_pass hex hlk (Or.inl ⟨hpx.1, fun ⟨h, i, j, z⟩ => hpx.2 ⟨i, z.2.1, z.2.2.2.2.1⟩⟩) (Nat.le_trans hsz0 hzx) (fun q hq => (hkx q (Nat.lt_of_lt_of_le hq hsz0)).trans (hsm q hq)) hce hcv hcl hWx.2.2.2.2 (by omega) (by omega)) (fun v w1 H1 L1 hp hW hzz hkk hdd => ?_)
  obtain ⟨rfl, i, hi, ei, rfl⟩ := hp
  have hsm := sm_step hsz0 hkk hsm
  clear hzz hkk hdd
  generalize H1 = H at hW hsm ⊢
  generalize L1 = locs at hW ⊢
  have hW : Wd Z A s.heap (cw Z hc x ++ bl Z hb0 hk hc hm wg mo n o) _ _ := hW
  refine W.eq (g2 := F0 m 12 ls [.ref (vb i)]) rfl ?_
  obtain ⟨w1_i, w2_i, w3_i, w4_i⟩ := hbok.2.2.2.2.2 i hi
  refine lv_astore (lv' := [(5, .ref (vb i)), (4, .ref (vb h)), (0, .ref hb0), (1, .int xc), (2, .int xa), (3, .int xb)]) hx hb dX3_choose_12 hl (by decide) rfl (fun ls hl => ?_)
  refine lv_aload_n hx hb dX3_choose_14 rfl (lv_at hl 2 rfl) ?_
  refine lv_iload_n hx hb dX3_choose_15 rfl (lv_at hl 5 rfl) ?_
  have hsz0 := hW.2.2.1
  refine x_virt (As := [.int xb]) (rest := []) (wc := []) (wr := cw Z hc x ++ bl Z hb0 hk hc hm wg mo n o) hx hb hml hown hts hK hG rfl hA hl (k_bitsOf l hst Z hb0 hk hc hm mo n wg o vd vb stb xb hbok.2.1) hW ⟨hW.at 5 rfl, suf_P (wc := cw Z hc x ++ [bo hb0 hk hc hm wg]) hW.1, fun i hi => (hro.here hAe hW hi).1⟩ (hW.at 5 rfl) rfl rfl tb_337 tb_339 ts_6 tb_1 tb_340 (nA := 1) (by decide +kernel) rfl ⟨by omega, by omega⟩ ⟨by omega, by omega⟩ rfl (Nat.le_of_ble_eq_true rfl) dX3_choose_16 (fun E q9 ce H9 L9 hpx hWx hzx hkx hce hcv hcl => x_pass hex hlk (Or.inl ⟨hpx.1, fun ⟨h, i, j, z⟩ => hpx.2 ⟨j, z.2.2.1, z.2.2.2.2.2.1⟩⟩) (Nat.le_trans hsz0 hzx) (fun q hq => (hkx q (Nat.lt_of_lt_of_le hq hsz0)).trans (hsm q hq)) hce hcv hcl hWx.2.2.2.2 (by omega) (by omega)) (fun v w1 H1 L1 hp hW hzz hkk hdd => ?_)
  obtain ⟨rfl, j, hj, ej, rfl⟩ := hp
  have hsm := sm_step hsz0 hkk hsm
  clear hzz hkk hdd
  generalize H1 = H at hW hsm ⊢
  generalize L1 = locs at hW ⊢
  have hW : Wd Z A s.heap (cw Z hc x ++ bl Z hb0 hk hc hm wg mo n o) _ _ := hW
  refine W.eq (g2 := F0 m 19 ls [.ref (vb j)]) rfl ?_
  obtain ⟨w1_j, w2_j, w3_j, w4_j⟩ := hbok.2.2.2.2.2 j hj
  refine lv_astore (lv' := [(6, .ref (vb j)), (5, .ref (vb i)), (4, .ref (vb h)), (0, .ref hb0), (1, .int xc), (2, .int xa), (3, .int xb)]) hx hb dX3_choose_19 hl (by decide) rfl (fun ls hl => ?_)
  refine lv_aload hx hb dX3_choose_21 (lv_at hl 1 rfl) ?_
  refine lv_aload hx hb dX3_choose_23 (lv_at hl 0 rfl) ?_
  have hn5 := hbok.2.2.2.2.1
  have inj : ∀ a b : Nat, a < n → b < n → nI a = nI b → a = b := fun a b ha hb h => (nI_eq (by omega) (by omega)).mp h
  have hxn := hbok.2.2.2.1
  have hwb := hbok.2.2.1
  have hx1 := stp.rf hbok.1
  have hsz0 := hW.2.2.1
  refine x_stat (As := [.ref (vb i), .ref (vb j)]) (rest := []) (wc := []) (wr := cw Z hc x ++ bl Z hb0 hk hc hm wg mo n o) hx hb hml hown hts hK hG rfl hA hl (k_needSameWidth l hst Z (vb i) (vb j) (wd i) (wd j) (rw i) (rw j) (by omega) (by omega)) hW ⟨(hro.here hAe hW hi).2, (hro.here hAe hW hj).2⟩ tb_396 tb_397 tb_1 tb_398 (nA := 2) (by decide +kernel) rfl ⟨by omega, by omega⟩ ⟨by omega, by omega⟩ rfl (Nat.le_of_ble_eq_true rfl) dX3_choose_25 (fun E q9 ce H9 L9 hpx hWx hzx hkx hce hcv hcl => x_pass hex hlk (Or.inl ⟨hpx.1, fun ⟨c1, a, b, z⟩ => hpx.2 (by rw [inj i a hi z.2.1 (ei.symm.trans z.2.2.2.2.1), inj j b hj z.2.2.1 (ej.symm.trans z.2.2.2.2.2.1)]; exact z.2.2.2.2.2.2.1)⟩) (Nat.le_trans hsz0 hzx) (fun q hq => (hkx q (Nat.lt_of_lt_of_le hq hsz0)).trans (hsm q hq)) hce hcv hcl hWx.2.2.2.2 (by omega) (by omega)) (fun v w1 H1 L1 hp hW hzz hkk hdd => ?_)
  obtain ⟨rfl, rfl, hww⟩ := hp
  have hsm := sm_step hsz0 hkk hsm
  clear hzz hkk hdd
  generalize H1 = H at hW hsm ⊢
  generalize L1 = locs at hW ⊢
  have hW : Wd Z A s.heap (cw Z hc x ++ bl Z hb0 hk hc hm wg mo n o) _ _ := hW
  refine W.eq (g2 := F0 m 28 ls []) rfl ?_
  refine lv_aload hx hb dX3_choose_28 (lv_at hl 2 rfl) ?_
  refine r_len hx hb hK (hro.here hAe hW hh).2 dX3_choose_30 ?_
  refine lv_iconst (v := nI 1) hx hb dX3_choose_31 (by decide) ?_
  by_cases hw1h : wd h = 1
  · refine n_eq_t (tgt := 45) hx hb (by omega) dX3_choose_32 (by decide) ?_
    refine lv_iconst (v := nI 4) hx hb dX3_choose_45 (by decide) ?_
    refine lv_aload hx hb dX3_choose_46 (lv_at hl 1 rfl) ?_
    refine r_len hx hb hK (hro.here hAe hW hi).2 dX3_choose_48 ?_
    refine n_imul hx hb dX3_choose_49 ?_
    refine lv_istore (lv' := [(7, .int (nI (4 * (wd i)))), (6, .ref (vb j)), (5, .ref (vb i)), (4, .ref (vb h)), (0, .ref hb0), (1, .int xc), (2, .int xa), (3, .int xb)]) hx hb dX3_choose_50 hl (by decide) rfl (fun ls hl => ?_)
    refine lv_aload_n hx hb dX3_choose_52 rfl (lv_at hl 4 rfl) ?_
    refine lv_iload hx hb dX3_choose_53 (lv_at hl 0 rfl) ?_
    have hsz0 := hW.2.2.1
    refine x_virt (As := [.int (nI (4 * (wd i)))]) (rest := []) (wc := []) (wr := cw Z hc x ++ bl Z hb0 hk hc hm wg mo n o) hx hb hml hown hts hK hG rfl hA hl (k_needRoom l hst Z hb0 hk hc hm mo (lsq Z o) n wg (4 * wd i) hbok.2.2.1 (by omega) (by have := hbok.2.2.2.2.1; omega)) hW ⟨hW.at 5 rfl, hW.at 6 rfl⟩ (hW.at 5 rfl) rfl rfl tb_201 tb_203 ts_1 tb_1 tb_204 (nA := 1) (by decide +kernel) rfl ⟨by omega, by omega⟩ ⟨by omega, by omega⟩ rfl (Nat.le_of_ble_eq_true rfl) dX3_choose_55 (fun E q9 ce H9 L9 hpx hWx hzx hkx hce hcv hcl => x_pass hex hlk (Or.inr ⟨hpx.1, h, i, j, ⟨hh, hi, hj, eh, ei, ej, hww, hw1h⟩, hpx.2⟩) (Nat.le_trans hsz0 hzx) (fun q hq => (hkx q (Nat.lt_of_lt_of_le hq hsz0)).trans (hsm q hq)) hce hcv hcl hWx.2.2.2.2 (by omega) (by omega)) (fun v w1 H1 L1 hp hW hzz hkk hdd => ?_)
    obtain ⟨rfl, rfl, hroom⟩ := hp
    have hsm := sm_step hsz0 hkk hsm
    clear hzz hkk hdd
    generalize H1 = H at hW hsm ⊢
    generalize L1 = locs at hW ⊢
    have hW : Wd Z A s.heap (cw Z hc x ++ bl Z hb0 hk hc hm wg mo n o) _ _ := hW
    refine W.eq (g2 := F0 m 58 ls []) rfl ?_
    exact absurd ⟨h, i, j, ⟨hh, hi, hj, eh, ei, ej, hww, hw1h⟩, hroom⟩ hno
  · refine n_eq_f (tgt := 45) hx hb (by omega) (by omega) (by omega) dX3_choose_32 (by decide) ?_
    exact th_IAE hx hb hst hown hts hG hW hml hl hex hlk (is := 92) (text := "what chooses is not of width 1") (by decide) dX3_choose_35 dX3_choose_38 dX3_choose_39 dX3_choose_41 dX3_choose_44 (by omega) (by rw [hRl]; exact Nat.le_of_ble_eq_true rfl) (by omega) (by omega) (Or.inl ⟨rfl, fun ⟨c1, a, b, z⟩ => hw1h (by rw [inj h c1 hh z.1 (eh.symm.trans z.2.2.2.1)]; exact z.2.2.2.2.2.2.2)⟩) hsm (by omega) (by omega)
set_option maxHeartbeats 4000000 in
set_option maxRecDepth 100000 in
theorem k_constantN (l : Launch) (hst : l.stackTraces = false) (Z : Zt) (hb0 hk hc hm : Nat) (x : CS) (σ : Nat → Bool) (mo : Int32) (n wg : Nat) (o : Option (Nat × Nat × (Nat → Option Nat))) (vd vb stb wd : Nat → Nat) (rw : Nat → Nat → Nat) (xw : Int32) (xv : Int64) (hbok : bok x σ n wg o vd stb wd rw) (hno : ¬ ∃ w, (1 ≤ w ∧ w ≤ 64 ∧ xw = nI w) ∧ w + wg ≤ 100000) : MX l yX3_constant cX3_constant 6 (some .int) 11 600 (10) (60) Z (cw Z hc x ++ bl Z hb0 hk hc hm wg mo n o) (fun H => BRO Z (cw Z hc x ++ bl Z hb0 hk hc hm wg mo n o) hk hc n vd vb stb wd rw H) [.ref hb0, .int xw, .long xv] (fun _ _ => False) (fun E => (E = IAE ∧ ¬ wid xw) ∨ (E = ISE ∧ ∃ w, (1 ≤ w ∧ w ≤ 64 ∧ xw = nI w) ∧ ¬ w + wg ≤ 100000)) := by
  refine mx_of (by decide) (Nat.le_of_ble_eq_true rfl) (fun p e s m below meth c ls A hx hb hr hts hown hlk hml hex hK hG hW hA hAe hro hl R hRf hRc hRs hRl => ?_)
  have hl : lv_has ls 6 [(0, .ref hb0), (1, .int xw), (2, .long xv)] := hl
  have hsm : ∀ q : Nat, q < s.heap.size → s.heap[q]? = s.heap[q]? := fun _ _ => rfl
  refine lv_iload_n hx hb dX3_constant_0 rfl (lv_at hl 1 rfl) ?_
  have hsz0 := hW.2.2.1
  refine x_stat (As := [.int xw]) (rest := []) (wc := []) (wr := cw Z hc x ++ bl Z hb0 hk hc hm wg mo n o) hx hb hml hown hts hK hG rfl hA hl (k_needWidth l hst Z xw) hW trivial tb_131 tb_132 tb_1 tb_133 (nA := 1) (by decide +kernel) rfl ⟨by omega, by omega⟩ ⟨by omega, by omega⟩ rfl (Nat.le_of_ble_eq_true rfl) dX3_constant_1 (fun E q9 ce H9 L9 hpx hWx hzx hkx hce hcv hcl => x_pass hex hlk (Or.inl hpx) (Nat.le_trans hsz0 hzx) (fun q hq => (hkx q (Nat.lt_of_lt_of_le hq hsz0)).trans (hsm q hq)) hce hcv hcl hWx.2.2.2.2 (by omega) (by omega)) (fun v w1 H1 L1 hp hW hzz hkk hdd => ?_)
  obtain ⟨rfl, rfl, hwid⟩ := hp
  have hsm := sm_step hsz0 hkk hsm
  clear hzz hkk hdd
  generalize H1 = H at hW hsm ⊢
  generalize L1 = locs at hW ⊢
  have hW : Wd Z A s.heap (cw Z hc x ++ bl Z hb0 hk hc hm wg mo n o) _ _ := hW
  refine W.eq (g2 := F0 m 4 ls []) rfl ?_
  obtain ⟨w, hw1, hw64, rfl⟩ := hwid
  have hn5 := hbok.2.2.2.2.1
  have inj : ∀ a b : Nat, a < n → b < n → nI a = nI b → a = b := fun a b ha hb h => (nI_eq (by omega) (by omega)).mp h
  have hxn := hbok.2.2.2.1
  have hwb := hbok.2.2.1
  have hx1 := stp.rf hbok.1
  refine lv_aload_n hx hb dX3_constant_4 rfl (lv_at hl 0 rfl) ?_
  refine lv_iload_n hx hb dX3_constant_5 rfl (lv_at hl 1 rfl) ?_
  have hsz0 := hW.2.2.1
  refine x_virt (As := [.int (nI w)]) (rest := []) (wc := []) (wr := cw Z hc x ++ bl Z hb0 hk hc hm wg mo n o) hx hb hml hown hts hK hG rfl hA hl (k_needRoom l hst Z hb0 hk hc hm mo (lsq Z o) n wg (w) hbok.2.2.1 (by omega) (by have := hbok.2.2.2.2.1; omega)) hW ⟨hW.at 5 rfl, hW.at 6 rfl⟩ (hW.at 5 rfl) rfl rfl tb_201 tb_203 ts_1 tb_1 tb_204 (nA := 1) (by decide +kernel) rfl ⟨by omega, by omega⟩ ⟨by omega, by omega⟩ rfl (Nat.le_of_ble_eq_true rfl) dX3_constant_6 (fun E q9 ce H9 L9 hpx hWx hzx hkx hce hcv hcl => x_pass hex hlk (Or.inr ⟨hpx.1, w, ⟨hw1, hw64, rfl⟩, hpx.2⟩) (Nat.le_trans hsz0 hzx) (fun q hq => (hkx q (Nat.lt_of_lt_of_le hq hsz0)).trans (hsm q hq)) hce hcv hcl hWx.2.2.2.2 (by omega) (by omega)) (fun v w1 H1 L1 hp hW hzz hkk hdd => ?_)
  obtain ⟨rfl, rfl, hroom⟩ := hp
  have hsm := sm_step hsz0 hkk hsm
  clear hzz hkk hdd
  generalize H1 = H at hW hsm ⊢
  generalize L1 = locs at hW ⊢
  have hW : Wd Z A s.heap (cw Z hc x ++ bl Z hb0 hk hc hm wg mo n o) _ _ := hW
  refine W.eq (g2 := F0 m 9 ls []) rfl ?_
  exact absurd ⟨w, ⟨hw1, hw64, rfl⟩, hroom⟩ hno
