theorem GC_le : ∀ k, k < 5 → ∀ w, w < 65 → 1 ≤ w → GC k w ≤ 10 * w := by decide +kernel
set_option maxHeartbeats 4000000 in
set_option maxRecDepth 100000 in
/-- VectorBench.compare -/
theorem k_compare (l : Launch) (hst : l.stackTraces = false) (Z : Zt) (hb0 hk hc hm : Nat) (x : CS) (σ : Nat → Bool) (mo : Int32) (n wg : Nat) (o : Option (Nat × Nat × (Nat → Option Nat))) (vd vb stb wd : Nat → Nat) (rw : Nat → Nat → Nat) (xk xa xb : Int32) (hbok : bok x σ n wg o vd stb wd rw) : MX l yX3_compare cX3_compare 8 (some .int) 11 600 (30 + 4 * (capU (xu x) (xn x + GC xk.toNatClampNeg (wd xa.toNatClampNeg)) - xu x)) (10 * wd xa.toNatClampNeg + 1000 + 512 * (capU (xu x) (xn x + GC xk.toNatClampNeg (wd xa.toNatClampNeg)) - xu x)) Z (cw Z hc x ++ bl Z hb0 hk hc hm wg mo n o) (fun H => BRO Z (cw Z hc x ++ bl Z hb0 hk hc hm wg mo n o) hk hc n vd vb stb wd rw H) [.ref hb0, .int xk, .int xa, .int xb] (fun r w1 => ∃ k i j, k ≤ 4 ∧ xk = nI k ∧ i < n ∧ j < n ∧ xa = nI i ∧ xb = nI j ∧ wd i = wd j ∧ 10 * wd i + wg ≤ 100000 ∧ newQ Z hb0 hk hc hm x σ mo n wg vd (10 * wd i) (GC k (wd i)) (1) 0 (fun y f => ∀ τ, gd τ → vl y τ (f 0) = VC x (rw i) (rw j) (wd i) k τ) r w1) (fun E => (E = IAE ∧ ¬ (knd xk 4 ∧ ∃ i j, i < n ∧ j < n ∧ xa = nI i ∧ xb = nI j ∧ wd i = wd j)) ∨ (E = ISE ∧ ∃ k i j, k ≤ 4 ∧ xk = nI k ∧ i < n ∧ j < n ∧ xa = nI i ∧ xb = nI j ∧ wd i = wd j ∧ ¬ 10 * wd i + wg ≤ 100000)) := by
  refine mx_of (by decide) (Nat.le_of_ble_eq_true rfl) (fun p e s m below meth c ls A hx hb hr hts hown hlk hml hex hK hG hW hA hAe hro hl R hRf hRc hRs hRl => ?_)
  have hl : lv_has ls 8 [(0, .ref hb0), (1, .int xk), (2, .int xa), (3, .int xb)] := hl
  have hsm : ∀ q : Nat, q < s.heap.size → s.heap[q]? = s.heap[q]? := fun _ _ => rfl
  refine lv_iload_n hx hb dX3_compare_0 rfl (lv_at hl 1 rfl) ?_
  refine lv_iconst (v := nI 4) hx hb dX3_compare_1 (by decide) ?_
  have hsz0 := hW.2.2.1
  refine x_stat (As := [.int xk, .int (nI 4)]) (rest := []) (wc := []) (wr := cw Z hc x ++ bl Z hb0 hk hc hm wg mo n o) hx hb hml hown hts hK hG rfl hA hl (k_needKind l hst Z xk 4 (by decide)) hW trivial tb_333 tb_334 tb_1 tb_335 (nA := 2) (by decide +kernel) rfl ⟨by omega, by omega⟩ ⟨by omega, by omega⟩ rfl (Nat.le_of_ble_eq_true rfl) dX3_compare_2 (fun E q9 ce H9 L9 hpx hWx hzx hkx hce hcv hcl => x_pass hex hlk (Or.inl ⟨hpx.1, fun h => hpx.2 h.1⟩) (Nat.le_trans hsz0 hzx) (fun q hq => (hkx q (Nat.lt_of_lt_of_le hq hsz0)).trans (hsm q hq)) hce hcv hcl hWx.2.2.2.2 (by omega) (by omega)) (fun v w1 H1 L1 hp hW hzz hkk hdd => ?_)
  obtain ⟨rfl, rfl, hkd⟩ := hp
  have hsm := sm_step hsz0 hkk hsm
  clear hzz hkk hdd
  generalize H1 = H at hW hsm ⊢
  generalize L1 = locs at hW ⊢
  have hW : Wd Z A s.heap (cw Z hc x ++ bl Z hb0 hk hc hm wg mo n o) _ _ := hW
  refine W.eq (g2 := F0 m 5 ls []) rfl ?_
  refine lv_aload_n hx hb dX3_compare_5 rfl (lv_at hl 0 rfl) ?_
  refine lv_iload_n hx hb dX3_compare_6 rfl (lv_at hl 2 rfl) ?_
  have hsz0 := hW.2.2.1
  refine x_virt (As := [.int xa]) (rest := []) (wc := []) (wr := cw Z hc x ++ bl Z hb0 hk hc hm wg mo n o) hx hb hml hown hts hK hG rfl hA hl (k_bitsOf l hst Z hb0 hk hc hm mo n wg o vd vb stb xa hbok.2.1) hW ⟨hW.at 5 rfl, suf_P (wc := cw Z hc x ++ [bo hb0 hk hc hm wg]) hW.1, fun i hi => (hro.here hAe hW hi).1⟩ (hW.at 5 rfl) rfl rfl tb_337 tb_339 ts_6 tb_1 tb_340 (nA := 1) (by decide +kernel) rfl ⟨by omega, by omega⟩ ⟨by omega, by omega⟩ rfl (Nat.le_of_ble_eq_true rfl) dX3_compare_7 (fun E q9 ce H9 L9 hpx hWx hzx hkx hce hcv hcl => x_pass hex hlk (Or.inl ⟨hpx.1, fun h => hpx.2 (h.2.elim fun i h => h.elim fun j h => ⟨i, h.1, h.2.2.1⟩)⟩) (Nat.le_trans hsz0 hzx) (fun q hq => (hkx q (Nat.lt_of_lt_of_le hq hsz0)).trans (hsm q hq)) hce hcv hcl hWx.2.2.2.2 (by omega) (by omega)) (fun v w1 H1 L1 hp hW hzz hkk hdd => ?_)
  obtain ⟨rfl, i, hi, ei, rfl⟩ := hp
  have hsm := sm_step hsz0 hkk hsm
  clear hzz hkk hdd
  generalize H1 = H at hW hsm ⊢
  generalize L1 = locs at hW ⊢
  have hW : Wd Z A s.heap (cw Z hc x ++ bl Z hb0 hk hc hm wg mo n o) _ _ := hW
  refine W.eq (g2 := F0 m 10 ls [.ref (vb i)]) rfl ?_
  obtain ⟨w1_i, w2_i, w3_i, w4_i⟩ := hbok.2.2.2.2.2 i hi
  refine lv_astore (lv' := [(4, .ref (vb i)), (0, .ref hb0), (1, .int xk), (2, .int xa), (3, .int xb)]) hx hb dX3_compare_10 hl (by decide) rfl (fun ls hl => ?_)
  refine lv_aload_n hx hb dX3_compare_12 rfl (lv_at hl 1 rfl) ?_
  refine lv_iload_n hx hb dX3_compare_13 rfl (lv_at hl 4 rfl) ?_
  have hsz0 := hW.2.2.1
  refine x_virt (As := [.int xb]) (rest := []) (wc := []) (wr := cw Z hc x ++ bl Z hb0 hk hc hm wg mo n o) hx hb hml hown hts hK hG rfl hA hl (k_bitsOf l hst Z hb0 hk hc hm mo n wg o vd vb stb xb hbok.2.1) hW ⟨hW.at 5 rfl, suf_P (wc := cw Z hc x ++ [bo hb0 hk hc hm wg]) hW.1, fun i hi => (hro.here hAe hW hi).1⟩ (hW.at 5 rfl) rfl rfl tb_337 tb_339 ts_6 tb_1 tb_340 (nA := 1) (by decide +kernel) rfl ⟨by omega, by omega⟩ ⟨by omega, by omega⟩ rfl (Nat.le_of_ble_eq_true rfl) dX3_compare_14 (fun E q9 ce H9 L9 hpx hWx hzx hkx hce hcv hcl => x_pass hex hlk (Or.inl ⟨hpx.1, fun h => hpx.2 (h.2.elim fun i h => h.elim fun j h => ⟨j, h.2.1, h.2.2.2.1⟩)⟩) (Nat.le_trans hsz0 hzx) (fun q hq => (hkx q (Nat.lt_of_lt_of_le hq hsz0)).trans (hsm q hq)) hce hcv hcl hWx.2.2.2.2 (by omega) (by omega)) (fun v w1 H1 L1 hp hW hzz hkk hdd => ?_)
  obtain ⟨rfl, j, hj, ej, rfl⟩ := hp
  have hsm := sm_step hsz0 hkk hsm
  clear hzz hkk hdd
  generalize H1 = H at hW hsm ⊢
  generalize L1 = locs at hW ⊢
  have hW : Wd Z A s.heap (cw Z hc x ++ bl Z hb0 hk hc hm wg mo n o) _ _ := hW
  refine W.eq (g2 := F0 m 17 ls [.ref (vb j)]) rfl ?_
  obtain ⟨w1_j, w2_j, w3_j, w4_j⟩ := hbok.2.2.2.2.2 j hj
  refine lv_astore (lv' := [(5, .ref (vb j)), (4, .ref (vb i)), (0, .ref hb0), (1, .int xk), (2, .int xa), (3, .int xb)]) hx hb dX3_compare_17 hl (by decide) rfl (fun ls hl => ?_)
  refine lv_aload hx hb dX3_compare_19 (lv_at hl 1 rfl) ?_
  refine lv_aload hx hb dX3_compare_21 (lv_at hl 0 rfl) ?_
  have hn5 := hbok.2.2.2.2.1
  have inj : ∀ a b : Nat, a < n → b < n → nI a = nI b → a = b := fun a b ha hb h => (nI_eq (by omega) (by omega)).mp h
  have hxn := hbok.2.2.2.1
  have hwb := hbok.2.2.1
  have hx1 := stp.rf hbok.1
  have hsz0 := hW.2.2.1
  refine x_stat (As := [.ref (vb i), .ref (vb j)]) (rest := []) (wc := []) (wr := cw Z hc x ++ bl Z hb0 hk hc hm wg mo n o) hx hb hml hown hts hK hG rfl hA hl (k_needSameWidth l hst Z (vb i) (vb j) (wd i) (wd j) (rw i) (rw j) (by omega) (by omega)) hW ⟨(hro.here hAe hW hi).2, (hro.here hAe hW hj).2⟩ tb_396 tb_397 tb_1 tb_398 (nA := 2) (by decide +kernel) rfl ⟨by omega, by omega⟩ ⟨by omega, by omega⟩ rfl (Nat.le_of_ble_eq_true rfl) dX3_compare_23 (fun E q9 ce H9 L9 hpx hWx hzx hkx hce hcv hcl => x_pass hex hlk (Or.inl ⟨hpx.1, fun h => h.2.elim fun a h => h.elim fun b h => hpx.2 (by rw [inj i a hi h.1 (ei.symm.trans h.2.2.1), inj j b hj h.2.1 (ej.symm.trans h.2.2.2.1)]; exact h.2.2.2.2)⟩) (Nat.le_trans hsz0 hzx) (fun q hq => (hkx q (Nat.lt_of_lt_of_le hq hsz0)).trans (hsm q hq)) hce hcv hcl hWx.2.2.2.2 (by omega) (by omega)) (fun v w1 H1 L1 hp hW hzz hkk hdd => ?_)
  obtain ⟨rfl, rfl, hww⟩ := hp
  have hsm := sm_step hsz0 hkk hsm
  clear hzz hkk hdd
  generalize H1 = H at hW hsm ⊢
  generalize L1 = locs at hW ⊢
  have hW : Wd Z A s.heap (cw Z hc x ++ bl Z hb0 hk hc hm wg mo n o) _ _ := hW
  refine W.eq (g2 := F0 m 26 ls []) rfl ?_
  obtain ⟨k, hk12, ek⟩ := hkd
  have eki : xk.toNatClampNeg = k := vix_cl ek (by omega)
  have eai : xa.toNatClampNeg = i := vix_cl ei (by omega)
  rw [eki, eai] at hRc hRs
  rw [eki, eai]
  have hgw := GC_le k (by omega) (wd i) (by omega) (by omega)
  refine lv_bipush (v := nI 10) hx hb dX3_compare_26 (by decide) ?_
  refine lv_aload hx hb dX3_compare_28 (lv_at hl 1 rfl) ?_
  refine r_len hx hb hK (hro.here hAe hW hi).2 dX3_compare_30 ?_
  refine n_imul hx hb dX3_compare_31 ?_
  refine lv_istore (lv' := [(6, .int (nI (10 * (wd i)))), (5, .ref (vb j)), (4, .ref (vb i)), (0, .ref hb0), (1, .int xk), (2, .int xa), (3, .int xb)]) hx hb dX3_compare_32 hl (by decide) rfl (fun ls hl => ?_)
  refine lv_aload_n hx hb dX3_compare_34 rfl (lv_at hl 3 rfl) ?_
  refine lv_iload hx hb dX3_compare_35 (lv_at hl 0 rfl) ?_
  have hsz0 := hW.2.2.1
  refine x_virt (As := [.int (nI (10 * (wd i)))]) (rest := []) (wc := []) (wr := cw Z hc x ++ bl Z hb0 hk hc hm wg mo n o) hx hb hml hown hts hK hG rfl hA hl (k_needRoom l hst Z hb0 hk hc hm mo (lsq Z o) n wg (10 * wd i) hbok.2.2.1 (by omega) (by have := hbok.2.2.2.2.1; omega)) hW ⟨hW.at 5 rfl, hW.at 6 rfl⟩ (hW.at 5 rfl) rfl rfl tb_201 tb_203 ts_1 tb_1 tb_204 (nA := 1) (by decide +kernel) rfl ⟨by omega, by omega⟩ ⟨by omega, by omega⟩ rfl (Nat.le_of_ble_eq_true rfl) dX3_compare_37 (fun E q9 ce H9 L9 hpx hWx hzx hkx hce hcv hcl => x_pass hex hlk (Or.inr ⟨hpx.1, k, i, j, hk12, ek, hi, hj, ei, ej, hww, hpx.2⟩) (Nat.le_trans hsz0 hzx) (fun q hq => (hkx q (Nat.lt_of_lt_of_le hq hsz0)).trans (hsm q hq)) hce hcv hcl hWx.2.2.2.2 (by omega) (by omega)) (fun v w1 H1 L1 hp hW hzz hkk hdd => ?_)
  obtain ⟨rfl, rfl, hroom⟩ := hp
  have hsm := sm_step hsz0 hkk hsm
  clear hzz hkk hdd
  generalize H1 = H at hW hsm ⊢
  generalize L1 = locs at hW ⊢
  have hW : Wd Z A s.heap (cw Z hc x ++ bl Z hb0 hk hc hm wg mo n o) _ _ := hW
  refine W.eq (g2 := F0 m 40 ls []) rfl ?_
  refine lv_iconst (v := nI 1) hx hb dX3_compare_40 (by decide) ?_
  refine r_newa (n := 1) hx hb hts tb_65 hK hW hA (by omega) (by omega) (by omega) dX3_compare_41 (fun q H hW hsz_q hq_q => ?_)
  have hW : Wd Z A s.heap (cw Z hc x ++ (bl Z hb0 hk hc hm wg mo n o ++ [ea Z q 1 (fun _ => 0)])) _ _ := hW
  have hW : Wd Z A s.heap (cw Z hc x ++ ([ea Z q 1 (fun _ => 0)] ++ bl Z hb0 hk hc hm wg mo n o)) _ _ := Wd.swapR (w1 := cw Z hc x) (wl := bl Z hb0 hk hc hm wg mo n o) (we := [ea Z q 1 (fun _ => 0)]) hW
  refine lv_astore (lv' := [(7, .ref q), (6, .int (nI (10 * (wd i)))), (5, .ref (vb j)), (4, .ref (vb i)), (0, .ref hb0), (1, .int xk), (2, .int xa), (3, .int xb)]) hx hb dX3_compare_43 hl (by decide) rfl (fun ls hl => ?_)
  refine lv_aload hx hb dX3_compare_45 (lv_at hl 0 rfl) ?_
  refine lv_iconst (v := nI 0) hx hb dX3_compare_47 (by decide) ?_
  refine lv_aload_n hx hb dX3_compare_48 rfl (lv_at hl 4 rfl) ?_
  refine lv_iload_n hx hb dX3_compare_49 rfl (lv_at hl 5 rfl) ?_
  refine n_eqv ek ?_
  refine lv_aload hx hb dX3_compare_50 (lv_at hl 3 rfl) ?_
  refine lv_aload hx hb dX3_compare_52 (lv_at hl 2 rfl) ?_
  have hco := hx1.cost (j := GC k (wd i)) (K := GC k (wd i)) (by omega)
  have hrbj : ∀ q, q < wd i → rw j q < xn x := fun q hq => w4_j q (by omega)
  have hROj := RO.pass (wc := cw Z hc x) (wr := [ea Z q 1 (fun _ => 0)] ++ bl Z hb0 hk hc hm wg mo n o) (hro.2 j hj).2 hAe hW
  rw [← hww] at hROj
  have hbo : RO Z (cw Z hc x) (bo hb0 hk hc hm wg) _ := RO.loc (wr := [ea Z q 1 (fun _ => 0)] ++ bl Z hb0 hk hc hm wg mo n o) hW 1 rfl
  refine c_virt (As := [.int (nI k), .ref (vb i), .ref (vb j)]) (rest := [.int (nI 0), .ref q]) (wc := cw Z hc x) (wr := [ea Z q 1 (fun _ => 0)] ++ bl Z hb0 hk hc hm wg mo n o) (nl := 0) hx hb hml hown hts hK hG rfl hA hl (k_reckonComparison l Z hb0 hk hc hm wg x σ k (vb i) (vb j) (wd i) (rw i) (rw j) hbok.1 hk12 (by omega) w2_i w1_i w4_i hrbj) hW ⟨hbo, RO.pass hro.1 hAe hW, RO.pass (hro.2 i hi).2 hAe hW, hROj⟩ (hW.at 6 rfl) rfl rfl tb_676 tb_678 ts_8 tb_1 tb_679 (nA := 3) (by decide +kernel) rfl ⟨by omega, by omega⟩ ⟨by omega, by omega⟩ rfl (Nat.le_of_ble_eq_true rfl) dX3_compare_54 (fun v w1 H1 L1 hp hW hzz hkk hdd => ?_)
  obtain ⟨y, gg, rfl, rfl, hs, hgb, hgs⟩ := hp
  clear hzz hkk hdd
  generalize H1 = H at hW  ⊢
  generalize L1 = locs at hW ⊢
  have hW : Wd Z A s.heap (cw Z hc y ++ ([ea Z q 1 (fun _ => 0)] ++ bl Z hb0 hk hc hm wg mo n o)) _ _ := hW
  refine W.eq (g2 := F0 m 57 ls [.int (nI gg), .int (nI 0), .ref q]) rfl ?_
  have huy := hs.2.2.2
  refine r_ast (i := 0) (x := gg) hx hb hK hW 5 rfl (by omega) (by omega) dX3_compare_57 (fun H locs hW => ?_)
  have hW : Wd Z A s.heap (cw Z hc y ++ ([ea Z q 1 (up (fun _ => 0) 0 gg)] ++ bl Z hb0 hk hc hm wg mo n o)) _ _ := hW
  refine lv_aload_n hx hb dX3_compare_58 rfl (lv_at hl 4 rfl) ?_
  refine r_new (fs := [.null, .int 0]) hx hb hts hown hK hW hA (ci := 2) rfl in_X2 tyX2 tyX2_ok tb_246 tb_247 tb_16 (fun j hj => by rcases (show j = 0 ∨ j = 1 by omega) with rfl | rfl <;> rfl) (by omega) (by omega) dX3_compare_59 (fun nv H hW => ?_)
  have hW : Wd Z A s.heap (cw Z hc y ++ ([ea Z q 1 (up (fun _ => 0) 0 gg)] ++ (bl Z hb0 hk hc hm wg mo n o ++ [eo nv 2 [.null, .int 0]]))) _ _ := hW
  have hW : Wd Z A s.heap (cw Z hc y ++ ([ea Z q 1 (up (fun _ => 0) 0 gg), eo nv 2 [.null, .int 0]] ++ bl Z hb0 hk hc hm wg mo n o)) _ _ := Wd.swapR (w1 := cw Z hc y ++ [ea Z q 1 (up (fun _ => 0) 0 gg)]) (wl := bl Z hb0 hk hc hm wg mo n o) (we := [eo nv 2 [.null, .int 0]]) hW
  refine lv_dup hx hb dX3_compare_62 rfl ?_
  refine lv_aload hx hb dX3_compare_63 (lv_at hl 0 rfl) ?_
  refine lv_iconst (v := nI 0) hx hb dX3_compare_65 (by decide) ?_
  have hW : Wd Z A s.heap ([eo nv 2 [.null, .int 0]] ++ (cw Z hc y ++ [ea Z q 1 (up (fun _ => 0) 0 gg)] ++ (bl Z hb0 hk hc hm wg mo n o))) _ _ := Wd.rot (w1 := cw Z hc y ++ [ea Z q 1 (up (fun _ => 0) 0 gg)]) (wc := [eo nv 2 [.null, .int 0]]) (wr := bl Z hb0 hk hc hm wg mo n o) hW
  refine c_spec (b := nv) (As := [.ref q, .int (nI 0)]) (rest := [.ref nv, .ref hb0]) (wc := [eo nv 2 [.null, .int 0]]) (wr := cw Z hc y ++ ([ea Z q 1 (up (fun _ => 0) 0 gg)] ++ bl Z hb0 hk hc hm wg mo n o)) hx hb hml hown hts hK hG rfl hA hl (k_Vector l Z nv q 0 (by decide)) hW trivial tb_248 tb_249 tb_16 tb_250 rfl (nA := 2) (by decide +kernel) rfl ⟨by omega, by omega⟩ ⟨by omega, by omega⟩ rfl (Nat.le_of_ble_eq_true rfl) dX3_compare_66 (fun v w1 H1 L1 hp hW hzz hkk hdd => ?_)
  obtain ⟨rfl, rfl⟩ := hp
  clear hzz hkk hdd
  generalize H1 = H at hW  ⊢
  generalize L1 = locs at hW ⊢
  have hW : Wd Z A s.heap ([eo nv 2 [.ref q, .int (nI 0)]] ++ (cw Z hc y ++ ([ea Z q 1 (up (fun _ => 0) 0 gg)] ++ bl Z hb0 hk hc hm wg mo n o))) _ _ := hW
  refine W.eq (g2 := F0 m 69 ls [.ref nv, .ref hb0]) rfl ?_
  have hW : Wd Z A s.heap (cw Z hc y ++ [ea Z q 1 (up (fun _ => 0) 0 gg)] ++ ([eo nv 2 [.ref q, .int (nI 0)]] ++ (bl Z hb0 hk hc hm wg mo n o))) _ _ := Wd.rot (w1 := [eo nv 2 [.ref q, .int (nI 0)]]) (wc := cw Z hc y ++ [ea Z q 1 (up (fun _ => 0) 0 gg)]) (wr := bl Z hb0 hk hc hm wg mo n o) hW
  have hW : Wd Z A s.heap (cw Z hc y ++ ([ea Z q 1 (up (fun _ => 0) 0 gg), eo nv 2 [.ref q, .int (nI 0)]] ++ bl Z hb0 hk hc hm wg mo n o)) _ _ := hW
  refine lv_iload hx hb dX3_compare_69 (lv_at hl 1 rfl) ?_
  have hW : Wd Z A s.heap (bl Z hb0 hk hc hm wg mo n o ++ (cw Z hc y ++ [ea Z q 1 (up (fun _ => 0) 0 gg), eo nv 2 [.ref q, .int (nI 0)]])) _ _ := Wd.swap2 (w1 := cw Z hc y ++ [ea Z q 1 (up (fun _ => 0) 0 gg), eo nv 2 [.ref q, .int (nI 0)]]) (wc := bl Z hb0 hk hc hm wg mo n o) hW
  refine c_virt (As := [.ref nv, .int (nI (10 * (wd i)))]) (rest := []) (wc := bl Z hb0 hk hc hm wg mo n o) (wr := cw Z hc y ++ [ea Z q 1 (up (fun _ => 0) 0 gg), eo nv 2 [.ref q, .int (nI 0)]]) (nl := 0) hx hb hml hown hts hK hG rfl hA hl (k_keep l Z hb0 hk hc hm mo n wg (10 * wd i) nv o vd hbok.2.1 hbok.2.2.2.2.1 hroom) hW ⟨⟨_, RO.loc hW 6 rfl⟩, fun i hi => ⟨_, RO.pass (hro.2 i hi).1 hAe hW⟩⟩ (hW.at 0 rfl) rfl rfl tb_261 tb_263 ts_2 tb_1 tb_264 (nA := 2) (by decide +kernel) rfl ⟨by omega, by omega⟩ ⟨by omega, by omega⟩ rfl (Nat.le_of_ble_eq_true rfl) dX3_compare_71 (fun v w1 H1 L1 hp hW hzz hkk hdd => ?_)
  obtain ⟨o2, rfl, rfl, hadd⟩ := hp
  clear hzz hkk hdd
  generalize H1 = H at hW  ⊢
  generalize L1 = locs at hW ⊢
  have hW : Wd Z A s.heap (bl Z hb0 hk hc hm (wg + (10 * wd i)) (mo + nI 1) (n + 1) o2 ++ (cw Z hc y ++ [ea Z q 1 (up (fun _ => 0) 0 gg), eo nv 2 [.ref q, .int (nI 0)]])) _ _ := hW
  refine W.eq (g2 := F0 m 74 ls [.int (nI n)]) rfl ?_
  have hW : Wd Z A s.heap (cw Z hc y ++ [ea Z q 1 (up (fun _ => 0) 0 gg), eo nv 2 [.ref q, .int (nI 0)]] ++ bl Z hb0 hk hc hm (wg + (10 * wd i)) (mo + nI 1) (n + 1) o2) _ _ := Wd.swap2 (w1 := bl Z hb0 hk hc hm (wg + (10 * wd i)) (mo + nI 1) (n + 1) o2) (wc := cw Z hc y ++ [ea Z q 1 (up (fun _ => 0) 0 gg), eo nv 2 [.ref q, .int (nI 0)]]) hW
  have hW : Wd Z A s.heap (cw Z hc y ++ [eo nv 2 [.ref q, .int (nI 0)], ea Z q 1 (up (fun _ => 0) 0 gg)] ++ bl Z hb0 hk hc hm (wg + (10 * wd i)) (mo + nI 1) (n + 1) o2) _ _ := Wd.subL (w1 := cw Z hc y ++ [ea Z q 1 (up (fun _ => 0) 0 gg), eo nv 2 [.ref q, .int (nI 0)]]) (w2 := cw Z hc y ++ [eo nv 2 [.ref q, .int (nI 0)], ea Z q 1 (up (fun _ => 0) 0 gg)]) (wl := bl Z hb0 hk hc hm (wg + (10 * wd i)) (mo + nI 1) (n + 1) o2) hW [0, 1, 2, 3, 4, 6, 5] (by decide) rfl
  refine vx_ret (e_int hx hb hr hlk hAe hW (by omega) (by omega) dX3_compare_74 ?_)
  exact ⟨k, i, j, hk12, ek, hi, hj, ei, ej, hww, hroom, y, nv, q, _, o2, rfl, rfl, hs, fun z hz => (by rw [show z = 0 by omega, up_s]; exact hgb), hadd, fun τ hτ => (by rw [up_s]; exact hgs τ hτ)⟩
set_option maxHeartbeats 4000000 in
set_option maxRecDepth 100000 in
/-- VectorBench.choose -/
theorem k_choose (l : Launch) (hst : l.stackTraces = false) (Z : Zt) (hb0 hk hc hm : Nat) (x : CS) (σ : Nat → Bool) (mo : Int32) (n wg : Nat) (o : Option (Nat × Nat × (Nat → Option Nat))) (vd vb stb wd : Nat → Nat) (rw : Nat → Nat → Nat) (xc xa xb : Int32) (hbok : bok x σ n wg o vd stb wd rw) : MX l yX3_choose cX3_choose 8 (some .int) 11 600 (30 + 4 * (capU (xu x) (xn x + 3 * wd xa.toNatClampNeg) - xu x)) (2 * wd xa.toNatClampNeg + 1000 + 512 * (capU (xu x) (xn x + 3 * wd xa.toNatClampNeg) - xu x)) Z (cw Z hc x ++ bl Z hb0 hk hc hm wg mo n o) (fun H => BRO Z (cw Z hc x ++ bl Z hb0 hk hc hm wg mo n o) hk hc n vd vb stb wd rw H) [.ref hb0, .int xc, .int xa, .int xb] (fun r w1 => ∃ h i j, (h < n ∧ i < n ∧ j < n ∧ xc = nI h ∧ xa = nI i ∧ xb = nI j ∧ wd i = wd j ∧ wd h = 1) ∧ 4 * wd i + wg ≤ 100000 ∧ newQ Z hb0 hk hc hm x σ mo n wg vd (4 * wd i) (3 * wd i) (wd i) 0 (fun y f => ∀ τ, gd τ → ∀ z, z < wd i → vl y τ (f z) = if vl x τ (rw h 0) then vl x τ (rw i z) else vl x τ (rw j z)) r w1) (fun E => (E = IAE ∧ ¬ ∃ h i j, h < n ∧ i < n ∧ j < n ∧ xc = nI h ∧ xa = nI i ∧ xb = nI j ∧ wd i = wd j ∧ wd h = 1) ∨ (E = ISE ∧ ∃ h i j, (h < n ∧ i < n ∧ j < n ∧ xc = nI h ∧ xa = nI i ∧ xb = nI j ∧ wd i = wd j ∧ wd h = 1) ∧ ¬ 4 * wd i + wg ≤ 100000)) := by
  refine mx_of (by decide) (Nat.le_of_ble_eq_true rfl) (fun p e s m below meth c ls A hx hb hr hts hown hlk hml hex hK hG hW hA hAe hro hl R hRf hRc hRs hRl => ?_)
  have hl : lv_has ls 8 [(0, .ref hb0), (1, .int xc), (2, .int xa), (3, .int xb)] := hl
  have hsm : ∀ q : Nat, q < s.heap.size → s.heap[q]? = s.heap[q]? := fun _ _ => rfl
  refine lv_aload_n hx hb dX3_choose_0 rfl (lv_at hl 0 rfl) ?_
  refine lv_iload_n hx hb dX3_choose_1 rfl (lv_at hl 1 rfl) ?_
  have hsz0 := hW.2.2.1
  refine x_virt (As := [.int xc]) (rest := []) (wc := []) (wr := cw Z hc x ++ bl Z hb0 hk hc hm wg mo n o) hx hb hml hown hts hK hG rfl hA hl (k_bitsOf l hst Z hb0 hk hc hm mo n wg o vd vb stb xc hbok.2.1) hW ⟨hW.at 5 rfl, suf_P (wc := cw Z hc x ++ [bo hb0 hk hc hm wg]) hW.1, fun i hi => (hro.here hAe hW hi).1⟩ (hW.at 5 rfl) rfl rfl tb_337 tb_339 ts_6 tb_1 tb_340 (nA := 1) (by decide +kernel) rfl ⟨by omega, by omega⟩ ⟨by omega, by omega⟩ rfl (Nat.le_of_ble_eq_true rfl) dX3_choose_2 (fun E q9 ce H9 L9 hpx hWx hzx hkx hce hcv hcl => x_pass hex hlk (Or.inl ⟨hpx.1, fun ⟨h, i, j, z⟩ => hpx.2 ⟨h, z.1, z.2.2.2.1⟩⟩) (Nat.le_trans hsz0 hzx) (fun q hq => (hkx q (Nat.lt_of_lt_of_le hq hsz0)).trans (hsm q hq)) hce hcv hcl hWx.2.2.2.2 (by omega) (by omega)) (fun v w1 H1 L1 hp hW hzz hkk hdd => ?_)
  obtain ⟨rfl, h, hh, eh, rfl⟩ := hp
  have hsm := sm_step hsz0 hkk hsm
  clear hzz hkk hdd
  generalize H1 = H at hW hsm ⊢
  generalize L1 = locs at hW ⊢
  have hW : Wd Z A s.heap (cw Z hc x ++ bl Z hb0 hk hc hm wg mo n o) _ _ := hW
  refine W.eq (g2 := F0 m 5 ls [.ref (vb h)]) rfl ?_
  obtain ⟨w1_h, w2_h, w3_h, w4_h⟩ := hbok.2.2.2.2.2 h hh
  refine lv_astore (lv' := [(4, .ref (vb h)), (0, .ref hb0), (1, .int xc), (2, .int xa), (3, .int xb)]) hx hb dX3_choose_5 hl (by decide) rfl (fun ls hl => ?_)
  refine lv_aload_n hx hb dX3_choose_7 rfl (lv_at hl 1 rfl) ?_
  refine lv_iload_n hx hb dX3_choose_8 rfl (lv_at hl 3 rfl) ?_
  have hsz0 := hW.2.2.1
  refine x_virt (As := [.int xa]) (rest := []) (wc := []) (wr := cw Z hc x ++ bl Z hb0 hk hc hm wg mo n o) hx hb hml hown hts hK hG rfl hA hl (k_bitsOf l hst Z hb0 hk hc hm mo n wg o vd vb stb xa hbok.2.1) hW ⟨hW.at 5 rfl, suf_P (wc := cw Z hc x ++ [bo hb0 hk hc hm wg]) hW.1, fun i hi => (hro.here hAe hW hi).1⟩ (hW.at 5 rfl) rfl rfl tb_337 tb_339 ts_6 tb_1 tb_340 (nA := 1) (by decide +kernel) rfl ⟨by omega, by omega⟩ ⟨by omega, by omega⟩ rfl (Nat.le_of_ble_eq_true rfl) dX3_choose_9 (fun E q9 ce H9 L9 hpx hWx hzx hkx hce hcv hcl => x_pass hex hlk (Or.inl ⟨hpx.1, fun ⟨h, i, j, z⟩ => hpx.2 ⟨i, z.2.1, z.2.2.2.2.1⟩⟩) (Nat.le_trans hsz0 hzx) (fun q hq => (hkx q (Nat.lt_of_lt_of_le hq hsz0)).trans (hsm q hq)) hce hcv hcl hWx.2.2.2.2 (by omega) (by omega)) (fun v w1 H1 L1 hp hW hzz hkk hdd => ?_)
  obtain ⟨rfl, i, hi, ei, rfl⟩ := hp
  have hsm := sm_step hsz0 hkk hsm
  clear hzz hkk hdd
  generalize H1 = H at hW hsm ⊢
  generalize L1 = locs at hW ⊢
  have hW : Wd Z A s.heap (cw Z hc x ++ bl Z hb0 hk hc hm wg mo n o) _ _ := hW
  refine W.eq (g2 := F0 m 12 ls [.ref (vb i)]) rfl ?_
  obtain ⟨w1_i, w2_i, w3_i, w4_i⟩ := hbok.2.2.2.2.2 i hi
  refine lv_astore (lv' := [(5, .ref (vb i)), (4, .ref (vb h)), (0, .ref hb0), (1, .int xc), (2, .int xa), (3, .int xb)]) hx hb dX3_choose_12 hl (by decide) rfl (fun ls hl => ?_)
  refine lv_aload_n hx hb dX3_choose_14 rfl (lv_at hl 2 rfl) ?_
  refine lv_iload_n hx hb dX3_choose_15 rfl (lv_at hl 5 rfl) ?_
  have hsz0 := hW.2.2.1
  refine x_virt (As := [.int xb]) (rest := []) (wc := []) (wr := cw Z hc x ++ bl Z hb0 hk hc hm wg mo n o) hx hb hml hown hts hK hG rfl hA hl (k_bitsOf l hst Z hb0 hk hc hm mo n wg o vd vb stb xb hbok.2.1) hW ⟨hW.at 5 rfl, suf_P (wc := cw Z hc x ++ [bo hb0 hk hc hm wg]) hW.1, fun i hi => (hro.here hAe hW hi).1⟩ (hW.at 5 rfl) rfl rfl tb_337 tb_339 ts_6 tb_1 tb_340 (nA := 1) (by decide +kernel) rfl ⟨by omega, by omega⟩ ⟨by omega, by omega⟩ rfl (Nat.le_of_ble_eq_true rfl) dX3_choose_16 (fun E q9 ce H9 L9 hpx hWx hzx hkx hce hcv hcl => x_pass hex hlk (Or.inl ⟨hpx.1, fun ⟨h, i, j, z⟩ => hpx.2 ⟨j, z.2.2.1, z.2.2.2.2.2.1⟩⟩) (Nat.le_trans hsz0 hzx) (fun q hq => (hkx q (Nat.lt_of_lt_of_le hq hsz0)).trans (hsm q hq)) hce hcv hcl hWx.2.2.2.2 (by omega) (by omega)) (fun v w1 H1 L1 hp hW hzz hkk hdd => ?_)
  obtain ⟨rfl, j, hj, ej, rfl⟩ := hp
  have hsm := sm_step hsz0 hkk hsm
  clear hzz hkk hdd
  generalize H1 = H at hW hsm ⊢
  generalize L1 = locs at hW ⊢
  have hW : Wd Z A s.heap (cw Z hc x ++ bl Z hb0 hk hc hm wg mo n o) _ _ := hW
  refine W.eq (g2 := F0 m 19 ls [.ref (vb j)]) rfl ?_
  obtain ⟨w1_j, w2_j, w3_j, w4_j⟩ := hbok.2.2.2.2.2 j hj
  refine lv_astore (lv' := [(6, .ref (vb j)), (5, .ref (vb i)), (4, .ref (vb h)), (0, .ref hb0), (1, .int xc), (2, .int xa), (3, .int xb)]) hx hb dX3_choose_19 hl (by decide) rfl (fun ls hl => ?_)
  refine lv_aload hx hb dX3_choose_21 (lv_at hl 1 rfl) ?_
  refine lv_aload hx hb dX3_choose_23 (lv_at hl 0 rfl) ?_
  have hn5 := hbok.2.2.2.2.1
  have inj : ∀ a b : Nat, a < n → b < n → nI a = nI b → a = b := fun a b ha hb h => (nI_eq (by omega) (by omega)).mp h
  have hxn := hbok.2.2.2.1
  have hwb := hbok.2.2.1
  have hx1 := stp.rf hbok.1
  have hsz0 := hW.2.2.1
  refine x_stat (As := [.ref (vb i), .ref (vb j)]) (rest := []) (wc := []) (wr := cw Z hc x ++ bl Z hb0 hk hc hm wg mo n o) hx hb hml hown hts hK hG rfl hA hl (k_needSameWidth l hst Z (vb i) (vb j) (wd i) (wd j) (rw i) (rw j) (by omega) (by omega)) hW ⟨(hro.here hAe hW hi).2, (hro.here hAe hW hj).2⟩ tb_396 tb_397 tb_1 tb_398 (nA := 2) (by decide +kernel) rfl ⟨by omega, by omega⟩ ⟨by omega, by omega⟩ rfl (Nat.le_of_ble_eq_true rfl) dX3_choose_25 (fun E q9 ce H9 L9 hpx hWx hzx hkx hce hcv hcl => x_pass hex hlk (Or.inl ⟨hpx.1, fun ⟨c1, a, b, z⟩ => hpx.2 (by rw [inj i a hi z.2.1 (ei.symm.trans z.2.2.2.2.1), inj j b hj z.2.2.1 (ej.symm.trans z.2.2.2.2.2.1)]; exact z.2.2.2.2.2.2.1)⟩) (Nat.le_trans hsz0 hzx) (fun q hq => (hkx q (Nat.lt_of_lt_of_le hq hsz0)).trans (hsm q hq)) hce hcv hcl hWx.2.2.2.2 (by omega) (by omega)) (fun v w1 H1 L1 hp hW hzz hkk hdd => ?_)
  obtain ⟨rfl, rfl, hww⟩ := hp
  have hsm := sm_step hsz0 hkk hsm
  clear hzz hkk hdd
  generalize H1 = H at hW hsm ⊢
  generalize L1 = locs at hW ⊢
  have hW : Wd Z A s.heap (cw Z hc x ++ bl Z hb0 hk hc hm wg mo n o) _ _ := hW
  refine W.eq (g2 := F0 m 28 ls []) rfl ?_
  have eai : xa.toNatClampNeg = i := vix_cl ei (by omega)
  rw [eai] at hRc hRs
  rw [eai]
  refine lv_aload hx hb dX3_choose_28 (lv_at hl 2 rfl) ?_
  refine r_len hx hb hK (hro.here hAe hW hh).2 dX3_choose_30 ?_
  refine lv_iconst (v := nI 1) hx hb dX3_choose_31 (by decide) ?_
  by_cases hw1h : wd h = 1
  · refine n_eq_t (tgt := 45) hx hb (by omega) dX3_choose_32 (by decide) ?_
    refine lv_iconst (v := nI 4) hx hb dX3_choose_45 (by decide) ?_
    refine lv_aload hx hb dX3_choose_46 (lv_at hl 1 rfl) ?_
    refine r_len hx hb hK (hro.here hAe hW hi).2 dX3_choose_48 ?_
    refine n_imul hx hb dX3_choose_49 ?_
    refine lv_istore (lv' := [(7, .int (nI (4 * (wd i)))), (6, .ref (vb j)), (5, .ref (vb i)), (4, .ref (vb h)), (0, .ref hb0), (1, .int xc), (2, .int xa), (3, .int xb)]) hx hb dX3_choose_50 hl (by decide) rfl (fun ls hl => ?_)
    refine lv_aload_n hx hb dX3_choose_52 rfl (lv_at hl 4 rfl) ?_
    refine lv_iload hx hb dX3_choose_53 (lv_at hl 0 rfl) ?_
    have hsz0 := hW.2.2.1
    refine x_virt (As := [.int (nI (4 * (wd i)))]) (rest := []) (wc := []) (wr := cw Z hc x ++ bl Z hb0 hk hc hm wg mo n o) hx hb hml hown hts hK hG rfl hA hl (k_needRoom l hst Z hb0 hk hc hm mo (lsq Z o) n wg (4 * wd i) hbok.2.2.1 (by omega) (by have := hbok.2.2.2.2.1; omega)) hW ⟨hW.at 5 rfl, hW.at 6 rfl⟩ (hW.at 5 rfl) rfl rfl tb_201 tb_203 ts_1 tb_1 tb_204 (nA := 1) (by decide +kernel) rfl ⟨by omega, by omega⟩ ⟨by omega, by omega⟩ rfl (Nat.le_of_ble_eq_true rfl) dX3_choose_55 (fun E q9 ce H9 L9 hpx hWx hzx hkx hce hcv hcl => x_pass hex hlk (Or.inr ⟨hpx.1, h, i, j, ⟨hh, hi, hj, eh, ei, ej, hww, hw1h⟩, hpx.2⟩) (Nat.le_trans hsz0 hzx) (fun q hq => (hkx q (Nat.lt_of_lt_of_le hq hsz0)).trans (hsm q hq)) hce hcv hcl hWx.2.2.2.2 (by omega) (by omega)) (fun v w1 H1 L1 hp hW hzz hkk hdd => ?_)
    obtain ⟨rfl, rfl, hroom⟩ := hp
    have hsm := sm_step hsz0 hkk hsm
    clear hzz hkk hdd
    generalize H1 = H at hW hsm ⊢
    generalize L1 = locs at hW ⊢
    have hW : Wd Z A s.heap (cw Z hc x ++ bl Z hb0 hk hc hm wg mo n o) _ _ := hW
    refine W.eq (g2 := F0 m 58 ls []) rfl ?_
    refine lv_aload_n hx hb dX3_choose_58 rfl (lv_at hl 4 rfl) ?_
    refine r_new (fs := [.null, .int 0]) hx hb hts hown hK hW hA (ci := 2) rfl in_X2 tyX2 tyX2_ok tb_246 tb_247 tb_16 (fun j hj => by rcases (show j = 0 ∨ j = 1 by omega) with rfl | rfl <;> rfl) (by omega) (by omega) dX3_choose_59 (fun nv H hW => ?_)
    have hW : Wd Z A s.heap (cw Z hc x ++ (bl Z hb0 hk hc hm wg mo n o ++ [eo nv 2 [.null, .int 0]])) _ _ := hW
    have hW : Wd Z A s.heap (cw Z hc x ++ ([eo nv 2 [.null, .int 0]] ++ bl Z hb0 hk hc hm wg mo n o)) _ _ := Wd.swapR (w1 := cw Z hc x) (wl := bl Z hb0 hk hc hm wg mo n o) (we := [eo nv 2 [.null, .int 0]]) hW
    refine lv_dup hx hb dX3_choose_62 rfl ?_
    refine lv_aload_n hx hb dX3_choose_63 rfl (lv_at hl 4 rfl) ?_
    refine r_get hx hb hts hown hK (hW.at 6 rfl) rfl in_X3 0 (by decide) tb_97 (fun _ h => h) rfl dX3_choose_64 ?_
    refine lv_aload hx hb dX3_choose_67 (lv_at hl 3 rfl) ?_
    refine lv_iconst (v := nI 0) hx hb dX3_choose_69 (by decide) ?_
    refine r_ald (i := 0) hx hb hK (hro.here hAe hW hh).2 (by omega) (by omega) dX3_choose_70 ?_
    refine lv_aload hx hb dX3_choose_71 (lv_at hl 2 rfl) ?_
    refine lv_aload hx hb dX3_choose_73 (lv_at hl 1 rfl) ?_
    have hco := hx1.cost (j := 3 * wd i) (K := 3 * wd i) (by omega)
    have hrbj : ∀ q, q < wd i → rw j q < xn x := fun q hq => w4_j q (by omega)
    have hROj := RO.pass (wc := cw Z hc x) (wr := [eo nv 2 [.null, .int 0]] ++ bl Z hb0 hk hc hm wg mo n o) (hro.2 j hj).2 hAe hW
    rw [← hww] at hROj
    refine c_virt (As := [.int (nI ((rw h) 0)), .ref (vb i), .ref (vb j)]) (rest := [.ref nv, .ref nv, .ref hb0]) (wc := cw Z hc x) (wr := [eo nv 2 [.null, .int 0]] ++ bl Z hb0 hk hc hm wg mo n o) (nl := 0) hx hb hml hown hts hK hG rfl hA hl (k_picked l Z hk hc x σ (rw h 0) (vb i) (vb j) (wd i) (wd i) (rw i) (rw j) hbok.1 (by omega) w2_i (Nat.le_refl _) (by omega) (w4_h 0 (by omega)) w4_i hrbj) hW ⟨RO.pass hro.1 hAe hW, RO.pass (hro.2 i hi).2 hAe hW, hROj⟩ (hro.1.here hAe hW) rfl rfl tb_701 tb_656 tb_657 tb_2 tb_658 (nA := 3) (by decide +kernel) rfl ⟨by omega, by omega⟩ ⟨by omega, by omega⟩ rfl (Nat.le_of_ble_eq_true rfl) dX3_choose_75 (fun v w1 H1 L1 hp hW hzz hkk hdd => ?_)
    obtain ⟨y, q, f, rfl, rfl, hs, hfb, hfs⟩ := hp
    clear hzz hkk hdd
    generalize H1 = H at hW  ⊢
    generalize L1 = locs at hW ⊢
    have hW : Wd Z A s.heap (cw Z hc y ++ ([ea Z q (wd i) f, eo nv 2 [.null, .int 0]] ++ bl Z hb0 hk hc hm wg mo n o)) _ _ := hW
    refine W.eq (g2 := F0 m 78 ls [.ref q, .ref nv, .ref nv, .ref hb0]) rfl ?_
    have huy := hs.2.2.2
    refine lv_iconst (v := nI 0) hx hb dX3_choose_78 (by decide) ?_
    have hW : Wd Z A s.heap ([eo nv 2 [.null, .int 0]] ++ (cw Z hc y ++ [ea Z q (wd i) f] ++ (bl Z hb0 hk hc hm wg mo n o))) _ _ := Wd.rot (w1 := cw Z hc y ++ [ea Z q (wd i) f]) (wc := [eo nv 2 [.null, .int 0]]) (wr := bl Z hb0 hk hc hm wg mo n o) hW
    refine c_spec (b := nv) (As := [.ref q, .int (nI 0)]) (rest := [.ref nv, .ref hb0]) (wc := [eo nv 2 [.null, .int 0]]) (wr := cw Z hc y ++ ([ea Z q (wd i) f] ++ bl Z hb0 hk hc hm wg mo n o)) hx hb hml hown hts hK hG rfl hA hl (k_Vector l Z nv q 0 (by decide)) hW trivial tb_248 tb_249 tb_16 tb_250 rfl (nA := 2) (by decide +kernel) rfl ⟨by omega, by omega⟩ ⟨by omega, by omega⟩ rfl (Nat.le_of_ble_eq_true rfl) dX3_choose_79 (fun v w1 H1 L1 hp hW hzz hkk hdd => ?_)
    obtain ⟨rfl, rfl⟩ := hp
    clear hzz hkk hdd
    generalize H1 = H at hW  ⊢
    generalize L1 = locs at hW ⊢
    have hW : Wd Z A s.heap ([eo nv 2 [.ref q, .int (nI 0)]] ++ (cw Z hc y ++ ([ea Z q (wd i) f] ++ bl Z hb0 hk hc hm wg mo n o))) _ _ := hW
    refine W.eq (g2 := F0 m 82 ls [.ref nv, .ref hb0]) rfl ?_
    have hW : Wd Z A s.heap (cw Z hc y ++ [ea Z q (wd i) f] ++ ([eo nv 2 [.ref q, .int (nI 0)]] ++ (bl Z hb0 hk hc hm wg mo n o))) _ _ := Wd.rot (w1 := [eo nv 2 [.ref q, .int (nI 0)]]) (wc := cw Z hc y ++ [ea Z q (wd i) f]) (wr := bl Z hb0 hk hc hm wg mo n o) hW
    have hW : Wd Z A s.heap (cw Z hc y ++ ([ea Z q (wd i) f, eo nv 2 [.ref q, .int (nI 0)]] ++ bl Z hb0 hk hc hm wg mo n o)) _ _ := hW
    refine lv_iload hx hb dX3_choose_82 (lv_at hl 0 rfl) ?_
    have hW : Wd Z A s.heap (bl Z hb0 hk hc hm wg mo n o ++ (cw Z hc y ++ [ea Z q (wd i) f, eo nv 2 [.ref q, .int (nI 0)]])) _ _ := Wd.swap2 (w1 := cw Z hc y ++ [ea Z q (wd i) f, eo nv 2 [.ref q, .int (nI 0)]]) (wc := bl Z hb0 hk hc hm wg mo n o) hW
    refine c_virt (As := [.ref nv, .int (nI (4 * (wd i)))]) (rest := []) (wc := bl Z hb0 hk hc hm wg mo n o) (wr := cw Z hc y ++ [ea Z q (wd i) f, eo nv 2 [.ref q, .int (nI 0)]]) (nl := 0) hx hb hml hown hts hK hG rfl hA hl (k_keep l Z hb0 hk hc hm mo n wg (4 * wd i) nv o vd hbok.2.1 hbok.2.2.2.2.1 hroom) hW ⟨⟨_, RO.loc hW 6 rfl⟩, fun i hi => ⟨_, RO.pass (hro.2 i hi).1 hAe hW⟩⟩ (hW.at 0 rfl) rfl rfl tb_261 tb_263 ts_2 tb_1 tb_264 (nA := 2) (by decide +kernel) rfl ⟨by omega, by omega⟩ ⟨by omega, by omega⟩ rfl (Nat.le_of_ble_eq_true rfl) dX3_choose_84 (fun v w1 H1 L1 hp hW hzz hkk hdd => ?_)
    obtain ⟨o2, rfl, rfl, hadd⟩ := hp
    clear hzz hkk hdd
    generalize H1 = H at hW  ⊢
    generalize L1 = locs at hW ⊢
    have hW : Wd Z A s.heap (bl Z hb0 hk hc hm (wg + (4 * wd i)) (mo + nI 1) (n + 1) o2 ++ (cw Z hc y ++ [ea Z q (wd i) f, eo nv 2 [.ref q, .int (nI 0)]])) _ _ := hW
    refine W.eq (g2 := F0 m 87 ls [.int (nI n)]) rfl ?_
    have hW : Wd Z A s.heap (cw Z hc y ++ [ea Z q (wd i) f, eo nv 2 [.ref q, .int (nI 0)]] ++ bl Z hb0 hk hc hm (wg + (4 * wd i)) (mo + nI 1) (n + 1) o2) _ _ := Wd.swap2 (w1 := bl Z hb0 hk hc hm (wg + (4 * wd i)) (mo + nI 1) (n + 1) o2) (wc := cw Z hc y ++ [ea Z q (wd i) f, eo nv 2 [.ref q, .int (nI 0)]]) hW
    have hW : Wd Z A s.heap (cw Z hc y ++ [eo nv 2 [.ref q, .int (nI 0)], ea Z q (wd i) f] ++ bl Z hb0 hk hc hm (wg + (4 * wd i)) (mo + nI 1) (n + 1) o2) _ _ := Wd.subL (w1 := cw Z hc y ++ [ea Z q (wd i) f, eo nv 2 [.ref q, .int (nI 0)]]) (w2 := cw Z hc y ++ [eo nv 2 [.ref q, .int (nI 0)], ea Z q (wd i) f]) (wl := bl Z hb0 hk hc hm (wg + (4 * wd i)) (mo + nI 1) (n + 1) o2) hW [0, 1, 2, 3, 4, 6, 5] (by decide) rfl
    refine vx_ret (e_int hx hb hr hlk hAe hW (by omega) (by omega) dX3_choose_87 ?_)
    exact ⟨h, i, j, ⟨hh, hi, hj, eh, ei, ej, hww, hw1h⟩, hroom, y, nv, q, f, o2, rfl, rfl, hs, hfb, hadd, hfs⟩
  · refine n_eq_f (tgt := 45) hx hb (by omega) (by omega) (by omega) dX3_choose_32 (by decide) ?_
    exact th_IAE hx hb hst hown hts hG hW hml hl hex hlk (is := 92) (text := "what chooses is not of width 1") (by decide) dX3_choose_35 dX3_choose_38 dX3_choose_39 dX3_choose_41 dX3_choose_44 (by omega) (by rw [hRl]; exact Nat.le_of_ble_eq_true rfl) (by omega) (by omega) (Or.inl ⟨rfl, fun ⟨c1, a, b, z⟩ => hw1h (by rw [inj h c1 hh z.1 (eh.symm.trans z.2.2.2.1)]; exact z.2.2.2.2.2.2.2)⟩) hsm (by omega) (by omega)
def g1 (k w : Nat) : Nat := if k = 0 then w else 10 * w
def G1 (k w : Nat) : Nat := if k = 0 then 1 * w else 6 * w
def V1 (A w k : Nat) : Nat := if k = 0 then 2 ^ w - 1 - A else ngN true A w
set_option maxHeartbeats 4000000 in
set_option maxRecDepth 100000 in
/-- VectorBench.one -/
theorem k_one (l : Launch) (hst : l.stackTraces = false) (Z : Zt) (hb0 hk hc hm : Nat) (x : CS) (σ : Nat → Bool) (mo : Int32) (n wg : Nat) (o : Option (Nat × Nat × (Nat → Option Nat))) (vd vb stb wd : Nat → Nat) (rw : Nat → Nat → Nat) (xk xa : Int32) (hbok : bok x σ n wg o vd stb wd rw) : MX l yX3_one cX3_one 6 (some .int) 11 600 (30 + 4 * (capU (xu x) (xn x + G1 xk.toNatClampNeg (wd xa.toNatClampNeg)) - xu x)) (5 * wd xa.toNatClampNeg + 1000 + 512 * (capU (xu x) (xn x + G1 xk.toNatClampNeg (wd xa.toNatClampNeg)) - xu x)) Z (cw Z hc x ++ bl Z hb0 hk hc hm wg mo n o) (fun H => BRO Z (cw Z hc x ++ bl Z hb0 hk hc hm wg mo n o) hk hc n vd vb stb wd rw H) [.ref hb0, .int xk, .int xa] (fun r w1 => ∃ k i, (k ≤ 1 ∧ xk = nI k ∧ i < n ∧ xa = nI i) ∧ g1 k (wd i) + wg ≤ 100000 ∧ newQ Z hb0 hk hc hm x σ mo n wg vd (g1 k (wd i)) (G1 k (wd i)) (wd i) 0 (fun y f => ∀ τ, gd τ → rn y τ f (wd i) = V1 (rn x τ (rw i) (wd i)) (wd i) k) r w1) (fun E => (E = IAE ∧ ¬ ∃ k i, k ≤ 1 ∧ xk = nI k ∧ i < n ∧ xa = nI i) ∨ (E = ISE ∧ ∃ k i, (k ≤ 1 ∧ xk = nI k ∧ i < n ∧ xa = nI i) ∧ ¬ g1 k (wd i) + wg ≤ 100000)) := by
  refine mx_of (by decide) (Nat.le_of_ble_eq_true rfl) (fun p e s m below meth c ls A hx hb hr hts hown hlk hml hex hK hG hW hA hAe hro hl R hRf hRc hRs hRl => ?_)
  have hl : lv_has ls 6 [(0, .ref hb0), (1, .int xk), (2, .int xa)] := hl
  have hsm : ∀ q : Nat, q < s.heap.size → s.heap[q]? = s.heap[q]? := fun _ _ => rfl
  refine lv_iload_n hx hb dX3_one_0 rfl (lv_at hl 1 rfl) ?_
  refine lv_iconst (v := nI 1) hx hb dX3_one_1 (by decide) ?_
  have hsz0 := hW.2.2.1
  refine x_stat (As := [.int xk, .int (nI 1)]) (rest := []) (wc := []) (wr := cw Z hc x ++ bl Z hb0 hk hc hm wg mo n o) hx hb hml hown hts hK hG rfl hA hl (k_needKind l hst Z xk 1 (by decide)) hW trivial tb_333 tb_334 tb_1 tb_335 (nA := 2) (by decide +kernel) rfl ⟨by omega, by omega⟩ ⟨by omega, by omega⟩ rfl (Nat.le_of_ble_eq_true rfl) dX3_one_2 (fun E q9 ce H9 L9 hpx hWx hzx hkx hce hcv hcl => x_pass hex hlk (Or.inl ⟨hpx.1, fun ⟨k, i, z⟩ => hpx.2 ⟨k, z.1, z.2.1⟩⟩) (Nat.le_trans hsz0 hzx) (fun q hq => (hkx q (Nat.lt_of_lt_of_le hq hsz0)).trans (hsm q hq)) hce hcv hcl hWx.2.2.2.2 (by omega) (by omega)) (fun v w1 H1 L1 hp hW hzz hkk hdd => ?_)
  obtain ⟨rfl, rfl, hkd⟩ := hp
  have hsm := sm_step hsz0 hkk hsm
  clear hzz hkk hdd
  generalize H1 = H at hW hsm ⊢
  generalize L1 = locs at hW ⊢
  have hW : Wd Z A s.heap (cw Z hc x ++ bl Z hb0 hk hc hm wg mo n o) _ _ := hW
  refine W.eq (g2 := F0 m 5 ls []) rfl ?_
  refine lv_aload_n hx hb dX3_one_5 rfl (lv_at hl 0 rfl) ?_
  refine lv_iload_n hx hb dX3_one_6 rfl (lv_at hl 2 rfl) ?_
  have hsz0 := hW.2.2.1
  refine x_virt (As := [.int xa]) (rest := []) (wc := []) (wr := cw Z hc x ++ bl Z hb0 hk hc hm wg mo n o) hx hb hml hown hts hK hG rfl hA hl (k_bitsOf l hst Z hb0 hk hc hm mo n wg o vd vb stb xa hbok.2.1) hW ⟨hW.at 5 rfl, suf_P (wc := cw Z hc x ++ [bo hb0 hk hc hm wg]) hW.1, fun i hi => (hro.here hAe hW hi).1⟩ (hW.at 5 rfl) rfl rfl tb_337 tb_339 ts_6 tb_1 tb_340 (nA := 1) (by decide +kernel) rfl ⟨by omega, by omega⟩ ⟨by omega, by omega⟩ rfl (Nat.le_of_ble_eq_true rfl) dX3_one_7 (fun E q9 ce H9 L9 hpx hWx hzx hkx hce hcv hcl => x_pass hex hlk (Or.inl ⟨hpx.1, fun ⟨k, i, z⟩ => hpx.2 ⟨i, z.2.2.1, z.2.2.2⟩⟩) (Nat.le_trans hsz0 hzx) (fun q hq => (hkx q (Nat.lt_of_lt_of_le hq hsz0)).trans (hsm q hq)) hce hcv hcl hWx.2.2.2.2 (by omega) (by omega)) (fun v w1 H1 L1 hp hW hzz hkk hdd => ?_)
  obtain ⟨rfl, i, hi, ei, rfl⟩ := hp
  have hsm := sm_step hsz0 hkk hsm
  clear hzz hkk hdd
  generalize H1 = H at hW hsm ⊢
  generalize L1 = locs at hW ⊢
  have hW : Wd Z A s.heap (cw Z hc x ++ bl Z hb0 hk hc hm wg mo n o) _ _ := hW
  refine W.eq (g2 := F0 m 10 ls [.ref (vb i)]) rfl ?_
  obtain ⟨w1_i, w2_i, w3_i, w4_i⟩ := hbok.2.2.2.2.2 i hi
  have hn5 := hbok.2.2.2.2.1
  have inj : ∀ a b : Nat, a < n → b < n → nI a = nI b → a = b := fun a b ha hb h => (nI_eq (by omega) (by omega)).mp h
  have hxn := hbok.2.2.2.1
  have hwb := hbok.2.2.1
  have hx1 := stp.rf hbok.1
  obtain ⟨k, hk12, ek⟩ := hkd
  have eki : xk.toNatClampNeg = k := vix_cl ek (by omega)
  have eai : xa.toNatClampNeg = i := vix_cl ei (by omega)
  rw [eki, eai] at hRc hRs
  rw [eki, eai]
  refine lv_astore_n (lv' := [(3, .ref (vb i)), (0, .ref hb0), (1, .int xk), (2, .int xa)]) hx hb dX3_one_10 rfl hl (by decide) rfl (fun ls hl => ?_)
  refine lv_iload_n hx hb dX3_one_11 rfl (lv_at hl 2 rfl) ?_
  refine n_eqv ek ?_
  rcases (show k = 0 ∨ k = 1 by omega) with hk0 | hk0
  all_goals subst hk0
  · have hgk : g1 0 (wd i) = wd i := rfl
    have hGk : G1 0 (wd i) = 1 * wd i := rfl
    rw [hGk] at hRc hRs
    refine n_zne_f (tgt := 20) hx hb rfl dX3_one_12 (by decide) ?_
    refine lv_aload_n hx hb dX3_one_15 rfl (lv_at hl 0 rfl) ?_
    refine r_len hx hb hK (hro.here hAe hW hi).2 dX3_one_16 ?_
    refine lv_goto (tgt := 25) hx hb dX3_one_17 (by decide) ?_
    refine lv_istore (lv' := [(4, .int (nI (wd i))), (3, .ref (vb i)), (0, .ref hb0), (1, .int xk), (2, .int xa)]) hx hb dX3_one_25 hl (by decide) rfl (fun ls hl => ?_)
    refine lv_aload_n hx hb dX3_one_27 rfl (lv_at hl 2 rfl) ?_
    refine lv_iload hx hb dX3_one_28 (lv_at hl 0 rfl) ?_
    have hsz0 := hW.2.2.1
    refine x_virt (As := [.int (nI (wd i))]) (rest := []) (wc := []) (wr := cw Z hc x ++ bl Z hb0 hk hc hm wg mo n o) hx hb hml hown hts hK hG rfl hA hl (k_needRoom l hst Z hb0 hk hc hm mo (lsq Z o) n wg (wd i) hbok.2.2.1 (by omega) (by have := hbok.2.2.2.2.1; omega)) hW ⟨hW.at 5 rfl, hW.at 6 rfl⟩ (hW.at 5 rfl) rfl rfl tb_201 tb_203 ts_1 tb_1 tb_204 (nA := 1) (by decide +kernel) rfl ⟨by omega, by omega⟩ ⟨by omega, by omega⟩ rfl (Nat.le_of_ble_eq_true rfl) dX3_one_30 (fun E q9 ce H9 L9 hpx hWx hzx hkx hce hcv hcl => x_pass hex hlk (Or.inr ⟨hpx.1, 0, i, ⟨by decide, ek, hi, ei⟩, hpx.2⟩) (Nat.le_trans hsz0 hzx) (fun q hq => (hkx q (Nat.lt_of_lt_of_le hq hsz0)).trans (hsm q hq)) hce hcv hcl hWx.2.2.2.2 (by omega) (by omega)) (fun v w1 H1 L1 hp hW hzz hkk hdd => ?_)
    obtain ⟨rfl, rfl, hroom⟩ := hp
    have hsm := sm_step hsz0 hkk hsm
    clear hzz hkk hdd
    generalize H1 = H at hW hsm ⊢
    generalize L1 = locs at hW ⊢
    have hW : Wd Z A s.heap (cw Z hc x ++ bl Z hb0 hk hc hm wg mo n o) _ _ := hW
    refine W.eq (g2 := F0 m 33 ls []) rfl ?_
    refine lv_iload_n hx hb dX3_one_33 rfl (lv_at hl 3 rfl) ?_
    refine n_eqv ek ?_
    refine n_zne_f (tgt := 48) hx hb rfl dX3_one_34 (by decide) ?_
    refine lv_aload_n hx hb dX3_one_37 rfl (lv_at hl 2 rfl) ?_
    refine r_get hx hb hts hown hK (hW.at 5 rfl) rfl in_X3 0 (by decide) tb_97 (fun _ h => h) rfl dX3_one_38 ?_
    refine lv_aload_n hx hb dX3_one_41 rfl (lv_at hl 1 rfl) ?_
    have hco := hx1.cost (j := 1 * wd i) (K := 1 * wd i) (by omega)
    refine c_virt (As := [.ref (vb i)]) (rest := []) (wc := cw Z hc x) (wr := bl Z hb0 hk hc hm wg mo n o) (nl := 0) hx hb hml hown hts hK hG rfl hA hl (k_inverted l Z hk hc x σ (vb i) (wd i) (rw i) hbok.1 (by omega) w2_i w4_i) hW ⟨RO.pass hro.1 hAe hW, RO.pass (hro.2 i hi).2 hAe hW⟩ (hro.1.here hAe hW) rfl rfl tb_356 tb_357 tb_358 tb_2 tb_359 (nA := 1) (by decide +kernel) rfl ⟨by omega, by omega⟩ ⟨by omega, by omega⟩ rfl (Nat.le_of_ble_eq_true rfl) dX3_one_42 (fun v w1 H1 L1 hp hW hzz hkk hdd => ?_)
    obtain ⟨y, q, f, rfl, rfl, hs, hfb, hfs⟩ := hp
    clear hzz hkk hdd
    generalize H1 = H at hW  ⊢
    generalize L1 = locs at hW ⊢
    have hW : Wd Z A s.heap (cw Z hc y ++ ([ea Z q (wd i) f] ++ bl Z hb0 hk hc hm wg mo n o)) _ _ := hW
    refine W.eq (g2 := F0 m 45 ls [.ref q]) rfl ?_
    have huy := hs.2.2.2
    refine lv_goto (tgt := 57) hx hb dX3_one_45 (by decide) ?_
    refine lv_astore (lv' := [(5, .ref q), (4, .int (nI (wd i))), (3, .ref (vb i)), (0, .ref hb0), (1, .int xk), (2, .int xa)]) hx hb dX3_one_57 hl (by decide) rfl (fun ls hl => ?_)
    refine lv_aload_n hx hb dX3_one_59 rfl (lv_at hl 3 rfl) ?_
    refine r_new (fs := [.null, .int 0]) hx hb hts hown hK hW hA (ci := 2) rfl in_X2 tyX2 tyX2_ok tb_246 tb_247 tb_16 (fun j hj => by rcases (show j = 0 ∨ j = 1 by omega) with rfl | rfl <;> rfl) (by omega) (by omega) dX3_one_60 (fun nv H hW => ?_)
    have hW : Wd Z A s.heap (cw Z hc y ++ ([ea Z q (wd i) f] ++ (bl Z hb0 hk hc hm wg mo n o ++ [eo nv 2 [.null, .int 0]]))) _ _ := hW
    have hW : Wd Z A s.heap (cw Z hc y ++ ([ea Z q (wd i) f, eo nv 2 [.null, .int 0]] ++ bl Z hb0 hk hc hm wg mo n o)) _ _ := Wd.swapR (w1 := cw Z hc y ++ [ea Z q (wd i) f]) (wl := bl Z hb0 hk hc hm wg mo n o) (we := [eo nv 2 [.null, .int 0]]) hW
    refine lv_dup hx hb dX3_one_63 rfl ?_
    refine lv_aload hx hb dX3_one_64 (lv_at hl 0 rfl) ?_
    refine lv_iconst (v := nI 0) hx hb dX3_one_66 (by decide) ?_
    have hW : Wd Z A s.heap ([eo nv 2 [.null, .int 0]] ++ (cw Z hc y ++ [ea Z q (wd i) f] ++ (bl Z hb0 hk hc hm wg mo n o))) _ _ := Wd.rot (w1 := cw Z hc y ++ [ea Z q (wd i) f]) (wc := [eo nv 2 [.null, .int 0]]) (wr := bl Z hb0 hk hc hm wg mo n o) hW
    refine c_spec (b := nv) (As := [.ref q, .int (nI 0)]) (rest := [.ref nv, .ref hb0]) (wc := [eo nv 2 [.null, .int 0]]) (wr := cw Z hc y ++ ([ea Z q (wd i) f] ++ bl Z hb0 hk hc hm wg mo n o)) hx hb hml hown hts hK hG rfl hA hl (k_Vector l Z nv q 0 (by decide)) hW trivial tb_248 tb_249 tb_16 tb_250 rfl (nA := 2) (by decide +kernel) rfl ⟨by omega, by omega⟩ ⟨by omega, by omega⟩ rfl (Nat.le_of_ble_eq_true rfl) dX3_one_67 (fun v w1 H1 L1 hp hW hzz hkk hdd => ?_)
    obtain ⟨rfl, rfl⟩ := hp
    clear hzz hkk hdd
    generalize H1 = H at hW  ⊢
    generalize L1 = locs at hW ⊢
    have hW : Wd Z A s.heap ([eo nv 2 [.ref q, .int (nI 0)]] ++ (cw Z hc y ++ ([ea Z q (wd i) f] ++ bl Z hb0 hk hc hm wg mo n o))) _ _ := hW
    refine W.eq (g2 := F0 m 70 ls [.ref nv, .ref hb0]) rfl ?_
    have hW : Wd Z A s.heap (cw Z hc y ++ [ea Z q (wd i) f] ++ ([eo nv 2 [.ref q, .int (nI 0)]] ++ (bl Z hb0 hk hc hm wg mo n o))) _ _ := Wd.rot (w1 := [eo nv 2 [.ref q, .int (nI 0)]]) (wc := cw Z hc y ++ [ea Z q (wd i) f]) (wr := bl Z hb0 hk hc hm wg mo n o) hW
    have hW : Wd Z A s.heap (cw Z hc y ++ ([ea Z q (wd i) f, eo nv 2 [.ref q, .int (nI 0)]] ++ bl Z hb0 hk hc hm wg mo n o)) _ _ := hW
    refine lv_iload hx hb dX3_one_70 (lv_at hl 1 rfl) ?_
    have hW : Wd Z A s.heap (bl Z hb0 hk hc hm wg mo n o ++ (cw Z hc y ++ [ea Z q (wd i) f, eo nv 2 [.ref q, .int (nI 0)]])) _ _ := Wd.swap2 (w1 := cw Z hc y ++ [ea Z q (wd i) f, eo nv 2 [.ref q, .int (nI 0)]]) (wc := bl Z hb0 hk hc hm wg mo n o) hW
    refine c_virt (As := [.ref nv, .int (nI (wd i))]) (rest := []) (wc := bl Z hb0 hk hc hm wg mo n o) (wr := cw Z hc y ++ [ea Z q (wd i) f, eo nv 2 [.ref q, .int (nI 0)]]) (nl := 0) hx hb hml hown hts hK hG rfl hA hl (k_keep l Z hb0 hk hc hm mo n wg (wd i) nv o vd hbok.2.1 hbok.2.2.2.2.1 hroom) hW ⟨⟨_, RO.loc hW 6 rfl⟩, fun i hi => ⟨_, RO.pass (hro.2 i hi).1 hAe hW⟩⟩ (hW.at 0 rfl) rfl rfl tb_261 tb_263 ts_2 tb_1 tb_264 (nA := 2) (by decide +kernel) rfl ⟨by omega, by omega⟩ ⟨by omega, by omega⟩ rfl (Nat.le_of_ble_eq_true rfl) dX3_one_72 (fun v w1 H1 L1 hp hW hzz hkk hdd => ?_)
    obtain ⟨o2, rfl, rfl, hadd⟩ := hp
    clear hzz hkk hdd
    generalize H1 = H at hW  ⊢
    generalize L1 = locs at hW ⊢
    have hW : Wd Z A s.heap (bl Z hb0 hk hc hm (wg + (wd i)) (mo + nI 1) (n + 1) o2 ++ (cw Z hc y ++ [ea Z q (wd i) f, eo nv 2 [.ref q, .int (nI 0)]])) _ _ := hW
    refine W.eq (g2 := F0 m 75 ls [.int (nI n)]) rfl ?_
    have hW : Wd Z A s.heap (cw Z hc y ++ [ea Z q (wd i) f, eo nv 2 [.ref q, .int (nI 0)]] ++ bl Z hb0 hk hc hm (wg + (wd i)) (mo + nI 1) (n + 1) o2) _ _ := Wd.swap2 (w1 := bl Z hb0 hk hc hm (wg + (wd i)) (mo + nI 1) (n + 1) o2) (wc := cw Z hc y ++ [ea Z q (wd i) f, eo nv 2 [.ref q, .int (nI 0)]]) hW
    have hW : Wd Z A s.heap (cw Z hc y ++ [eo nv 2 [.ref q, .int (nI 0)], ea Z q (wd i) f] ++ bl Z hb0 hk hc hm (wg + (wd i)) (mo + nI 1) (n + 1) o2) _ _ := Wd.subL (w1 := cw Z hc y ++ [ea Z q (wd i) f, eo nv 2 [.ref q, .int (nI 0)]]) (w2 := cw Z hc y ++ [eo nv 2 [.ref q, .int (nI 0)], ea Z q (wd i) f]) (wl := bl Z hb0 hk hc hm (wg + (wd i)) (mo + nI 1) (n + 1) o2) hW [0, 1, 2, 3, 4, 6, 5] (by decide) rfl
    refine vx_ret (e_int hx hb hr hlk hAe hW (by rw [hGk]; omega) (by rw [hGk]; omega) dX3_one_75 ?_)
    refine ⟨0, i, ⟨by decide, ek, hi, ei⟩, hroom, y, nv, q, f, o2, rfl, rfl, hs, hfb, hadd, fun τ hτ => ?_⟩
    have h1 : rn y τ f (wd i) = bn (fun j => !vl x τ (rw i j)) (wd i) := bn_congr (hfs τ hτ)
    have h2 := bn_not (fun j => vl x τ (rw i j)) (wd i)
    have h3 : rn x τ (rw i) (wd i) = bn (fun j => vl x τ (rw i j)) (wd i) := rfl
    show _ = 2 ^ (wd i) - 1 - rn x τ (rw i) (wd i)
    rw [h1, h3]; omega
  · have hgk : g1 1 (wd i) = 10 * wd i := rfl
    have hGk : G1 1 (wd i) = 6 * wd i := rfl
    rw [hGk] at hRc hRs
    refine n_zne_t (tgt := 20) hx hb (by decide) (by omega) dX3_one_12 (by decide) ?_
    refine lv_bipush (v := nI 10) hx hb dX3_one_20 (by decide) ?_
    refine lv_aload_n hx hb dX3_one_22 rfl (lv_at hl 0 rfl) ?_
    refine r_len hx hb hK (hro.here hAe hW hi).2 dX3_one_23 ?_
    refine n_imul hx hb dX3_one_24 ?_
    refine lv_istore (lv' := [(4, .int (nI (10 * (wd i)))), (3, .ref (vb i)), (0, .ref hb0), (1, .int xk), (2, .int xa)]) hx hb dX3_one_25 hl (by decide) rfl (fun ls hl => ?_)
    refine lv_aload_n hx hb dX3_one_27 rfl (lv_at hl 2 rfl) ?_
    refine lv_iload hx hb dX3_one_28 (lv_at hl 0 rfl) ?_
    have hsz0 := hW.2.2.1
    refine x_virt (As := [.int (nI (10 * (wd i)))]) (rest := []) (wc := []) (wr := cw Z hc x ++ bl Z hb0 hk hc hm wg mo n o) hx hb hml hown hts hK hG rfl hA hl (k_needRoom l hst Z hb0 hk hc hm mo (lsq Z o) n wg (10 * wd i) hbok.2.2.1 (by omega) (by have := hbok.2.2.2.2.1; omega)) hW ⟨hW.at 5 rfl, hW.at 6 rfl⟩ (hW.at 5 rfl) rfl rfl tb_201 tb_203 ts_1 tb_1 tb_204 (nA := 1) (by decide +kernel) rfl ⟨by omega, by omega⟩ ⟨by omega, by omega⟩ rfl (Nat.le_of_ble_eq_true rfl) dX3_one_30 (fun E q9 ce H9 L9 hpx hWx hzx hkx hce hcv hcl => x_pass hex hlk (Or.inr ⟨hpx.1, 1, i, ⟨by decide, ek, hi, ei⟩, hpx.2⟩) (Nat.le_trans hsz0 hzx) (fun q hq => (hkx q (Nat.lt_of_lt_of_le hq hsz0)).trans (hsm q hq)) hce hcv hcl hWx.2.2.2.2 (by omega) (by omega)) (fun v w1 H1 L1 hp hW hzz hkk hdd => ?_)
    obtain ⟨rfl, rfl, hroom⟩ := hp
    have hsm := sm_step hsz0 hkk hsm
    clear hzz hkk hdd
    generalize H1 = H at hW hsm ⊢
    generalize L1 = locs at hW ⊢
    have hW : Wd Z A s.heap (cw Z hc x ++ bl Z hb0 hk hc hm wg mo n o) _ _ := hW
    refine W.eq (g2 := F0 m 33 ls []) rfl ?_
    refine lv_iload_n hx hb dX3_one_33 rfl (lv_at hl 3 rfl) ?_
    refine n_eqv ek ?_
    refine n_zne_t (tgt := 48) hx hb (by decide) (by omega) dX3_one_34 (by decide) ?_
    refine lv_aload_n hx hb dX3_one_48 rfl (lv_at hl 2 rfl) ?_
    refine r_get hx hb hts hown hK (hW.at 5 rfl) rfl in_X3 0 (by decide) tb_97 (fun _ h => h) rfl dX3_one_49 ?_
    refine lv_iconst (v := nI 1) hx hb dX3_one_52 (by decide) ?_
    refine lv_aload_n hx hb dX3_one_53 rfl (lv_at hl 1 rfl) ?_
    have hco := hx1.cost (j := 6 * wd i) (K := 6 * wd i) (by omega)
    refine c_virt (As := [.int (nI 1), .ref (vb i)]) (rest := []) (wc := cw Z hc x) (wr := bl Z hb0 hk hc hm wg mo n o) (nl := 0) hx hb hml hown hts hK hG rfl hA hl (k_negatedIf l Z hk hc x σ 1 (vb i) (wd i) (rw i) hbok.1 (by omega) w2_i (by have := hbok.1.1; omega) w4_i) hW ⟨RO.pass hro.1 hAe hW, RO.pass (hro.2 i hi).2 hAe hW⟩ (hro.1.here hAe hW) rfl rfl tb_364 tb_365 tb_366 tb_2 tb_367 (nA := 2) (by decide +kernel) rfl ⟨by omega, by omega⟩ ⟨by omega, by omega⟩ rfl (Nat.le_of_ble_eq_true rfl) dX3_one_54 (fun v w1 H1 L1 hp hW hzz hkk hdd => ?_)
    obtain ⟨y, q, f, rfl, rfl, hs, hfb, hfs⟩ := hp
    clear hzz hkk hdd
    generalize H1 = H at hW  ⊢
    generalize L1 = locs at hW ⊢
    have hW : Wd Z A s.heap (cw Z hc y ++ ([ea Z q (wd i) f] ++ bl Z hb0 hk hc hm wg mo n o)) _ _ := hW
    refine W.eq (g2 := F0 m 57 ls [.ref q]) rfl ?_
    have huy := hs.2.2.2
    refine lv_astore (lv' := [(5, .ref q), (4, .int (nI (10 * (wd i)))), (3, .ref (vb i)), (0, .ref hb0), (1, .int xk), (2, .int xa)]) hx hb dX3_one_57 hl (by decide) rfl (fun ls hl => ?_)
    refine lv_aload_n hx hb dX3_one_59 rfl (lv_at hl 3 rfl) ?_
    refine r_new (fs := [.null, .int 0]) hx hb hts hown hK hW hA (ci := 2) rfl in_X2 tyX2 tyX2_ok tb_246 tb_247 tb_16 (fun j hj => by rcases (show j = 0 ∨ j = 1 by omega) with rfl | rfl <;> rfl) (by omega) (by omega) dX3_one_60 (fun nv H hW => ?_)
    have hW : Wd Z A s.heap (cw Z hc y ++ ([ea Z q (wd i) f] ++ (bl Z hb0 hk hc hm wg mo n o ++ [eo nv 2 [.null, .int 0]]))) _ _ := hW
    have hW : Wd Z A s.heap (cw Z hc y ++ ([ea Z q (wd i) f, eo nv 2 [.null, .int 0]] ++ bl Z hb0 hk hc hm wg mo n o)) _ _ := Wd.swapR (w1 := cw Z hc y ++ [ea Z q (wd i) f]) (wl := bl Z hb0 hk hc hm wg mo n o) (we := [eo nv 2 [.null, .int 0]]) hW
    refine lv_dup hx hb dX3_one_63 rfl ?_
    refine lv_aload hx hb dX3_one_64 (lv_at hl 0 rfl) ?_
    refine lv_iconst (v := nI 0) hx hb dX3_one_66 (by decide) ?_
    have hW : Wd Z A s.heap ([eo nv 2 [.null, .int 0]] ++ (cw Z hc y ++ [ea Z q (wd i) f] ++ (bl Z hb0 hk hc hm wg mo n o))) _ _ := Wd.rot (w1 := cw Z hc y ++ [ea Z q (wd i) f]) (wc := [eo nv 2 [.null, .int 0]]) (wr := bl Z hb0 hk hc hm wg mo n o) hW
    refine c_spec (b := nv) (As := [.ref q, .int (nI 0)]) (rest := [.ref nv, .ref hb0]) (wc := [eo nv 2 [.null, .int 0]]) (wr := cw Z hc y ++ ([ea Z q (wd i) f] ++ bl Z hb0 hk hc hm wg mo n o)) hx hb hml hown hts hK hG rfl hA hl (k_Vector l Z nv q 0 (by decide)) hW trivial tb_248 tb_249 tb_16 tb_250 rfl (nA := 2) (by decide +kernel) rfl ⟨by omega, by omega⟩ ⟨by omega, by omega⟩ rfl (Nat.le_of_ble_eq_true rfl) dX3_one_67 (fun v w1 H1 L1 hp hW hzz hkk hdd => ?_)
    obtain ⟨rfl, rfl⟩ := hp
    clear hzz hkk hdd
    generalize H1 = H at hW  ⊢
    generalize L1 = locs at hW ⊢
    have hW : Wd Z A s.heap ([eo nv 2 [.ref q, .int (nI 0)]] ++ (cw Z hc y ++ ([ea Z q (wd i) f] ++ bl Z hb0 hk hc hm wg mo n o))) _ _ := hW
    refine W.eq (g2 := F0 m 70 ls [.ref nv, .ref hb0]) rfl ?_
    have hW : Wd Z A s.heap (cw Z hc y ++ [ea Z q (wd i) f] ++ ([eo nv 2 [.ref q, .int (nI 0)]] ++ (bl Z hb0 hk hc hm wg mo n o))) _ _ := Wd.rot (w1 := [eo nv 2 [.ref q, .int (nI 0)]]) (wc := cw Z hc y ++ [ea Z q (wd i) f]) (wr := bl Z hb0 hk hc hm wg mo n o) hW
    have hW : Wd Z A s.heap (cw Z hc y ++ ([ea Z q (wd i) f, eo nv 2 [.ref q, .int (nI 0)]] ++ bl Z hb0 hk hc hm wg mo n o)) _ _ := hW
    refine lv_iload hx hb dX3_one_70 (lv_at hl 1 rfl) ?_
    have hW : Wd Z A s.heap (bl Z hb0 hk hc hm wg mo n o ++ (cw Z hc y ++ [ea Z q (wd i) f, eo nv 2 [.ref q, .int (nI 0)]])) _ _ := Wd.swap2 (w1 := cw Z hc y ++ [ea Z q (wd i) f, eo nv 2 [.ref q, .int (nI 0)]]) (wc := bl Z hb0 hk hc hm wg mo n o) hW
    refine c_virt (As := [.ref nv, .int (nI (10 * (wd i)))]) (rest := []) (wc := bl Z hb0 hk hc hm wg mo n o) (wr := cw Z hc y ++ [ea Z q (wd i) f, eo nv 2 [.ref q, .int (nI 0)]]) (nl := 0) hx hb hml hown hts hK hG rfl hA hl (k_keep l Z hb0 hk hc hm mo n wg (10 * wd i) nv o vd hbok.2.1 hbok.2.2.2.2.1 hroom) hW ⟨⟨_, RO.loc hW 6 rfl⟩, fun i hi => ⟨_, RO.pass (hro.2 i hi).1 hAe hW⟩⟩ (hW.at 0 rfl) rfl rfl tb_261 tb_263 ts_2 tb_1 tb_264 (nA := 2) (by decide +kernel) rfl ⟨by omega, by omega⟩ ⟨by omega, by omega⟩ rfl (Nat.le_of_ble_eq_true rfl) dX3_one_72 (fun v w1 H1 L1 hp hW hzz hkk hdd => ?_)
    obtain ⟨o2, rfl, rfl, hadd⟩ := hp
    clear hzz hkk hdd
    generalize H1 = H at hW  ⊢
    generalize L1 = locs at hW ⊢
    have hW : Wd Z A s.heap (bl Z hb0 hk hc hm (wg + (10 * wd i)) (mo + nI 1) (n + 1) o2 ++ (cw Z hc y ++ [ea Z q (wd i) f, eo nv 2 [.ref q, .int (nI 0)]])) _ _ := hW
    refine W.eq (g2 := F0 m 75 ls [.int (nI n)]) rfl ?_
    have hW : Wd Z A s.heap (cw Z hc y ++ [ea Z q (wd i) f, eo nv 2 [.ref q, .int (nI 0)]] ++ bl Z hb0 hk hc hm (wg + (10 * wd i)) (mo + nI 1) (n + 1) o2) _ _ := Wd.swap2 (w1 := bl Z hb0 hk hc hm (wg + (10 * wd i)) (mo + nI 1) (n + 1) o2) (wc := cw Z hc y ++ [ea Z q (wd i) f, eo nv 2 [.ref q, .int (nI 0)]]) hW
    have hW : Wd Z A s.heap (cw Z hc y ++ [eo nv 2 [.ref q, .int (nI 0)], ea Z q (wd i) f] ++ bl Z hb0 hk hc hm (wg + (10 * wd i)) (mo + nI 1) (n + 1) o2) _ _ := Wd.subL (w1 := cw Z hc y ++ [ea Z q (wd i) f, eo nv 2 [.ref q, .int (nI 0)]]) (w2 := cw Z hc y ++ [eo nv 2 [.ref q, .int (nI 0)], ea Z q (wd i) f]) (wl := bl Z hb0 hk hc hm (wg + (10 * wd i)) (mo + nI 1) (n + 1) o2) hW [0, 1, 2, 3, 4, 6, 5] (by decide) rfl
    refine vx_ret (e_int hx hb hr hlk hAe hW (by rw [hGk]; omega) (by rw [hGk]; omega) dX3_one_75 ?_)
    refine ⟨1, i, ⟨by decide, ek, hi, ei⟩, hroom, y, nv, q, f, o2, rfl, rfl, hs, hfb, hadd, fun τ hτ => ?_⟩
    rw [hfs τ hτ]
    dsimp only
    rw [vl_1 hbok.1 hτ]
    rfl
