theorem wt2_le (k w : Nat) (hw : w ≤ 64) : wt2 k w ≤ 1000000 := by
  have h : ∀ w, w < 65 → 14 * w * w ≤ 57344 ∧ 16 * w * w ≤ 65536 := by decide +kernel
  obtain ⟨h1, h2⟩ := h w (by omega)
  unfold wt2
  split <;> omega
set_option maxHeartbeats 4000000 in
set_option maxRecDepth 100000 in
/-- VectorBench.two -/
theorem k_two (l : Launch) (hst : l.stackTraces = false) (Z : Zt) (hb0 hk hc hm : Nat) (x : CS) (σ : Nat → Bool) (mo : Int32) (n wg : Nat) (o : Option (Nat × Nat × (Nat → Option Nat))) (vd vb stb wd : Nat → Nat) (rw : Nat → Nat → Nat) (xk xa xb : Int32) (hbok : bok x σ n wg o vd stb wd rw) : MX l yX3_two cX3_two 7 (some .int) 11 600 (30 + 3 * (wd xa.toNatClampNeg) + 4 * (capU (xu x) (xn x + G2 xk.toNatClampNeg (wd xa.toNatClampNeg)) - xu x)) (sl2 xk.toNatClampNeg (wd xa.toNatClampNeg) + 1000 + 512 * (capU (xu x) (xn x + G2 xk.toNatClampNeg (wd xa.toNatClampNeg)) - xu x)) Z (cw Z hc x ++ bl Z hb0 hk hc hm wg mo n o) (fun H => BRO Z (cw Z hc x ++ bl Z hb0 hk hc hm wg mo n o) hk hc n vd vb stb wd rw H) [.ref hb0, .int xk, .int xa, .int xb] (fun r w1 => ∃ k i j, k ≤ 12 ∧ xk = nI k ∧ i < n ∧ j < n ∧ xa = nI i ∧ xb = nI j ∧ wd i = wd j ∧ wt2 k (wd i) + wg ≤ 100000 ∧ newQ Z hb0 hk hc hm x σ mo n wg vd (wt2 k (wd i)) (G2 k (wd i)) (wd i) 0 (fun y f => ∀ τ, gd τ → rn y τ f (wd i) = V2 x (rw i) (rw j) (wd i) k τ) r w1) (fun E => (E = IAE ∧ ¬ (knd xk 12 ∧ ∃ i j, i < n ∧ j < n ∧ xa = nI i ∧ xb = nI j ∧ wd i = wd j)) ∨ (E = ISE ∧ ∃ k i j, k ≤ 12 ∧ xk = nI k ∧ i < n ∧ j < n ∧ xa = nI i ∧ xb = nI j ∧ wd i = wd j ∧ ¬ wt2 k (wd i) + wg ≤ 100000)) := by
  refine mx_of (by decide) (Nat.le_of_ble_eq_true rfl) (fun p e s m below meth c ls A hx hb hr hts hown hlk hml hex hK hG hW hA hAe hro hl R hRf hRc hRs hRl => ?_)
  have hl : lv_has ls 7 [(0, .ref hb0), (1, .int xk), (2, .int xa), (3, .int xb)] := hl
  have hsm : ∀ q : Nat, q < s.heap.size → s.heap[q]? = s.heap[q]? := fun _ _ => rfl
  refine lv_iload_n hx hb dX3_two_0 rfl (lv_at hl 1 rfl) ?_
  refine lv_bipush (v := nI 12) hx hb dX3_two_1 (by decide) ?_
  have hsz0 := hW.2.2.1
  refine x_stat (As := [.int xk, .int (nI 12)]) (rest := []) (wc := []) (wr := cw Z hc x ++ bl Z hb0 hk hc hm wg mo n o) hx hb hml hown hts hK hG rfl hA hl (k_needKind l hst Z xk 12 (by decide)) hW trivial tb_333 tb_334 tb_1 tb_335 (nA := 2) (by decide +kernel) rfl ⟨by omega, by omega⟩ ⟨by omega, by omega⟩ rfl (Nat.le_of_ble_eq_true rfl) dX3_two_3 (fun E q9 ce H9 L9 hpx hWx hzx hkx hce hcv hcl => x_pass hex hlk (Or.inl ⟨hpx.1, fun h => hpx.2 h.1⟩) (Nat.le_trans hsz0 hzx) (fun q hq => (hkx q (Nat.lt_of_lt_of_le hq hsz0)).trans (hsm q hq)) hce hcv hcl hWx.2.2.2.2 (by omega) (by omega)) (fun v w1 H1 L1 hp hW hzz hkk hdd => ?_)
  obtain ⟨rfl, rfl, hkd⟩ := hp
  have hsm := sm_step hsz0 hkk hsm
  clear hzz hkk hdd
  generalize H1 = H at hW hsm ⊢
  generalize L1 = locs at hW ⊢
  have hW : Wd Z A s.heap (cw Z hc x ++ bl Z hb0 hk hc hm wg mo n o) _ _ := hW
  refine W.eq (g2 := F0 m 6 ls []) rfl ?_
  refine lv_aload_n hx hb dX3_two_6 rfl (lv_at hl 0 rfl) ?_
  refine lv_iload_n hx hb dX3_two_7 rfl (lv_at hl 2 rfl) ?_
  have hsz0 := hW.2.2.1
  refine x_virt (As := [.int xa]) (rest := []) (wc := []) (wr := cw Z hc x ++ bl Z hb0 hk hc hm wg mo n o) hx hb hml hown hts hK hG rfl hA hl (k_bitsOf l hst Z hb0 hk hc hm mo n wg o vd vb stb xa hbok.2.1) hW ⟨hW.at 5 rfl, suf_P (wc := cw Z hc x ++ [bo hb0 hk hc hm wg]) hW.1, fun i hi => (hro.here hAe hW hi).1⟩ (hW.at 5 rfl) rfl rfl tb_337 tb_339 ts_6 tb_1 tb_340 (nA := 1) (by decide +kernel) rfl ⟨by omega, by omega⟩ ⟨by omega, by omega⟩ rfl (Nat.le_of_ble_eq_true rfl) dX3_two_8 (fun E q9 ce H9 L9 hpx hWx hzx hkx hce hcv hcl => x_pass hex hlk (Or.inl ⟨hpx.1, fun h => hpx.2 (h.2.elim fun i h => h.elim fun j h => ⟨i, h.1, h.2.2.1⟩)⟩) (Nat.le_trans hsz0 hzx) (fun q hq => (hkx q (Nat.lt_of_lt_of_le hq hsz0)).trans (hsm q hq)) hce hcv hcl hWx.2.2.2.2 (by omega) (by omega)) (fun v w1 H1 L1 hp hW hzz hkk hdd => ?_)
  obtain ⟨rfl, i, hi, ei, rfl⟩ := hp
  have hsm := sm_step hsz0 hkk hsm
  clear hzz hkk hdd
  generalize H1 = H at hW hsm ⊢
  generalize L1 = locs at hW ⊢
  have hW : Wd Z A s.heap (cw Z hc x ++ bl Z hb0 hk hc hm wg mo n o) _ _ := hW
  refine W.eq (g2 := F0 m 11 ls [.ref (vb i)]) rfl ?_
  obtain ⟨w1_i, w2_i, w3_i, w4_i⟩ := hbok.2.2.2.2.2 i hi
  refine lv_astore (lv' := [(4, .ref (vb i)), (0, .ref hb0), (1, .int xk), (2, .int xa), (3, .int xb)]) hx hb dX3_two_11 hl (by decide) rfl (fun ls hl => ?_)
  refine lv_aload_n hx hb dX3_two_13 rfl (lv_at hl 1 rfl) ?_
  refine lv_iload_n hx hb dX3_two_14 rfl (lv_at hl 4 rfl) ?_
  have hsz0 := hW.2.2.1
  refine x_virt (As := [.int xb]) (rest := []) (wc := []) (wr := cw Z hc x ++ bl Z hb0 hk hc hm wg mo n o) hx hb hml hown hts hK hG rfl hA hl (k_bitsOf l hst Z hb0 hk hc hm mo n wg o vd vb stb xb hbok.2.1) hW ⟨hW.at 5 rfl, suf_P (wc := cw Z hc x ++ [bo hb0 hk hc hm wg]) hW.1, fun i hi => (hro.here hAe hW hi).1⟩ (hW.at 5 rfl) rfl rfl tb_337 tb_339 ts_6 tb_1 tb_340 (nA := 1) (by decide +kernel) rfl ⟨by omega, by omega⟩ ⟨by omega, by omega⟩ rfl (Nat.le_of_ble_eq_true rfl) dX3_two_15 (fun E q9 ce H9 L9 hpx hWx hzx hkx hce hcv hcl => x_pass hex hlk (Or.inl ⟨hpx.1, fun h => hpx.2 (h.2.elim fun i h => h.elim fun j h => ⟨j, h.2.1, h.2.2.2.1⟩)⟩) (Nat.le_trans hsz0 hzx) (fun q hq => (hkx q (Nat.lt_of_lt_of_le hq hsz0)).trans (hsm q hq)) hce hcv hcl hWx.2.2.2.2 (by omega) (by omega)) (fun v w1 H1 L1 hp hW hzz hkk hdd => ?_)
  obtain ⟨rfl, j, hj, ej, rfl⟩ := hp
  have hsm := sm_step hsz0 hkk hsm
  clear hzz hkk hdd
  generalize H1 = H at hW hsm ⊢
  generalize L1 = locs at hW ⊢
  have hW : Wd Z A s.heap (cw Z hc x ++ bl Z hb0 hk hc hm wg mo n o) _ _ := hW
  refine W.eq (g2 := F0 m 18 ls [.ref (vb j)]) rfl ?_
  obtain ⟨w1_j, w2_j, w3_j, w4_j⟩ := hbok.2.2.2.2.2 j hj
  refine lv_astore (lv' := [(5, .ref (vb j)), (4, .ref (vb i)), (0, .ref hb0), (1, .int xk), (2, .int xa), (3, .int xb)]) hx hb dX3_two_18 hl (by decide) rfl (fun ls hl => ?_)
  refine lv_aload hx hb dX3_two_20 (lv_at hl 1 rfl) ?_
  refine lv_aload hx hb dX3_two_22 (lv_at hl 0 rfl) ?_
  have hn5 := hbok.2.2.2.2.1
  have inj : ∀ a b : Nat, a < n → b < n → nI a = nI b → a = b := fun a b ha hb h => (nI_eq (by omega) (by omega)).mp h
  have hsz0 := hW.2.2.1
  refine x_stat (As := [.ref (vb i), .ref (vb j)]) (rest := []) (wc := []) (wr := cw Z hc x ++ bl Z hb0 hk hc hm wg mo n o) hx hb hml hown hts hK hG rfl hA hl (k_needSameWidth l hst Z (vb i) (vb j) (wd i) (wd j) (rw i) (rw j) (by omega) (by omega)) hW ⟨(hro.here hAe hW hi).2, (hro.here hAe hW hj).2⟩ tb_396 tb_397 tb_1 tb_398 (nA := 2) (by decide +kernel) rfl ⟨by omega, by omega⟩ ⟨by omega, by omega⟩ rfl (Nat.le_of_ble_eq_true rfl) dX3_two_24 (fun E q9 ce H9 L9 hpx hWx hzx hkx hce hcv hcl => x_pass hex hlk (Or.inl ⟨hpx.1, fun h => h.2.elim fun a h => h.elim fun b h => hpx.2 (by rw [inj i a hi h.1 (ei.symm.trans h.2.2.1), inj j b hj h.2.1 (ej.symm.trans h.2.2.2.1)]; exact h.2.2.2.2)⟩) (Nat.le_trans hsz0 hzx) (fun q hq => (hkx q (Nat.lt_of_lt_of_le hq hsz0)).trans (hsm q hq)) hce hcv hcl hWx.2.2.2.2 (by omega) (by omega)) (fun v w1 H1 L1 hp hW hzz hkk hdd => ?_)
  obtain ⟨rfl, rfl, hww⟩ := hp
  have hsm := sm_step hsz0 hkk hsm
  clear hzz hkk hdd
  generalize H1 = H at hW hsm ⊢
  generalize L1 = locs at hW ⊢
  have hW : Wd Z A s.heap (cw Z hc x ++ bl Z hb0 hk hc hm wg mo n o) _ _ := hW
  refine W.eq (g2 := F0 m 27 ls []) rfl ?_
  obtain ⟨k, hk12, ek⟩ := hkd
  have eki : xk.toNatClampNeg = k := vix_cl ek (by omega)
  have eai : xa.toNatClampNeg = i := vix_cl ei (by omega)
  rw [eki, eai] at hRc hRs
  rw [eki, eai]
  have hgw := G2_wt k (by omega) (wd i) (by omega) (by omega)
  have hxn := hbok.2.2.2.1
  have hwb := hbok.2.2.1
  refine lv_iload_n hx hb dX3_two_27 rfl (lv_at hl 3 rfl) ?_
  refine n_eqv ek ?_
  refine lv_aload hx hb dX3_two_28 (lv_at hl 1 rfl) ?_
  refine r_len hx hb hK (hro.here hAe hW hi).2 dX3_two_30 ?_
  have hsz0 := hW.2.2.1
  refine c_stat (As := [.int (nI k), .int (nI (wd i))]) (rest := []) (wc := []) (wr := cw Z hc x ++ bl Z hb0 hk hc hm wg mo n o) hx hb hml hown hts hK hG rfl hA hl (k_weightOfTwo l Z k (wd i) hk12 w2_i) hW trivial tb_400 tb_401 tb_1 tb_402 (nA := 2) (by decide +kernel) rfl ⟨by omega, by omega⟩ ⟨by omega, by omega⟩ rfl (Nat.le_of_ble_eq_true rfl) dX3_two_31 (fun v w1 H1 L1 hp hW hzz hkk hdd => ?_)
  obtain ⟨rfl, rfl⟩ := hp
  have hsm := sm_step hsz0 hkk hsm
  clear hzz hkk hdd
  generalize H1 = H at hW hsm ⊢
  generalize L1 = locs at hW ⊢
  have hW : Wd Z A s.heap (cw Z hc x ++ bl Z hb0 hk hc hm wg mo n o) _ _ := hW
  refine W.eq (g2 := F0 m 34 ls [.int (nI (wt2 k (wd i)))]) rfl ?_
  refine lv_istore (lv' := [(6, .int (nI (wt2 k (wd i)))), (5, .ref (vb j)), (4, .ref (vb i)), (0, .ref hb0), (1, .int xk), (2, .int xa), (3, .int xb)]) hx hb dX3_two_34 hl (by decide) rfl (fun ls hl => ?_)
  refine lv_aload_n hx hb dX3_two_36 rfl (lv_at hl 3 rfl) ?_
  refine lv_iload hx hb dX3_two_37 (lv_at hl 0 rfl) ?_
  have hwt : wt2 k (wd i) ≤ 1000000 := wt2_le k (wd i) w2_i
  have hsz0 := hW.2.2.1
  refine x_virt (As := [.int (nI (wt2 k (wd i)))]) (rest := []) (wc := []) (wr := cw Z hc x ++ bl Z hb0 hk hc hm wg mo n o) hx hb hml hown hts hK hG rfl hA hl (k_needRoom l hst Z hb0 hk hc hm mo (lsq Z o) n wg (wt2 k (wd i)) hbok.2.2.1 hwt (by have := hbok.2.2.2.2.1; omega)) hW ⟨hW.at 5 rfl, hW.at 6 rfl⟩ (hW.at 5 rfl) rfl rfl tb_201 tb_203 ts_1 tb_1 tb_204 (nA := 1) (by decide +kernel) rfl ⟨by omega, by omega⟩ ⟨by omega, by omega⟩ rfl (Nat.le_of_ble_eq_true rfl) dX3_two_39 (fun E q9 ce H9 L9 hpx hWx hzx hkx hce hcv hcl => x_pass hex hlk (Or.inr ⟨hpx.1, k, i, j, hk12, ek, hi, hj, ei, ej, hww, hpx.2⟩) (Nat.le_trans hsz0 hzx) (fun q hq => (hkx q (Nat.lt_of_lt_of_le hq hsz0)).trans (hsm q hq)) hce hcv hcl hWx.2.2.2.2 (by omega) (by omega)) (fun v w1 H1 L1 hp hW hzz hkk hdd => ?_)
  obtain ⟨rfl, rfl, hroom⟩ := hp
  have hsm := sm_step hsz0 hkk hsm
  clear hzz hkk hdd
  generalize H1 = H at hW hsm ⊢
  generalize L1 = locs at hW ⊢
  have hW : Wd Z A s.heap (cw Z hc x ++ bl Z hb0 hk hc hm wg mo n o) _ _ := hW
  refine W.eq (g2 := F0 m 42 ls []) rfl ?_
  refine lv_aload_n hx hb dX3_two_42 rfl (lv_at hl 3 rfl) ?_
  refine r_new (fs := [.null, .int 0]) hx hb hts hown hK hW hA (ci := 2) rfl in_X2 tyX2 tyX2_ok tb_246 tb_247 tb_16 (fun j hj => by rcases (show j = 0 ∨ j = 1 by omega) with rfl | rfl <;> rfl) (by omega) (by omega) dX3_two_43 (fun nv H hW => ?_)
  have hW : Wd Z A s.heap (cw Z hc x ++ (bl Z hb0 hk hc hm wg mo n o ++ [eo nv 2 [.null, .int 0]])) _ _ := hW
  have hW : Wd Z A s.heap (cw Z hc x ++ ([eo nv 2 [.null, .int 0]] ++ bl Z hb0 hk hc hm wg mo n o)) _ _ := Wd.swapR (w1 := cw Z hc x) (wl := bl Z hb0 hk hc hm wg mo n o) (we := [eo nv 2 [.null, .int 0]]) hW
  refine lv_dup hx hb dX3_two_46 rfl ?_
  refine lv_aload_n hx hb dX3_two_47 rfl (lv_at hl 3 rfl) ?_
  refine lv_iload_n hx hb dX3_two_48 rfl (lv_at hl 4 rfl) ?_
  refine n_eqv ek ?_
  refine lv_aload hx hb dX3_two_49 (lv_at hl 2 rfl) ?_
  refine lv_aload hx hb dX3_two_51 (lv_at hl 1 rfl) ?_
  have hx1 := stp.rf hbok.1
  have hco := hx1.cost (j := G2 k (wd i)) (K := G2 k (wd i)) (by omega)
  have hrbj : ∀ q, q < wd i → rw j q < xn x := fun q hq => w4_j q (by omega)
  have hROj := RO.pass (wc := cw Z hc x) (wr := [eo nv 2 [.null, .int 0]] ++ bl Z hb0 hk hc hm wg mo n o) (hro.2 j hj).2 hAe hW
  rw [← hww] at hROj
  have hbo : RO Z (cw Z hc x) (bo hb0 hk hc hm wg) _ := RO.loc (wr := [eo nv 2 [.null, .int 0]] ++ bl Z hb0 hk hc hm wg mo n o) hW 1 rfl
  refine c_virt (As := [.int (nI k), .ref (vb i), .ref (vb j)]) (rest := [.ref nv, .ref nv, .ref hb0]) (wc := cw Z hc x) (wr := [eo nv 2 [.null, .int 0]] ++ bl Z hb0 hk hc hm wg mo n o) (nl := 0) hx hb hml hown hts hK hG rfl hA hl (k_reckonTwo l Z hb0 hk hc hm wg x σ k (vb i) (vb j) (wd i) (rw i) (rw j) hbok.1 hk12 (by omega) w2_i w1_i w4_i hrbj) hW ⟨hbo, RO.pass hro.1 hAe hW, RO.pass (hro.2 i hi).2 hAe hW, hROj⟩ (hW.at 6 rfl) rfl rfl tb_403 tb_405 ts_7 tb_1 tb_406 (nA := 3) (by decide +kernel) rfl ⟨by omega, by omega⟩ ⟨by omega, by omega⟩ rfl (Nat.le_of_ble_eq_true rfl) dX3_two_53 (fun v w1 H1 L1 hp hW hzz hkk hdd => ?_)
  obtain ⟨y, q, f, rfl, rfl, hs, hfb, hfs⟩ := hp
  clear hzz hkk hdd
  generalize H1 = H at hW  ⊢
  generalize L1 = locs at hW ⊢
  have hW : Wd Z A s.heap (cw Z hc y ++ ([ea Z q (wd i) f, eo nv 2 [.null, .int 0]] ++ bl Z hb0 hk hc hm wg mo n o)) _ _ := hW
  refine W.eq (g2 := F0 m 56 ls [.ref q, .ref nv, .ref nv, .ref hb0]) rfl ?_
  refine lv_iconst (v := nI 0) hx hb dX3_two_56 (by decide) ?_
  have hW : Wd Z A s.heap ([eo nv 2 [.null, .int 0]] ++ (cw Z hc y ++ [ea Z q (wd i) f] ++ (bl Z hb0 hk hc hm wg mo n o))) _ _ := Wd.rot (w1 := cw Z hc y ++ [ea Z q (wd i) f]) (wc := [eo nv 2 [.null, .int 0]]) (wr := bl Z hb0 hk hc hm wg mo n o) hW
  refine c_spec (b := nv) (As := [.ref q, .int (nI 0)]) (rest := [.ref nv, .ref hb0]) (wc := [eo nv 2 [.null, .int 0]]) (wr := cw Z hc y ++ ([ea Z q (wd i) f] ++ bl Z hb0 hk hc hm wg mo n o)) hx hb hml hown hts hK hG rfl hA hl (k_Vector l Z nv q 0 (by decide)) hW trivial tb_248 tb_249 tb_16 tb_250 rfl (nA := 2) (by decide +kernel) rfl ⟨by omega, by omega⟩ ⟨by omega, by omega⟩ rfl (Nat.le_of_ble_eq_true rfl) dX3_two_57 (fun v w1 H1 L1 hp hW hzz hkk hdd => ?_)
  obtain ⟨rfl, rfl⟩ := hp
  clear hzz hkk hdd
  generalize H1 = H at hW  ⊢
  generalize L1 = locs at hW ⊢
  have hW : Wd Z A s.heap ([eo nv 2 [.ref q, .int (nI 0)]] ++ (cw Z hc y ++ ([ea Z q (wd i) f] ++ bl Z hb0 hk hc hm wg mo n o))) _ _ := hW
  refine W.eq (g2 := F0 m 60 ls [.ref nv, .ref hb0]) rfl ?_
  have hW : Wd Z A s.heap (cw Z hc y ++ [ea Z q (wd i) f] ++ ([eo nv 2 [.ref q, .int (nI 0)]] ++ (bl Z hb0 hk hc hm wg mo n o))) _ _ := Wd.rot (w1 := [eo nv 2 [.ref q, .int (nI 0)]]) (wc := cw Z hc y ++ [ea Z q (wd i) f]) (wr := bl Z hb0 hk hc hm wg mo n o) hW
  have hW : Wd Z A s.heap (cw Z hc y ++ ([ea Z q (wd i) f, eo nv 2 [.ref q, .int (nI 0)]] ++ bl Z hb0 hk hc hm wg mo n o)) _ _ := hW
  refine lv_iload hx hb dX3_two_60 (lv_at hl 0 rfl) ?_
  have huy := hs.2.2.2
  have hW : Wd Z A s.heap (bl Z hb0 hk hc hm wg mo n o ++ (cw Z hc y ++ [ea Z q (wd i) f, eo nv 2 [.ref q, .int (nI 0)]])) _ _ := Wd.swap2 (w1 := cw Z hc y ++ [ea Z q (wd i) f, eo nv 2 [.ref q, .int (nI 0)]]) (wc := bl Z hb0 hk hc hm wg mo n o) hW
  refine c_virt (As := [.ref nv, .int (nI (wt2 k (wd i)))]) (rest := []) (wc := bl Z hb0 hk hc hm wg mo n o) (wr := cw Z hc y ++ [ea Z q (wd i) f, eo nv 2 [.ref q, .int (nI 0)]]) (nl := 0) hx hb hml hown hts hK hG rfl hA hl (k_keep l Z hb0 hk hc hm mo n wg (wt2 k (wd i)) nv o vd hbok.2.1 hbok.2.2.2.2.1 hroom) hW ⟨⟨_, RO.loc hW 6 rfl⟩, fun i hi => ⟨_, RO.pass (hro.2 i hi).1 hAe hW⟩⟩ (hW.at 0 rfl) rfl rfl tb_261 tb_263 ts_2 tb_1 tb_264 (nA := 2) (by decide +kernel) rfl ⟨by omega, by omega⟩ ⟨by omega, by omega⟩ rfl (Nat.le_of_ble_eq_true rfl) dX3_two_62 (fun v w1 H1 L1 hp hW hzz hkk hdd => ?_)
  obtain ⟨o2, rfl, rfl, hadd⟩ := hp
  clear hzz hkk hdd
  generalize H1 = H at hW  ⊢
  generalize L1 = locs at hW ⊢
  have hW : Wd Z A s.heap (bl Z hb0 hk hc hm (wg + (wt2 k (wd i))) (mo + nI 1) (n + 1) o2 ++ (cw Z hc y ++ [ea Z q (wd i) f, eo nv 2 [.ref q, .int (nI 0)]])) _ _ := hW
  refine W.eq (g2 := F0 m 65 ls [.int (nI n)]) rfl ?_
  have hW : Wd Z A s.heap (cw Z hc y ++ [ea Z q (wd i) f, eo nv 2 [.ref q, .int (nI 0)]] ++ bl Z hb0 hk hc hm (wg + (wt2 k (wd i))) (mo + nI 1) (n + 1) o2) _ _ := Wd.swap2 (w1 := bl Z hb0 hk hc hm (wg + (wt2 k (wd i))) (mo + nI 1) (n + 1) o2) (wc := cw Z hc y ++ [ea Z q (wd i) f, eo nv 2 [.ref q, .int (nI 0)]]) hW
  have hW : Wd Z A s.heap (cw Z hc y ++ [eo nv 2 [.ref q, .int (nI 0)], ea Z q (wd i) f] ++ bl Z hb0 hk hc hm (wg + (wt2 k (wd i))) (mo + nI 1) (n + 1) o2) _ _ := Wd.subL (w1 := cw Z hc y ++ [ea Z q (wd i) f, eo nv 2 [.ref q, .int (nI 0)]]) (w2 := cw Z hc y ++ [eo nv 2 [.ref q, .int (nI 0)], ea Z q (wd i) f]) (wl := bl Z hb0 hk hc hm (wg + (wt2 k (wd i))) (mo + nI 1) (n + 1) o2) hW [0, 1, 2, 3, 4, 6, 5] (by decide) rfl
  refine vx_ret (e_int hx hb hr hlk hAe hW (by omega) (by omega) dX3_two_65 ?_)
  exact ⟨k, i, j, hk12, ek, hi, hj, ei, ej, hww, hroom, y, nv, q, f, o2, rfl, rfl, hs, hfb, hadd, hfs⟩
