set_option maxHeartbeats 4000000 in
set_option maxRecDepth 100000 in
/-- VectorBench.value -/
theorem k_value (l : Launch) (hst : l.stackTraces = false) (Z : Zt) (hb0 hk hc hm : Nat) (x : CS) (σ : Nat → Bool) (mo : Int32) (n wg : Nat) (o : Option (Nat × Nat × (Nat → Option Nat))) (vd vb stb wd : Nat → Nat) (rw : Nat → Nat → Nat) (xv : Int32) (hbok : bok x σ n wg o vd stb wd rw) : MX l yX3_value cX3_value 6 (some .long) 11 600 (1) (6) Z (cw Z hc x ++ bl Z hb0 hk hc hm wg mo n o) (fun H => BRO Z (cw Z hc x ++ bl Z hb0 hk hc hm wg mo n o) hk hc n vd vb stb wd rw H) [.ref hb0, .int xv] (fun r w1 => ∃ i, i < n ∧ xv = nI i ∧ r = some (.long (lN (rn x σ (rw i) (wd i)))) ∧ ∃ S t, w1 = cw Z hc (xset x S t) ++ bl Z hb0 hk hc hm wg mo n o ∧ cok (xset x S t) σ) (fun E => E = IAE ∧ ¬ vix xv n) := by
  refine mx_of (by decide) (Nat.le_of_ble_eq_true rfl) (fun p e s m below meth c ls A hx hb hr hts hown hlk hml hex hK hG hW hA hAe hro hl R hRf hRc hRs hRl => ?_)
  have hl : lv_has ls 6 [(0, .ref hb0), (1, .int xv)] := hl
  have hsm : ∀ q : Nat, q < s.heap.size → s.heap[q]? = s.heap[q]? := fun _ _ => rfl
  refine lv_aload_n hx hb dX3_value_0 rfl (lv_at hl 0 rfl) ?_
  refine lv_iload_n hx hb dX3_value_1 rfl (lv_at hl 1 rfl) ?_
  have hsz0 := hW.2.2.1
  refine x_virt (As := [.int xv]) (rest := []) (wc := []) (wr := cw Z hc x ++ bl Z hb0 hk hc hm wg mo n o) hx hb hml hown hts hK hG rfl hA hl (k_bitsOf l hst Z hb0 hk hc hm mo n wg o vd vb stb xv hbok.2.1) hW ⟨hW.at 5 rfl, suf_P (wc := cw Z hc x ++ [bo hb0 hk hc hm wg]) hW.1, fun i hi => (hro.here hAe hW hi).1⟩ (hW.at 5 rfl) rfl rfl tb_337 tb_339 ts_6 tb_1 tb_340 (nA := 1) (by decide +kernel) rfl ⟨by omega, by omega⟩ ⟨by omega, by omega⟩ rfl (Nat.le_of_ble_eq_true rfl) dX3_value_2 (fun E q9 ce H9 L9 hpx hWx hzx hkx hce hcv hcl => x_pass hex hlk (hpx) (Nat.le_trans hsz0 hzx) (fun q hq => (hkx q (Nat.lt_of_lt_of_le hq hsz0)).trans (hsm q hq)) hce hcv hcl hWx.2.2.2.2 (by omega) (by omega)) (fun v w1 H1 L1 hp hW hzz hkk hdd => ?_)
  obtain ⟨rfl, i, hi, ei, rfl⟩ := hp
  have hsm := sm_step hsz0 hkk hsm
  clear hzz hkk hdd
  generalize H1 = H at hW hsm ⊢
  generalize L1 = locs at hW ⊢
  have hW : Wd Z A s.heap (cw Z hc x ++ bl Z hb0 hk hc hm wg mo n o) _ _ := hW
  refine W.eq (g2 := F0 m 5 ls [.ref (vb i)]) rfl ?_
  obtain ⟨w1_i, w2_i, w3_i, w4_i⟩ := hbok.2.2.2.2.2 i hi
  have hn5 := hbok.2.2.2.2.1
  have inj : ∀ a b : Nat, a < n → b < n → nI a = nI b → a = b := fun a b ha hb h => (nI_eq (by omega) (by omega)).mp h
  have hxn := hbok.2.2.2.1
  have hwb := hbok.2.2.1
  have hx1 := stp.rf hbok.1
  refine lv_astore_n (lv' := [(2, .ref (vb i)), (0, .ref hb0), (1, .int xv)]) hx hb dX3_value_5 rfl hl (by decide) rfl (fun ls hl => ?_)
  refine lv_lconst (v := 0) hx hb dX3_value_6 (by decide) ?_
  refine lv_lstore_n (lv' := [(3, .long 0), (2, .ref (vb i)), (0, .ref hb0), (1, .int xv)]) hx hb dX3_value_7 rfl hl (by decide) rfl (fun ls hl => ?_)
  refine lv_iconst (v := nI 0) hx hb dX3_value_8 (by decide) ?_
  refine lv_istore (lv' := [(5, .int (nI 0)), (3, .long 0), (2, .ref (vb i)), (0, .ref hb0), (1, .int xv)]) hx hb dX3_value_9 hl (by decide) rfl (fun ls hl => ?_)
  have loop : ∀ (d z : Nat) (S : Nat → Nat) (t : Nat) (H : Heap) (locs : List Loc) (ls : Array Slot), z + d = wd i → cok (xset x S t) σ → Wd Z A s.heap (cw Z hc (xset x S t) ++ bl Z hb0 hk hc hm wg mo n o) H locs → lv_has ls 6 [(0, .ref hb0), (2, .ref (vb i)), (3, .long (lN (rn x σ (rw i) z))), (5, .int (nI z))] → W p l e R s m ([.ref hb0, .int xv] : List Value).toArray below meth c H locs 1 6 (vx_MQ below (QC Z (cw Z hc x ++ bl Z hb0 hk hc hm wg mo n o) s.heap.size (fun r w1 => ∃ i, i < n ∧ xv = nI i ∧ r = some (.long (lN (rn x σ (rw i) (wd i)))) ∧ ∃ S t, w1 = cw Z hc (xset x S t) ++ bl Z hb0 hk hc hm wg mo n o ∧ cok (xset x S t) σ)) (XCd (fun E => E = IAE ∧ ¬ vix xv n)) ([.ref hb0, .int xv] : List Value).toArray s 1 6 A) (F0 m 11 ls []) := by
    intro d
    induction d with
    | zero =>
      intro z S t H locs ls hzd hok hW hl
      refine lv_iload hx hb dX3_value_11 (lv_at hl 3 rfl) ?_
      refine lv_aload_n hx hb dX3_value_13 rfl (lv_at hl 1 rfl) ?_
      refine r_len hx hb hK (hro.here hAe hW hi).2 dX3_value_14 ?_
      refine n_ge_t (tgt := 42) hx hb (by omega) (by omega) dX3_value_15 (by decide) ?_
      refine lv_lload_n hx hb dX3_value_42 rfl (lv_at hl 2 rfl) ?_
      have hz : z = wd i := by omega
      subst hz
      exact vx_ret (e_long hx hb hr hlk hAe hW (by omega) (by omega) dX3_value_43 ⟨i, hi, ei, rfl, S, t, rfl, hok⟩)
    | succ d ih =>
      intro z S t H locs ls hzd hok hW hl
      refine lv_iload hx hb dX3_value_11 (lv_at hl 3 rfl) ?_
      refine lv_aload_n hx hb dX3_value_13 rfl (lv_at hl 1 rfl) ?_
      refine r_len hx hb hK (hro.here hAe hW hi).2 dX3_value_14 ?_
      refine n_ge_f (tgt := 42) hx hb (by omega) (by omega) dX3_value_15 (by decide) ?_
      refine lv_lload_n hx hb dX3_value_18 rfl (lv_at hl 2 rfl) ?_
      refine lv_aload_n hx hb dX3_value_19 rfl (lv_at hl 0 rfl) ?_
      refine r_get hx hb hts hown hK (hW.at 5 rfl) rfl in_X3 1 (by decide) tb_98 (fun _ h => h) rfl dX3_value_20 ?_
      refine lv_aload_n hx hb dX3_value_23 rfl (lv_at hl 1 rfl) ?_
      refine lv_iload hx hb dX3_value_24 (lv_at hl 3 rfl) ?_
      refine r_ald (i := z) hx hb hK (hro.here hAe hW hi).2 (by omega) (by omega) dX3_value_26 ?_
      refine c_virt (As := [.int (nI ((rw i) z))]) (rest := [.long (lN (rn x σ (rw i) z))]) (wc := cw Z hc (xset x S t)) (wr := bl Z hb0 hk hc hm wg mo n o) (nl := 0) hx hb hml hown hts hK hG rfl hA hl (k_read l Z hc (xset x S t) σ (rw i z) hok (w4_i z (by omega))) hW trivial (hW.at 0 rfl) rfl rfl tb_757 tb_758 tb_759 tb_3 tb_760 (nA := 1) (by decide +kernel) rfl ⟨by omega, by omega⟩ ⟨by omega, by omega⟩ rfl (Nat.le_of_ble_eq_true rfl) dX3_value_27 (fun v w1 H1 L1 hp hW hzz hkk hdd => ?_)
      obtain ⟨S2, t2, rfl, rfl, hok2⟩ := hp
      clear hzz hkk hdd
      generalize H1 = H at hW  ⊢
      generalize L1 = locs at hW ⊢
      have hW : Wd Z A s.heap (cw Z hc (xset x S2 t2) ++ bl Z hb0 hk hc hm wg mo n o) _ _ := hW
      refine W.eq (g2 := F0 m 30 ls [.int (nI (vl x σ (rw i z)).toNat), .long (lN (rn x σ (rw i) z))]) rfl ?_
      refine lv_i2l (v := (nI (vl x σ (rw i z)).toNat).toInt64) hx hb dX3_value_30 rfl ?_
      refine lv_iload hx hb dX3_value_31 (lv_at hl 3 rfl) ?_
      refine lv_lshl (v := (((nI (vl x σ (rw i z)).toNat).toInt64) <<< ((nI z).toInt64 &&& 63))) hx hb dX3_value_33 rfl ?_
      refine lv_lor hx hb dX3_value_34 ?_
      rw [lor_step (rn_lt x σ (rw i) z) (by omega), ← rn_s]
      refine lv_lstore_n (lv' := [(3, .long (lN (rn x σ (rw i) (z + 1)))), (0, .ref hb0), (2, .ref (vb i)), (5, .int (nI z))]) hx hb dX3_value_35 rfl hl (by decide) rfl (fun ls hl => ?_)
      refine lv_iinc (v := nI (z + 1)) (lv' := [(5, .int (nI (z + 1))), (3, .long (lN (rn x σ (rw i) (z + 1)))), (0, .ref hb0), (2, .ref (vb i))]) hx hb dX3_value_36 hl (k := 3) rfl (inc1 _) (by decide) rfl (fun ls hl => ?_)
      refine lv_goto (tgt := 11) hx hb dX3_value_39 (by decide) ?_
      exact ih (z + 1) S2 t2 _ _ ls (by omega) hok2 hW (lv_sub hl [2, 3, 1, 0] rfl)
  have e0 : (0 : Int64) = lN (rn x σ (rw i) 0) := rfl
  rw [e0] at hl
  exact loop (wd i) 0 (xS x) (xt x) _ _ ls (by omega) hbok.1 hW (lv_sub hl [3, 2, 1, 0] rfl)
/-- the sources from base on, w of them, take the bits of V -/
def sset (σ : Nat → Bool) (base w V : Nat) : Nat → Bool := fun g => if base ≤ g ∧ g < base + w then V.testBit (g - base) else σ g
theorem sset_s (σ : Nat → Bool) (base w V : Nat) : up (sset σ base w V) (base + w) (V.testBit w) = sset σ base (w + 1) V := by
  funext g
  by_cases e : g = base + w
  · subst e
    rw [up_s, sset, if_pos (by omega)]; congr 1; omega
  · rw [up_n _ _ e]
    unfold sset
    by_cases q : base ≤ g ∧ g < base + w
    · rw [if_pos q, if_pos (by omega)]
    · rw [if_neg q, if_neg (by omega)]
theorem sset_0 (σ : Nat → Bool) (base V : Nat) : sset σ base 0 V = σ := by
  funext g
  rw [sset, if_neg (by omega)]
theorem sset_n (σ : Nat → Bool) {base w V g : Nat} (h : base + w ≤ g) : sset σ base w V g = σ g := by rw [sset, if_neg (by omega)]
set_option maxHeartbeats 4000000 in
set_option maxRecDepth 100000 in
/-- VectorBench.set -/
theorem k_set (l : Launch) (hst : l.stackTraces = false) (Z : Zt) (hb0 hk hc hm : Nat) (x : CS) (σ : Nat → Bool) (mo : Int32) (n wg : Nat) (o : Option (Nat × Nat × (Nat → Option Nat))) (vd vb stb wd : Nat → Nat) (rw : Nat → Nat → Nat) (xv : Int32) (V : Int64) (hbok : bok x σ n wg o vd stb wd rw) (hsrc : ∀ i, i < n → stb i = 1 → ∃ base, 2 ≤ base ∧ ∀ j, j < wd i → rw i j = base + j ∧ xK x (base + j) = 0) : MX l yX3_set cX3_set 8 (some .long) 11 600 (2) (12) Z (cw Z hc x ++ bl Z hb0 hk hc hm wg mo n o) (fun H => BRO Z (cw Z hc x ++ bl Z hb0 hk hc hm wg mo n o) hk hc n vd vb stb wd rw H) [.ref hb0, .int xv, .long V] (fun r w1 => ∃ i base, i < n ∧ xv = nI i ∧ stb i = 1 ∧ (∀ j, j < wd i → rw i j = base + j) ∧ r = some (.long (lN (rn x σ (rw i) (wd i)))) ∧ ∃ S t, w1 = cw Z hc (xset x S t) ++ bl Z hb0 hk hc hm wg mo n o ∧ cok (xset x S t) (sset σ base (wd i) V.toUInt64.toNat)) (fun E => E = IAE ∧ ¬ ∃ i, i < n ∧ xv = nI i ∧ stb i = 1) := by
  refine mx_of (by decide) (Nat.le_of_ble_eq_true rfl) (fun p e s m below meth c ls A hx hb hr hts hown hlk hml hex hK hG hW hA hAe hro hl R hRf hRc hRs hRl => ?_)
  have hl : lv_has ls 8 [(0, .ref hb0), (1, .int xv), (2, .long V)] := hl
  have hsm : ∀ q : Nat, q < s.heap.size → s.heap[q]? = s.heap[q]? := fun _ _ => rfl
  refine lv_aload_n hx hb dX3_set_0 rfl (lv_at hl 0 rfl) ?_
  refine lv_iload_n hx hb dX3_set_1 rfl (lv_at hl 1 rfl) ?_
  have hsz0 := hW.2.2.1
  refine x_virt (As := [.int xv]) (rest := []) (wc := []) (wr := cw Z hc x ++ bl Z hb0 hk hc hm wg mo n o) hx hb hml hown hts hK hG rfl hA hl (k_bitsOf l hst Z hb0 hk hc hm mo n wg o vd vb stb xv hbok.2.1) hW ⟨hW.at 5 rfl, suf_P (wc := cw Z hc x ++ [bo hb0 hk hc hm wg]) hW.1, fun i hi => (hro.here hAe hW hi).1⟩ (hW.at 5 rfl) rfl rfl tb_337 tb_339 ts_6 tb_1 tb_340 (nA := 1) (by decide +kernel) rfl ⟨by omega, by omega⟩ ⟨by omega, by omega⟩ rfl (Nat.le_of_ble_eq_true rfl) dX3_set_2 (fun E q9 ce H9 L9 hpx hWx hzx hkx hce hcv hcl => x_pass hex hlk (⟨hpx.1, fun ⟨i, z1, z2, _⟩ => hpx.2 ⟨i, z1, z2⟩⟩) (Nat.le_trans hsz0 hzx) (fun q hq => (hkx q (Nat.lt_of_lt_of_le hq hsz0)).trans (hsm q hq)) hce hcv hcl hWx.2.2.2.2 (by omega) (by omega)) (fun v w1 H1 L1 hp hW hzz hkk hdd => ?_)
  obtain ⟨rfl, i, hi, ei, rfl⟩ := hp
  have hsm := sm_step hsz0 hkk hsm
  clear hzz hkk hdd
  generalize H1 = H at hW hsm ⊢
  generalize L1 = locs at hW ⊢
  have hW : Wd Z A s.heap (cw Z hc x ++ bl Z hb0 hk hc hm wg mo n o) _ _ := hW
  refine W.eq (g2 := F0 m 5 ls [.ref (vb i)]) rfl ?_
  obtain ⟨w1_i, w2_i, w3_i, w4_i⟩ := hbok.2.2.2.2.2 i hi
  have hn5 := hbok.2.2.2.2.1
  have inj : ∀ a b : Nat, a < n → b < n → nI a = nI b → a = b := fun a b ha hb h => (nI_eq (by omega) (by omega)).mp h
  have hxn := hbok.2.2.2.1
  have hwb := hbok.2.2.1
  have hx1 := stp.rf hbok.1
  have ho := hbok.2.1
  have hlo := suf_P (wc := cw Z hc x ++ [bo hb0 hk hc hm wg]) (wr := lst Z hm mo n o) hW.1
  obtain ⟨ce, f, hce, hnc, hf, hzf⟩ : ∃ (ce : Nat) (f : Nat → Option Nat), ce ≤ 768 ∧ n ≤ ce ∧ f i = some (vd i) ∧ zat Z (er Z (lsq Z o) ce f) _ := by
    cases o with
    | none => exact absurd ho.2 (by omega)
    | some z => exact ⟨z.2.1, z.2.2, ho.2.2.1, ho.2.1, ho.2.2.2.2.1 i hi, hlo 1 _ rfl⟩
  refine lv_astore (lv' := [(4, .ref (vb i)), (0, .ref hb0), (1, .int xv), (2, .long V)]) hx hb dX3_set_5 hl (by decide) rfl (fun ls hl => ?_)
  refine lv_aload_n hx hb dX3_set_7 rfl (lv_at hl 1 rfl) ?_
  refine r_get hx hb hts hown hK (hW.at 5 rfl) rfl in_X3 2 (by decide) tb_99 (fun _ h => h) rfl dX3_set_8 ?_
  refine lv_iload_n hx hb dX3_set_11 rfl (lv_at hl 2 rfl) ?_
  refine n_eqv ei ?_
  have hsz0 := hW.2.2.1
  refine c_virt (As := [.int (nI i)]) (rest := []) (wc := []) (wr := cw Z hc x ++ bl Z hb0 hk hc hm wg mo n o) (nl := 0) hx hb hml hown hts hK hG rfl hA hl (k_get l Z hm mo (lsq Z o) n i ce (vd i) f hi hnc (by omega) hf) hW ⟨(hW.at 6 rfl), hzf⟩ (hW.at 6 rfl) rfl rfl tb_342 tb_343 tb_344 tb_6 tb_345 (nA := 1) (by decide +kernel) rfl ⟨by omega, by omega⟩ ⟨by omega, by omega⟩ rfl (Nat.le_of_ble_eq_true rfl) dX3_set_12 (fun v w1 H1 L1 hp hW hzz hkk hdd => ?_)
  obtain ⟨rfl, rfl⟩ := hp
  have hsm := sm_step hsz0 hkk hsm
  clear hzz hkk hdd
  generalize H1 = H at hW hsm ⊢
  generalize L1 = locs at hW ⊢
  have hW : Wd Z A s.heap (cw Z hc x ++ bl Z hb0 hk hc hm wg mo n o) _ _ := hW
  refine W.eq (g2 := F0 m 15 ls [.ref (vd i)]) rfl ?_
  refine va_castY hx hb hown (hts _ tb_246) (hG.1.1 (RX2, RX2) (by simp [nw_cast])) (va_recv (q0 := 0) (ci := 2) (q := (RX2, TX2, 2)) hK (zat_one (hro.here hAe hW hi).1) rfl rfl) dX3_set_15 ?_
  refine r_get hx hb hts hown hK (hro.here hAe hW hi).1 rfl in_X2 1 (by decide) tb_255 (fun _ h => h) rfl dX3_set_18 ?_
  by_cases hs1 : stb i = 0
  · refine n_zne_f (tgt := 34) hx hb (by omega) dX3_set_21 (by decide) ?_
    exact th_IAE hx hb hst hown hts hG hW hml hl hex hlk (is := 132) (text := "the vector is no input") (by decide) dX3_set_24 dX3_set_27 dX3_set_28 dX3_set_30 dX3_set_33 (by omega) (by rw [hRl]; exact Nat.le_of_ble_eq_true rfl) (by omega) (by omega) ⟨rfl, fun ⟨a, z1, z2, z3⟩ => by have e9 := inj i a hi z1 (ei.symm.trans z2); subst e9; omega⟩ hsm (by omega) (by omega)
  · refine n_zne_t (tgt := 34) hx hb (by omega) (by omega) dX3_set_21 (by decide) ?_
    obtain ⟨base, hb2, hbase⟩ := hsrc i hi (by omega)
    refine lv_lconst (v := 0) hx hb dX3_set_34 (by decide) ?_
    refine lv_lstore (lv' := [(5, .long 0), (4, .ref (vb i)), (0, .ref hb0), (1, .int xv), (2, .long V)]) hx hb dX3_set_35 hl (by decide) rfl (fun ls hl => ?_)
    refine lv_iconst (v := nI 0) hx hb dX3_set_37 (by decide) ?_
    refine lv_istore (lv' := [(7, .int (nI 0)), (5, .long 0), (4, .ref (vb i)), (0, .ref hb0), (1, .int xv), (2, .long V)]) hx hb dX3_set_38 hl (by decide) rfl (fun ls hl => ?_)
    have loop : ∀ (d z : Nat) (S : Nat → Nat) (t : Nat) (H : Heap) (locs : List Loc) (ls : Array Slot), z + d = wd i → cok (xset x S t) (sset σ base z V.toUInt64.toNat) → Wd Z A s.heap (cw Z hc (xset x S t) ++ bl Z hb0 hk hc hm wg mo n o) H locs → lv_has ls 8 [(0, .ref hb0), (2, .long V), (4, .ref (vb i)), (5, .long (lN (rn x σ (rw i) z))), (7, .int (nI z))] → W p l e R s m ([.ref hb0, .int xv, .long V] : List Value).toArray below meth c H locs 1 6 (vx_MQ below (QC Z (cw Z hc x ++ bl Z hb0 hk hc hm wg mo n o) s.heap.size (fun r w1 => ∃ i base, i < n ∧ xv = nI i ∧ stb i = 1 ∧ (∀ j, j < wd i → rw i j = base + j) ∧ r = some (.long (lN (rn x σ (rw i) (wd i)))) ∧ ∃ S t, w1 = cw Z hc (xset x S t) ++ bl Z hb0 hk hc hm wg mo n o ∧ cok (xset x S t) (sset σ base (wd i) V.toUInt64.toNat))) (XCd (fun E => E = IAE ∧ ¬ ∃ i, i < n ∧ xv = nI i ∧ stb i = 1)) ([.ref hb0, .int xv, .long V] : List Value).toArray s 2 12 A) (F0 m 40 ls []) := by
      intro d
      induction d with
      | zero =>
        intro z S t H locs ls hzd hok hW hl
        refine lv_iload hx hb dX3_set_40 (lv_at hl 4 rfl) ?_
        refine lv_aload hx hb dX3_set_42 (lv_at hl 2 rfl) ?_
        refine r_len hx hb hK (hro.here hAe hW hi).2 dX3_set_44 ?_
        refine n_ge_t (tgt := 81) hx hb (by omega) (by omega) dX3_set_45 (by decide) ?_
        refine lv_lload hx hb dX3_set_81 (lv_at hl 3 rfl) ?_
        have hz : z = wd i := by omega
        subst hz
        exact vx_ret (e_long hx hb hr hlk hAe hW (by omega) (by omega) dX3_set_83 ⟨i, base, hi, ei, by omega, fun j hj => (hbase j hj).1, rfl, S, t, rfl, hok⟩)
      | succ d ih =>
        intro z S t H locs ls hzd hok hW hl
        obtain ⟨hbz, hkz⟩ := hbase z (by omega)
        have hlz := w4_i z (by omega)
        refine lv_iload hx hb dX3_set_40 (lv_at hl 4 rfl) ?_
        refine lv_aload hx hb dX3_set_42 (lv_at hl 2 rfl) ?_
        refine r_len hx hb hK (hro.here hAe hW hi).2 dX3_set_44 ?_
        refine n_ge_f (tgt := 81) hx hb (by omega) (by omega) dX3_set_45 (by decide) ?_
        refine lv_lload hx hb dX3_set_48 (lv_at hl 3 rfl) ?_
        refine lv_aload_n hx hb dX3_set_50 rfl (lv_at hl 0 rfl) ?_
        refine r_get hx hb hts hown hK (hW.at 5 rfl) rfl in_X3 1 (by decide) tb_98 (fun _ h => h) rfl dX3_set_51 ?_
        refine lv_aload hx hb dX3_set_54 (lv_at hl 2 rfl) ?_
        refine lv_iload hx hb dX3_set_56 (lv_at hl 4 rfl) ?_
        refine r_ald (i := z) hx hb hK (hro.here hAe hW hi).2 (by omega) (by omega) dX3_set_58 ?_
        refine lv_lload_n hx hb dX3_set_59 rfl (lv_at hl 1 rfl) ?_
        refine lv_iload hx hb dX3_set_60 (lv_at hl 4 rfl) ?_
        refine c_stat (As := [.long V, .int (nI z)]) (rest := [.int (nI ((rw i) z)), .ref hc, .long (lN (rn x σ (rw i) z))]) (wc := []) (wr := cw Z hc (xset x S t) ++ bl Z hb0 hk hc hm wg mo n o) hx hb hml hown hts hK hG rfl hA hl (k_bitOf l Z V z (by omega)) hW trivial tb_323 tb_324 tb_1 tb_325 (nA := 2) (by decide +kernel) rfl ⟨by omega, by omega⟩ ⟨by omega, by omega⟩ rfl (Nat.le_of_ble_eq_true rfl) dX3_set_62 (fun v w1 H1 L1 hp hW hzz hkk hdd => ?_)
        obtain ⟨rfl, rfl⟩ := hp
        clear hzz hkk hdd
        generalize H1 = H at hW  ⊢
        generalize L1 = locs at hW ⊢
        have hW : Wd Z A s.heap (cw Z hc (xset x S t) ++ bl Z hb0 hk hc hm wg mo n o) _ _ := hW
        refine W.eq (g2 := F0 m 65 ls [.int (nI (V.toUInt64.toNat.testBit z).toNat), .int (nI ((rw i) z)), .ref hc, .long (lN (rn x σ (rw i) z))]) rfl ?_
        refine c_virt (As := [.int (nI ((rw i) z)), .int (nI (V.toUInt64.toNat.testBit z).toNat)]) (rest := [.long (lN (rn x σ (rw i) z))]) (wc := cw Z hc (xset x S t)) (wr := bl Z hb0 hk hc hm wg mo n o) (nl := 0) hx hb hml hown hts hK hG rfl hA hl (k_put l Z hc (xset x S t) (sset σ base z V.toUInt64.toNat) (rw i z) (V.toUInt64.toNat.testBit z) hok (by omega) hlz (by rw [hbz]; exact hkz)) hW trivial (hW.at 0 rfl) rfl rfl tb_745 tb_746 tb_747 tb_3 tb_748 (nA := 2) (by decide +kernel) rfl ⟨by omega, by omega⟩ ⟨by omega, by omega⟩ rfl (Nat.le_of_ble_eq_true rfl) dX3_set_65 (fun v w1 H1 L1 hp hW hzz hkk hdd => ?_)
        obtain ⟨S2, t2, rfl, rfl, hok2⟩ := hp
        clear hzz hkk hdd
        generalize H1 = H at hW  ⊢
        generalize L1 = locs at hW ⊢
        have hW : Wd Z A s.heap (cw Z hc (xset x S2 t2) ++ bl Z hb0 hk hc hm wg mo n o) _ _ := hW
        refine W.eq (g2 := F0 m 68 ls [.int (nI (sset σ base z V.toUInt64.toNat (rw i z)).toNat), .long (lN (rn x σ (rw i) z))]) rfl ?_
        have ev : sset σ base z V.toUInt64.toNat (rw i z) = vl x σ (rw i z) := by
          rw [hbz, sset_n σ (Nat.le_refl _), vl, cv_src hkz]
        rw [ev]
        rw [hbz, sset_s] at hok2
        refine lv_i2l (v := (nI (vl x σ (rw i z)).toNat).toInt64) hx hb dX3_set_68 rfl ?_
        refine lv_iload hx hb dX3_set_69 (lv_at hl 4 rfl) ?_
        refine lv_lshl (v := (((nI (vl x σ (rw i z)).toNat).toInt64) <<< ((nI z).toInt64 &&& 63))) hx hb dX3_set_71 rfl ?_
        refine lv_lor hx hb dX3_set_72 ?_
        rw [lor_step (rn_lt x σ (rw i) z) (by omega), ← rn_s]
        refine lv_lstore (lv' := [(5, .long (lN (rn x σ (rw i) (z + 1)))), (0, .ref hb0), (2, .long V), (4, .ref (vb i)), (7, .int (nI z))]) hx hb dX3_set_73 hl (by decide) rfl (fun ls hl => ?_)
        refine lv_iinc (v := nI (z + 1)) (lv' := [(7, .int (nI (z + 1))), (5, .long (lN (rn x σ (rw i) (z + 1)))), (0, .ref hb0), (2, .long V), (4, .ref (vb i))]) hx hb dX3_set_75 hl (k := 4) rfl (inc1 _) (by decide) rfl (fun ls hl => ?_)
        refine lv_goto (tgt := 40) hx hb dX3_set_78 (by decide) ?_
        exact ih (z + 1) S2 t2 _ _ ls (by omega) hok2 hW (lv_sub hl [2, 3, 4, 1, 0] rfl)
    have e0 : (0 : Int64) = lN (rn x σ (rw i) 0) := rfl
    rw [e0] at hl
    exact loop (wd i) 0 (xS x) (xt x) _ _ ls (by omega) (by rw [sset_0]; exact hbok.1) hW (lv_sub hl [3, 5, 2, 1, 0] rfl)
set_option maxHeartbeats 4000000 in
set_option maxRecDepth 100000 in
theorem k_Reckoner (l : Launch) (Z : Zt) (hk : Nat)  : MC l yX1_init cX1_init 1 none 3 120 (5) (262) Z ([eo hk 1 [.null]]) (fun _ => True) [.ref hk] (fun v w1 => ∃ (hc : Nat) (x : CS), v = none ∧ w1 = cw Z hc x ++ [eo hk 1 [.ref hc]] ∧ cok x (fun g => decide (g = 1)) ∧ xn x = 2 ∧ xu x = 1) := by
  refine mc_of (by decide) (Nat.le_of_ble_eq_true rfl) (fun p e s m below meth c ls A hx hb hr hts hown hlk hml hin hK hG hW hA hAe hro hl R hRf hRc hRs hRl => ?_)
  have hl : lv_has ls 1 [(0, .ref hk)] := hl
  refine lv_aload_n hx hb dX1_init_0 rfl (lv_at hl 0 rfl) ?_
  refine W.objInit hx hb hown (hts _ tb_39) (hts _ tb_oi2) (hts _ tb_oi3) rfl (hl.1.trans hml.symm) rfl dX1_init_1 (by omega) (by rw [hRl]; exact Nat.le_of_ble_eq_true rfl) ?_
  refine W.eq (g2 := F0 m 4 ls []) rfl ?_
  refine lv_aload_n hx hb dX1_init_4 rfl (lv_at hl 0 rfl) ?_
  refine r_new (fs := [.null, .null, .null, .null, .int 0, .int 0]) hx hb hts hown hK hW hA (ci := 0) rfl in_X0 tyX0 tyX0_ok tb_40 tb_41 tb_3 (fun j hj => by rcases (show j = 0 ∨ j = 1 ∨ j = 2 ∨ j = 3 ∨ j = 4 ∨ j = 5 by omega) with rfl | rfl | rfl | rfl | rfl | rfl <;> rfl) (by omega) (by omega) dX1_init_5 (fun hc H hW => ?_)
  have hW : Wd Z A s.heap ([eo hk 1 [.null], eo hc 0 [.null, .null, .null, .null, .int 0, .int 0]]) _ _ := hW
  refine lv_dup hx hb dX1_init_8 rfl ?_
  have hW : Wd Z A s.heap ([eo hc 0 [.null, .null, .null, .null, .int 0, .int 0], eo hk 1 [.null]]) _ _ := hW.sub [1, 0] (by decide) rfl
  refine c_spec (b := hc) (As := []) (rest := [.ref hc, .ref hk]) (wc := [eo hc 0 [.null, .null, .null, .null, .int 0, .int 0]]) (wr := [eo hk 1 [.null]]) hx hb hml hown hts hK hG rfl hA hl (k_Circuit l Z hc) hW trivial tb_42 tb_43 tb_3 tb_44 rfl (nA := 0) (by decide +kernel) rfl ⟨by omega, by omega⟩ ⟨by omega, by omega⟩ rfl (Nat.le_of_ble_eq_true rfl) dX1_init_9 (fun v w1 H1 L1 hp hW hzz hkk hdd => ?_)
  obtain ⟨x, rfl, rfl, hok, hxn, hxu⟩ := hp
  clear hzz hkk hdd
  generalize H1 = H at hW  ⊢
  generalize L1 = locs at hW ⊢
  have hW : Wd Z A s.heap (cw Z hc x ++ [eo hk 1 [.null]]) _ _ := hW
  refine W.eq (g2 := F0 m 12 ls [.ref hc, .ref hk]) rfl ?_
  refine r_putF hx hb hts hown hK hW 5 (v := .ref hc) rfl rfl in_X1 tyX1 tyX1_ok nmX1 0 (by decide) tb_66 (fun _ h => h) rfl hin rfl rfl rfl (Nat.le_of_ble_eq_true rfl) dX1_init_12 (fun H locs hW => ?_)
  have hW : Wd Z A s.heap (cw Z hc x ++ [eo hk 1 [.ref hc]]) _ _ := hW
  exact e_void hx hb hr hlk hAe hW (by omega) (by omega) dX1_init_15 ⟨hc, x, rfl, rfl, hok, hxn, hxu⟩
set_option maxHeartbeats 4000000 in
set_option maxRecDepth 100000 in
theorem k_Bench (l : Launch) (Z : Zt) (hb0 : Nat)  : MC l yX3_init cX3_init 1 none 5 200 (10) (300) Z ([eo hb0 3 [.null, .null, .null, .int 0]]) (fun _ => True) [.ref hb0] (fun v w1 => ∃ (hk hc hm : Nat) (x : CS), v = none ∧ w1 = cw Z hc x ++ ([eo hk 1 [.ref hc]] ++ bl Z hb0 hk hc hm 0 (nI 0) 0 none) ∧ cok x (fun g => decide (g = 1)) ∧ xn x = 2 ∧ xu x = 1) := by
  refine mc_of (by decide) (Nat.le_of_ble_eq_true rfl) (fun p e s m below meth c ls A hx hb hr hts hown hlk hml hin hK hG hW hA hAe hro hl R hRf hRc hRs hRl => ?_)
  have hl : lv_has ls 1 [(0, .ref hb0)] := hl
  refine lv_aload_n hx hb dX3_init_0 rfl (lv_at hl 0 rfl) ?_
  refine W.objInit hx hb hown (hts _ tb_31) (hts _ tb_oi2) (hts _ tb_oi3) rfl (hl.1.trans hml.symm) rfl dX3_init_1 (by omega) (by rw [hRl]; exact Nat.le_of_ble_eq_true rfl) ?_
  refine W.eq (g2 := F0 m 4 ls []) rfl ?_
  refine lv_aload_n hx hb dX3_init_4 rfl (lv_at hl 0 rfl) ?_
  refine r_new (fs := [.null]) hx hb hts hown hK hW hA (ci := 1) rfl in_X1 tyX1 tyX1_ok tb_34 tb_35 tb_2 (fun j hj => by rcases (show j = 0 by omega) with rfl <;> rfl) (by omega) (by omega) dX3_init_5 (fun hk H hW => ?_)
  have hW : Wd Z A s.heap ([eo hb0 3 [.null, .null, .null, .int 0], eo hk 1 [.null]]) _ _ := hW
  refine lv_dup hx hb dX3_init_8 rfl ?_
  have hW : Wd Z A s.heap ([eo hk 1 [.null], eo hb0 3 [.null, .null, .null, .int 0]]) _ _ := hW.sub [1, 0] (by decide) rfl
  refine c_spec (b := hk) (As := []) (rest := [.ref hk, .ref hb0]) (wc := [eo hk 1 [.null]]) (wr := [eo hb0 3 [.null, .null, .null, .int 0]]) hx hb hml hown hts hK hG rfl hA hl (k_Reckoner l Z hk) hW trivial tb_36 tb_37 tb_2 tb_38 rfl (nA := 0) (by decide +kernel) rfl ⟨by omega, by omega⟩ ⟨by omega, by omega⟩ rfl (Nat.le_of_ble_eq_true rfl) dX3_init_9 (fun v w1 H1 L1 hp hW hzz hkk hdd => ?_)
  obtain ⟨hc, x, rfl, rfl, hok, hxn, hxu⟩ := hp
  clear hzz hkk hdd
  generalize H1 = H at hW  ⊢
  generalize L1 = locs at hW ⊢
  have hW : Wd Z A s.heap (cw Z hc x ++ [eo hk 1 [.ref hc], eo hb0 3 [.null, .null, .null, .int 0]]) _ _ := hW
  refine W.eq (g2 := F0 m 12 ls [.ref hk, .ref hb0]) rfl ?_
  refine r_putF hx hb hts hown hK hW 6 (v := .ref hk) rfl rfl in_X3 tyX3 tyX3_ok nmX3 0 (by decide) tb_97 (fun _ h => h) rfl hin rfl rfl rfl (Nat.le_of_ble_eq_true rfl) dX3_init_12 (fun H locs hW => ?_)
  have hW : Wd Z A s.heap (cw Z hc x ++ [eo hk 1 [.ref hc], eo hb0 3 [.ref hk, .null, .null, .int 0]]) _ _ := hW
  refine lv_aload_n hx hb dX3_init_15 rfl (lv_at hl 0 rfl) ?_
  refine lv_aload_n hx hb dX3_init_16 rfl (lv_at hl 0 rfl) ?_
  refine r_get hx hb hts hown hK (hW.at 6 rfl) rfl in_X3 0 (by decide) tb_97 (fun _ h => h) rfl dX3_init_17 ?_
  refine r_get hx hb hts hown hK (hW.at 5 rfl) rfl in_X1 0 (by decide) tb_67 (fun _ h => h) rfl dX3_init_20 ?_
  refine r_putF hx hb hts hown hK hW 6 (v := .ref hc) rfl rfl in_X3 tyX3 tyX3_ok nmX3 1 (by decide) tb_98 (fun _ h => h) rfl hin rfl rfl rfl (Nat.le_of_ble_eq_true rfl) dX3_init_23 (fun H locs hW => ?_)
  have hW : Wd Z A s.heap (cw Z hc x ++ [eo hk 1 [.ref hc], eo hb0 3 [.ref hk, .ref hc, .null, .int 0]]) _ _ := hW
  refine lv_aload_n hx hb dX3_init_26 rfl (lv_at hl 0 rfl) ?_
  refine r_new (fs := [.int 0, .null, .int 0]) hx hb hts hown hK hW hA (ci := 5) rfl in_J tyJx4a65c tyJx4a65c_ok tb_71 tb_72 tb_6 (fun j hj => by rcases (show j = 0 ∨ j = 1 ∨ j = 2 by omega) with rfl | rfl | rfl <;> rfl) (by omega) (by omega) dX3_init_27 (fun hm H hW => ?_)
  have hW : Wd Z A s.heap (cw Z hc x ++ [eo hk 1 [.ref hc], eo hb0 3 [.ref hk, .ref hc, .null, .int 0], eo hm 5 [.int 0, .null, .int 0]]) _ _ := hW
  refine lv_dup hx hb dX3_init_30 rfl ?_
  have hW : Wd Z A s.heap ([eo hm 5 [.int 0, .null, .int 0]] ++ (cw Z hc x ++ [eo hk 1 [.ref hc], eo hb0 3 [.ref hk, .ref hc, .null, .int 0]])) _ _ := hW.sub [7, 0, 1, 2, 3, 4, 5, 6] (by decide) rfl
  refine c_spec (b := hm) (As := []) (rest := [.ref hm, .ref hb0]) (wc := [eo hm 5 [.int 0, .null, .int 0]]) (wr := cw Z hc x ++ [eo hk 1 [.ref hc], eo hb0 3 [.ref hk, .ref hc, .null, .int 0]]) hx hb hml hown hts hK hG rfl hA hl (k_ArrayList l Z hm) hW trivial tb_73 tb_74 tb_6 tb_75 rfl (nA := 0) (by decide +kernel) rfl ⟨by omega, by omega⟩ ⟨by omega, by omega⟩ rfl (Nat.le_of_ble_eq_true rfl) dX3_init_31 (fun v w1 H1 L1 hp hW hzz hkk hdd => ?_)
  obtain ⟨rfl, rfl⟩ := hp
  clear hzz hkk hdd
  generalize H1 = H at hW  ⊢
  generalize L1 = locs at hW ⊢
  have hW : Wd Z A s.heap ([eo hm 5 [.int (nI 0), .ref (rE Z), .int (nI 0)]] ++ (cw Z hc x ++ [eo hk 1 [.ref hc], eo hb0 3 [.ref hk, .ref hc, .null, .int 0]])) _ _ := hW
  refine W.eq (g2 := F0 m 34 ls [.ref hm, .ref hb0]) rfl ?_
  refine r_putF hx hb hts hown hK hW 7 (v := .ref hm) rfl rfl in_X3 tyX3 tyX3_ok nmX3 2 (by decide) tb_99 (fun _ h => h) rfl hin rfl rfl rfl (Nat.le_of_ble_eq_true rfl) dX3_init_34 (fun H locs hW => ?_)
  have hW : Wd Z A s.heap ([eo hm 5 [.int (nI 0), .ref (rE Z), .int (nI 0)]] ++ (cw Z hc x ++ [eo hk 1 [.ref hc], eo hb0 3 [.ref hk, .ref hc, .ref hm, .int 0]])) _ _ := hW
  refine lv_aload_n hx hb dX3_init_37 rfl (lv_at hl 0 rfl) ?_
  refine lv_iconst (v := nI 0) hx hb dX3_init_38 (by decide) ?_
  refine r_put hx hb hts hown hK hW 7 (v := .int (nI 0)) rfl rfl in_X3 tyX3 tyX3_ok nmX3 3 (by decide) tb_100 (fun _ h => h) rfl rfl rfl (Nat.le_of_ble_eq_true rfl) dX3_init_39 (fun H locs hW => ?_)
  have hW : Wd Z A s.heap ([eo hm 5 [.int (nI 0), .ref (rE Z), .int (nI 0)]] ++ (cw Z hc x ++ [eo hk 1 [.ref hc], eo hb0 3 [.ref hk, .ref hc, .ref hm, .int (nI 0)]])) _ _ := hW
  have hW : Wd Z A s.heap (cw Z hc x ++ [eo hk 1 [.ref hc], eo hb0 3 [.ref hk, .ref hc, .ref hm, .int (nI 0)], eo hm 5 [.int (nI 0), .ref (rE Z), .int (nI 0)]]) _ _ := hW.sub [1, 2, 3, 4, 5, 6, 7, 0] (by decide) rfl
  have hW : Wd Z A s.heap (cw Z hc x ++ ([eo hk 1 [.ref hc]] ++ bl Z hb0 hk hc hm 0 (nI 0) 0 none)) _ _ := hW
  exact e_void hx hb hr hlk hAe hW (by omega) (by omega) dX3_init_42 ⟨hk, hc, hm, x, rfl, rfl, hok, hxn, hxu⟩
