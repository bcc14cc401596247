theorem par_shr (a : Int64) {k : Nat} (hk : k < 64) : uN (a >>> ((nI k).toInt64 &&& 63) &&& 1) = ((uN a).testBit k).toNat := by
  have h1 := toInt_shr a hk
  rw [uN_and, show uN 1 = 1 from rfl, Nat.and_one_is_mod, Nat.toNat_testBit]
  generalize a >>> ((nI k).toInt64 &&& 63) = x at h1 ⊢
  rw [uN_toInt, uN_toInt] at h1
  have hx := uN_lt x
  have ha := uN_lt a
  have hp : (2 ^ k : Int) * 2 ^ (64 - k) = 2 ^ 64 := by rw [← Int.pow_add]; congr 1; omega
  have hp0 : (2 ^ k : Int) ≠ 0 := Int.ne_of_gt (Int.pow_pos (by decide))
  have hev : (2 ^ (64 - k) : Int) = 2 * 2 ^ (63 - k) := by rw [show 64 - k = (63 - k) + 1 by omega, Int.pow_succ, Int.mul_comm]
  have e1 : ((uN a : Int) - 2 ^ 64) / 2 ^ k = (uN a : Int) / 2 ^ k - 2 ^ (64 - k) := by
    rw [← hp, Int.sub_eq_add_neg, ← Int.mul_neg, Int.add_mul_ediv_left _ _ hp0]; rfl
  have e2 : ((uN a / 2 ^ k : Nat) : Int) = (uN a : Int) / 2 ^ k := by rw [Int.natCast_ediv, Int.natCast_pow]; rfl
  have e3 : (uN a : Int) / 2 ^ k = ((uN a / 2 ^ k : Nat) : Int) := e2.symm
  by_cases q : 2 * uN a < 2 ^ 64
  · rw [if_pos q, e3] at h1
    generalize uN a / 2 ^ k = y at h1 ⊢
    split at h1 <;> omega
  · rw [if_neg q, e1, e3, hev] at h1
    generalize uN a / 2 ^ k = y at h1 ⊢
    generalize (2 ^ (63 - k) : Int) = z at h1
    split at h1 <;> omega
theorem rest_step (a : Int64) {R k : Nat} (hk : k < 64) : lN R <<< ((nI 1).toInt64 &&& 63) ||| a >>> ((nI k).toInt64 &&& 63) &&& 1 = lN (2 * R + ((uN a).testBit k).toNat) := by
  apply uN_inj
  have hb : ((uN a).testBit k).toNat ≤ 1 := by cases (uN a).testBit k <;> simp
  have h := par_shr a hk
  have h2 := uN_shl (lN R) (i := 1) (by decide)
  have e : uN (lN R <<< ((nI 1).toInt64 &&& 63)) = 2 ^ 1 * (R % 2 ^ 63) := by
    rw [h2, uN_lN]; omega
  rw [uN_or, h, e, ← Nat.two_pow_add_eq_or_of_lt (by omega), uN_lN]
  omega
theorem many_step {Q k : Nat} (hk : k < 64) : lN (2 ^ (k + 1) * Q) ||| (1 : Int64) <<< ((nI k).toInt64 &&& 63) = lN (2 ^ (k + 1) * Q + 2 ^ k) := by
  have h1 : (1 : Int64) <<< ((nI k).toInt64 &&& 63) = lN (2 ^ k) := by
    apply uN_inj
    rw [uN_shl 1 hk, show uN 1 = 1 from rfl, Nat.one_mul, uN_lN]
  rw [h1]
  apply uN_inj
  rw [uN_or, uN_lN, uN_lN, uN_lN, ← Nat.or_mod_two_pow, ← Nat.two_pow_add_eq_or_of_lt (by rw [Nat.pow_succ]; have := Nat.two_pow_pos k; omega)]
theorem signed_val (a : Int64) {w : Nat} (hw1 : 1 ≤ w) (hw : w ≤ 64) (hA : uN a < 2 ^ w) : (a <<< ((nI (64 - w)).toInt64 &&& 63) >>> ((nI (64 - w)).toInt64 &&& 63)).toInt = sI (uN a) w := by
  have hi : 64 - w < 64 := by omega
  have hp : 2 ^ w * 2 ^ (64 - w) = 2 ^ 64 := by rw [← Nat.pow_add]; congr 1; omega
  have hp2 : 2 ^ w = 2 * 2 ^ (w - 1) := by rw [← Nat.pow_succ']; congr 1; omega
  have hq : 0 < 2 ^ (64 - w) := Nat.two_pow_pos _
  rw [toInt_shr _ hi, uN_toInt, uN_shl a hi]
  have hlt : uN a * 2 ^ (64 - w) < 2 ^ 64 := by rw [← hp]; exact Nat.mul_lt_mul_of_pos_right hA hq
  rw [Nat.mod_eq_of_lt hlt, sI]
  have e0 : ((2 : Int) ^ (64 - w)) = ((2 ^ (64 - w) : Nat) : Int) := by rw [Int.natCast_pow]; rfl
  have hi0 : ((2 ^ (64 - w) : Nat) : Int) ≠ 0 := by omega
  by_cases q : uN a < 2 ^ (w - 1)
  · have h2 : 2 * (uN a * 2 ^ (64 - w)) < 2 ^ 64 := by
      have : uN a * 2 ^ (64 - w) < 2 ^ (w - 1) * 2 ^ (64 - w) := Nat.mul_lt_mul_of_pos_right q hq
      rw [← hp, hp2, Nat.mul_assoc]; omega
    rw [if_pos h2, if_pos q, e0, Int.natCast_mul, Int.mul_ediv_cancel _ hi0]
  · have h2 : ¬ 2 * (uN a * 2 ^ (64 - w)) < 2 ^ 64 := by
      have : 2 ^ (w - 1) * 2 ^ (64 - w) ≤ uN a * 2 ^ (64 - w) := Nat.mul_le_mul_right _ (by omega)
      rw [← hp, hp2, Nat.mul_assoc]; omega
    have e1 : ((2 : Int) ^ 64) = ((2 ^ w : Nat) : Int) * ((2 ^ (64 - w) : Nat) : Int) := by rw [← Int.natCast_mul, hp]; rfl
    have e2 : ((2 : Int) ^ w) = ((2 ^ w : Nat) : Int) := by rw [Int.natCast_pow]; rfl
    rw [if_neg h2, if_neg q, e0, e1, e2, Int.natCast_mul, ← Int.sub_mul, Int.mul_ediv_cancel _ hi0]
theorem mask_val : ∀ w, w < 64 → (1 : Int64) <<< ((nI w).toInt64 &&& 63) - 1 = lN (2 ^ w - 1) := by decide +kernel
set_option maxHeartbeats 4000000 in
set_option maxRecDepth 100000 in
theorem k_mask (l : Launch) (Z : Zt) (w : Nat) (hw : w ≤ 64) : MC l yX4_mask cX4_mask 1 (some .long) 0 0 (0) (0) Z ([]) (fun _ => True) [.int (nI w)] (fun v w1 => v = some (.long (lN (2 ^ w - 1))) ∧ w1 = []) := by
  refine mc_of (by decide) (Nat.le_of_ble_eq_true rfl) (fun p e s m below meth c ls A hx hb hr hts hown hlk hml hin hK hG hW hA hAe hro hl R hRf hRc hRs hRl => ?_)
  have hl : lv_has ls 1 [(0, .int (nI w))] := hl
  refine lv_iload_n hx hb dX4_mask_0 rfl (lv_at hl 0 rfl) ?_
  refine lv_bipush (v := nI 64) hx hb dX4_mask_1 (by decide) ?_
  by_cases hq : w = 64
  · refine n_ne_f (tgt := 12) hx hb (by omega) dX4_mask_3 (by decide) ?_
    refine lv_ldc2 (v := -1) hx hb hown (hts _ tb_828) dX4_mask_6 ?_
    refine lv_goto (tgt := 17) hx hb dX4_mask_9 (by decide) ?_
    subst hq
    exact e_long hx hb hr hlk hAe hW (by omega) (by omega) dX4_mask_17 ⟨rfl, rfl⟩
  · refine n_ne_t (tgt := 12) hx hb (by omega) (by omega) (by omega) dX4_mask_3 (by decide) ?_
    refine lv_lconst (v := 1) hx hb dX4_mask_12 (by decide) ?_
    refine lv_iload_n hx hb dX4_mask_13 rfl (lv_at hl 0 rfl) ?_
    refine lv_lshl (v := (1 <<< ((nI w).toInt64 &&& 63))) hx hb dX4_mask_14 rfl ?_
    refine lv_lconst (v := 1) hx hb dX4_mask_15 (by decide) ?_
    refine lv_lsub hx hb dX4_mask_16 ?_
    rw [mask_val w (by omega)]
    exact e_long hx hb hr hlk hAe hW (by omega) (by omega) dX4_mask_17 ⟨rfl, rfl⟩
set_option maxHeartbeats 4000000 in
set_option maxRecDepth 100000 in
theorem k_signed (l : Launch) (Z : Zt) (a : Int64) (w : Nat) (hw1 : 1 ≤ w) (hw : w ≤ 64) (hAw : uN a < 2 ^ w) : MC l yX4_signed cX4_signed 3 (some .long) 0 0 (0) (0) Z ([]) (fun _ => True) [.long a, .int (nI w)] (fun v w1 => ∃ r : Int64, v = some (.long r) ∧ w1 = [] ∧ r.toInt = sI (uN a) w) := by
  refine mc_of (by decide) (Nat.le_of_ble_eq_true rfl) (fun p e s m below meth c ls A hx hb hr hts hown hlk hml hin hK hG hW hA hAe hro hl R hRf hRc hRs hRl => ?_)
  have hl : lv_has ls 3 [(0, .long a), (2, .int (nI w))] := hl
  refine lv_lload_n hx hb dX4_signed_0 rfl (lv_at hl 0 rfl) ?_
  refine lv_bipush (v := nI 64) hx hb dX4_signed_1 (by decide) ?_
  refine lv_iload_n hx hb dX4_signed_3 rfl (lv_at hl 1 rfl) ?_
  refine n_isub hx hb (by omega) dX4_signed_4 ?_
  refine lv_lshl (v := (a <<< ((nI (64 - w)).toInt64 &&& 63))) hx hb dX4_signed_5 rfl ?_
  refine lv_bipush (v := nI 64) hx hb dX4_signed_6 (by decide) ?_
  refine lv_iload_n hx hb dX4_signed_8 rfl (lv_at hl 1 rfl) ?_
  refine n_isub hx hb (by omega) dX4_signed_9 ?_
  refine lv_lshr (v := ((a <<< ((nI (64 - w)).toInt64 &&& 63)) >>> ((nI (64 - w)).toInt64 &&& 63))) hx hb dX4_signed_10 rfl ?_
  exact e_long hx hb hr hlk hAe hW (by omega) (by omega) dX4_signed_11 ⟨_, rfl, rfl, signed_val a hw1 hw hAw⟩
set_option maxHeartbeats 4000000 in
set_option maxRecDepth 100000 in
theorem k_isBelow (l : Launch) (Z : Zt) (a b : Int64)  : MC l yX4_isBelow cX4_isBelow 4 (some .boolean) 0 0 (0) (0) Z ([]) (fun _ => True) [.long a, .long b] (fun v w1 => v = some (.int (nI (decide (uN a < uN b)).toNat)) ∧ w1 = []) := by
  refine mc_of (by decide) (Nat.le_of_ble_eq_true rfl) (fun p e s m below meth c ls A hx hb hr hts hown hlk hml hin hK hG hW hA hAe hro hl R hRf hRc hRs hRl => ?_)
  have hl : lv_has ls 4 [(0, .long a), (2, .long b)] := hl
  refine lv_lload_n hx hb dX4_isBelow_0 rfl (lv_at hl 0 rfl) ?_
  refine lv_ldc2 (v := 9223372036854775807) hx hb hown (hts _ tb_896) dX4_isBelow_1 ?_
  refine lv_lsub hx hb dX4_isBelow_4 ?_
  refine lv_lconst (v := 1) hx hb dX4_isBelow_5 (by decide) ?_
  refine lv_lsub hx hb dX4_isBelow_6 ?_
  refine lv_lload_n hx hb dX4_isBelow_7 rfl (lv_at hl 1 rfl) ?_
  refine lv_ldc2 (v := 9223372036854775807) hx hb hown (hts _ tb_896) dX4_isBelow_8 ?_
  refine lv_lsub hx hb dX4_isBelow_11 ?_
  refine lv_lconst (v := 1) hx hb dX4_isBelow_12 (by decide) ?_
  refine lv_lsub hx hb dX4_isBelow_13 ?_
  refine W.lcmp hx hb dX4_isBelow_14 ?_
  refine lv_if_ge (tgt := 22) hx hb dX4_isBelow_15 (by decide) (fun q => ?_) (fun q => ?_)
  all_goals rw [lg_cmp_ge] at q
  · refine lv_iconst (v := nI 0) hx hb dX4_isBelow_22 (by decide) ?_
    have h : ¬ uN a < uN b := fun h => by have := (l_below a b).mpr h; exact absurd (Int64.not_lt.mpr q) (not_not_intro this)
    exact e_bool hx hb hr hlk hAe hW (by omega) (by omega) (by decide) dX4_isBelow_23 ⟨by rw [decide_eq_false h]; rfl, rfl⟩
  · refine lv_iconst (v := nI 1) hx hb dX4_isBelow_18 (by decide) ?_
    refine lv_goto (tgt := 23) hx hb dX4_isBelow_19 (by decide) ?_
    have h : uN a < uN b := (l_below a b).mp (Int64.not_le.mp q)
    exact e_bool hx hb hr hlk hAe hW (by omega) (by omega) (by decide) dX4_isBelow_23 ⟨by rw [decide_eq_true h]; rfl, rfl⟩
set_option maxHeartbeats 4000000 in
set_option maxRecDepth 100000 in
theorem k_divide (l : Launch) (Z : Zt) (a b : Int64) (lf : Nat) (hB : uN b ≠ 0) (hlf : lf ≤ 1) : MC l yX4_divide cX4_divide 11 (some .long) 1 60 (0) (0) Z ([]) (fun _ => True) [.long a, .long b, .int (nI lf)] (fun v w1 => v = some (.long (if lf = 0 then lN (uN a / uN b) else lN (uN a % uN b))) ∧ w1 = []) := by
  refine mc_of (by decide) (Nat.le_of_ble_eq_true rfl) (fun p e s m below meth c ls A hx hb hr hts hown hlk hml hin hK hG hW hA hAe hro hl R hRf hRc hRs hRl => ?_)
  have hl : lv_has ls 11 [(0, .long a), (2, .long b), (4, .int (nI lf))] := hl
  have hAl := uN_lt a
  have hBl := uN_lt b
  have dRe : ∀ k, dR (uN a) (uN b) k = uN a / 2 ^ k % uN b := fun k => by rw [dR, if_neg hB]
  have loop : ∀ (k : Nat) (H : Heap) (locs : List Loc) (ls : Array Slot), k ≤ 64 → Wd Z A s.heap [] H locs → lv_has ls 11 [(0, .long a), (2, .long b), (4, .int (nI lf)), (5, .long (lN (2 ^ k * (uN a / 2 ^ k / uN b)))), (7, .long (lN (dR (uN a) (uN b) k))), (9, .int (dvi k))] → W p l e R s m ([.long a, .long b, .int (nI lf)] : List Value).toArray below meth c H locs 0 0 (MQ below (QC Z [] s.heap.size (fun v w1 => v = some (.long (if lf = 0 then lN (uN a / uN b) else lN (uN a % uN b))) ∧ w1 = [])) ([.long a, .long b, .int (nI lf)] : List Value).toArray s 0 0 A) (F0 m 10 ls []) := by
    intro k
    induction k with
    | zero =>
      intro H locs ls hk hW hl
      refine lv_iload hx hb dX4_divide_10 (lv_at hl 5 rfl) ?_
      refine lv_if_lt (tgt := 77) hx hb dX4_divide_12 (by decide) (fun _ => ?_) (fun q => absurd dvi_0 q)
      refine lv_iload hx hb dX4_divide_77 (lv_at hl 2 rfl) ?_
      by_cases hl0 : lf = 0
      · refine n_zeq_t (tgt := 87) hx hb (by omega) dX4_divide_79 (by decide) ?_
        refine lv_lload hx hb dX4_divide_87 (lv_at hl 3 rfl) ?_
        exact e_long hx hb hr hlk hAe hW (by omega) (by omega) dX4_divide_89 ⟨by rw [if_pos hl0, Nat.pow_zero, Nat.one_mul, Nat.div_one], rfl⟩
      · refine n_zeq_f (tgt := 87) hx hb (by omega) (by omega) dX4_divide_79 (by decide) ?_
        refine lv_lload hx hb dX4_divide_82 (lv_at hl 4 rfl) ?_
        refine lv_goto (tgt := 89) hx hb dX4_divide_84 (by decide) ?_
        exact e_long hx hb hr hlk hAe hW (by omega) (by omega) dX4_divide_89 ⟨by rw [if_neg hl0, dRe, Nat.pow_zero, Nat.div_one], rfl⟩
    | succ k ih =>
      intro H locs ls hk hW hl
      rw [dvi_s] at hl
      obtain ⟨Rr, hRr⟩ : ∃ r, r = dR (uN a) (uN b) (k + 1) := ⟨_, rfl⟩
      obtain ⟨Qq, hQq⟩ : ∃ r, r = uN a / 2 ^ (k + 1) / uN b := ⟨_, rfl⟩
      obtain ⟨bt, hbt⟩ : ∃ r, r = ((uN a).testBit k).toNat := ⟨_, rfl⟩
      have hbt1 : bt ≤ 1 := by rw [hbt]; cases (uN a).testBit k <;> simp
      have hRB : Rr < uN b := by rw [hRr, dRe]; exact Nat.mod_lt _ (Nat.pos_of_ne_zero hB)
      have hst := dR_step (uN a) (uN b) k
      have hqs := dQ_step (uN a) (uN b) 64 k (by omega)
      rw [dQ, dQ, if_neg hB, if_neg hB] at hqs
      rw [← hRr, ← hbt] at hst hqs
      rw [← hQq] at hqs
      rw [← hRr, ← hQq] at hl
      have hq2 : 2 ^ k * (uN a / 2 ^ k / uN b) = 2 ^ (k + 1) * Qq + (decide (uN b ≤ 2 * Rr + bt)).toNat * 2 ^ k := by
        rw [hqs, Nat.mul_add, Nat.pow_succ, Nat.mul_comm (2 ^ k) (Bool.toNat _), Nat.mul_assoc, Nat.add_comm]
      have hl : lv_has ls 11 [(0, .long a), (2, .long b), (4, .int (nI lf)), (5, .long (lN (2 ^ (k + 1) * Qq))), (7, .long (lN Rr)), (9, .int (nI k))] := hl
      refine lv_iload hx hb dX4_divide_10 (lv_at hl 5 rfl) ?_
      refine n_zlt_f (tgt := 77) hx hb (by omega) dX4_divide_12 (by decide) ?_
      refine lv_lload hx hb dX4_divide_15 (lv_at hl 4 rfl) ?_
      refine lv_lconst (v := 0) hx hb dX4_divide_17 (by decide) ?_
      refine W.lcmp hx hb dX4_divide_18 ?_
      refine lv_if_ge (tgt := 26) hx hb dX4_divide_19 (by decide) (fun q => ?_) (fun q => ?_)
      all_goals rw [lg_cmp_ge] at q
      · have hR63 : Rr < 2 ^ 63 := by
          have h := Int64.not_lt.mpr q
          rw [l_lt0, uN_lN] at h
          omega
        refine lv_iconst (v := nI 0) hx hb dX4_divide_26 (by decide) ?_
        refine lv_istore (lv' := [(10, .int (nI 0)), (0, .long a), (2, .long b), (4, .int (nI lf)), (5, .long (lN (2 ^ (k + 1) * Qq))), (7, .long (lN Rr)), (9, .int (nI k))]) hx hb dX4_divide_27 hl (by decide) rfl (fun ls hl => ?_)
        refine lv_lload hx hb dX4_divide_29 (lv_at hl 5 rfl) ?_
        refine lv_iconst (v := nI 1) hx hb dX4_divide_31 (by decide) ?_
        refine lv_lshl (v := ((lN Rr) <<< ((nI 1).toInt64 &&& 63))) hx hb dX4_divide_32 rfl ?_
        refine lv_lload_n hx hb dX4_divide_33 rfl (lv_at hl 1 rfl) ?_
        refine lv_iload hx hb dX4_divide_34 (lv_at hl 6 rfl) ?_
        refine lv_lshr (v := (a >>> ((nI k).toInt64 &&& 63))) hx hb dX4_divide_36 rfl ?_
        refine lv_lconst (v := 1) hx hb dX4_divide_37 (by decide) ?_
        refine lv_land hx hb dX4_divide_38 ?_
        refine lv_lor hx hb dX4_divide_39 ?_
        rw [rest_step a (by omega), ← hbt]
        refine lv_lstore (lv' := [(7, .long (lN (2 * Rr + bt))), (10, .int (nI 0)), (0, .long a), (2, .long b), (4, .int (nI lf)), (5, .long (lN (2 ^ (k + 1) * Qq))), (9, .int (nI k))]) hx hb dX4_divide_40 hl (by decide) rfl (fun ls hl => ?_)
        refine lv_iload hx hb dX4_divide_42 (lv_at hl 1 rfl) ?_
        refine n_zne_f (tgt := 56) hx hb rfl dX4_divide_44 (by decide) ?_
        refine lv_lload hx hb dX4_divide_47 (lv_at hl 0 rfl) ?_
        refine lv_lload_n hx hb dX4_divide_49 rfl (lv_at hl 3 rfl) ?_
        refine c_stat (As := [.long (lN (2 * Rr + bt)), .long b]) (rest := []) (wc := []) (wr := []) hx hb hml hown hts hK hG rfl hA hl (k_isBelow l Z (lN (2 * Rr + bt)) b) hW trivial tb_893 tb_894 tb_7 tb_895 (nA := 2) (by decide +kernel) rfl ⟨by omega, by omega⟩ ⟨by omega, by omega⟩ rfl (Nat.le_of_ble_eq_true rfl) dX4_divide_50 (fun v w1 H1 L1 hp hW hzz hkk hdd => ?_)
        obtain ⟨rfl, rfl⟩ := hp
        clear hzz hkk hdd
        generalize H1 = H at hW  ⊢
        generalize L1 = locs at hW ⊢
        have hW : Wd Z A s.heap ([]) _ _ := hW
        refine W.eq (g2 := F0 m 53 ls [.int (nI (decide (uN (lN (2 * Rr + bt)) < uN b)).toNat)]) rfl ?_
        rw [uN_lN' (by omega)]
        by_cases hge : uN b ≤ 2 * Rr + bt
        · rw [decide_eq_false (by omega : ¬ 2 * Rr + bt < uN b), show (false : Bool).toNat = 0 from rfl]
          refine n_zne_f (tgt := 71) hx hb rfl dX4_divide_53 (by decide) ?_
          refine lv_lload hx hb dX4_divide_56 (lv_at hl 0 rfl) ?_
          refine lv_lload_n hx hb dX4_divide_58 rfl (lv_at hl 3 rfl) ?_
          refine lv_lsub hx hb dX4_divide_59 ?_
          have esub : lN (2 * Rr + bt) - b = lN (2 * Rr + bt - uN b) := by
            apply uN_inj
            rw [uN_sub, uN_lN, uN_lN]; omega
          rw [esub]
          refine lv_lstore (lv' := [(7, .long (lN (2 * Rr + bt - uN b))), (10, .int (nI 0)), (0, .long a), (2, .long b), (4, .int (nI lf)), (5, .long (lN (2 ^ (k + 1) * Qq))), (9, .int (nI k))]) hx hb dX4_divide_60 hl (by decide) rfl (fun ls hl => ?_)
          refine lv_lload hx hb dX4_divide_62 (lv_at hl 5 rfl) ?_
          refine lv_lconst (v := 1) hx hb dX4_divide_64 (by decide) ?_
          refine lv_iload hx hb dX4_divide_65 (lv_at hl 6 rfl) ?_
          refine lv_lshl (v := (1 <<< ((nI k).toInt64 &&& 63))) hx hb dX4_divide_67 rfl ?_
          refine lv_lor hx hb dX4_divide_68 ?_
          rw [many_step (by omega)]
          refine lv_lstore (lv' := [(5, .long (lN (2 ^ (k + 1) * Qq + 2 ^ k))), (7, .long (lN (2 * Rr + bt - uN b))), (10, .int (nI 0)), (0, .long a), (2, .long b), (4, .int (nI lf)), (9, .int (nI k))]) hx hb dX4_divide_69 hl (by decide) rfl (fun ls hl => ?_)
          refine lv_iinc (v := dvi k) (lv' := [(9, .int (dvi k)), (5, .long (lN (2 ^ (k + 1) * Qq + 2 ^ k))), (7, .long (lN (2 * Rr + bt - uN b))), (10, .int (nI 0)), (0, .long a), (2, .long b), (4, .int (nI lf))]) hx hb dX4_divide_71 hl (k := 6) rfl rfl (by decide) rfl (fun ls hl => ?_)
          refine lv_goto (tgt := 10) hx hb dX4_divide_74 (by decide) ?_
          have eR : 2 * Rr + bt - uN b = dR (uN a) (uN b) k := by rw [hst, if_pos hge]
          have eQ : 2 ^ (k + 1) * Qq + 2 ^ k = 2 ^ k * (uN a / 2 ^ k / uN b) := by rw [hq2, decide_eq_true hge, Bool.toNat_true, Nat.one_mul]
          rw [eR, eQ] at hl
          exact ih _ _ ls (by omega) hW (lv_sub hl [4, 5, 6, 1, 2, 0] rfl)
        · rw [decide_eq_true (by omega : 2 * Rr + bt < uN b), show (true : Bool).toNat = 1 from rfl]
          refine n_zne_t (tgt := 71) hx hb (by decide) (by omega) dX4_divide_53 (by decide) ?_
          refine lv_iinc (v := dvi k) (lv' := [(9, .int (dvi k)), (7, .long (lN (2 * Rr + bt))), (10, .int (nI 0)), (0, .long a), (2, .long b), (4, .int (nI lf)), (5, .long (lN (2 ^ (k + 1) * Qq)))]) hx hb dX4_divide_71 hl (k := 6) rfl rfl (by decide) rfl (fun ls hl => ?_)
          refine lv_goto (tgt := 10) hx hb dX4_divide_74 (by decide) ?_
          have eR : 2 * Rr + bt = dR (uN a) (uN b) k := by rw [hst, if_neg hge]
          have eQ : 2 ^ (k + 1) * Qq = 2 ^ k * (uN a / 2 ^ k / uN b) := by
            rw [decide_eq_false hge, Bool.toNat_false, Nat.zero_mul, Nat.add_zero] at hq2
            exact hq2.symm
          rw [eR, eQ] at hl
          exact ih _ _ ls (by omega) hW (lv_sub hl [3, 4, 5, 6, 1, 0] rfl)
      · have hR63 : 2 ^ 63 ≤ Rr := by
          have h := Int64.not_le.mp q
          rw [l_lt0, uN_lN] at h
          omega
        have hge : uN b ≤ 2 * Rr + bt := by omega
        refine lv_iconst (v := nI 1) hx hb dX4_divide_22 (by decide) ?_
        refine lv_goto (tgt := 27) hx hb dX4_divide_23 (by decide) ?_
        refine lv_istore (lv' := [(10, .int (nI 1)), (0, .long a), (2, .long b), (4, .int (nI lf)), (5, .long (lN (2 ^ (k + 1) * Qq))), (7, .long (lN Rr)), (9, .int (nI k))]) hx hb dX4_divide_27 hl (by decide) rfl (fun ls hl => ?_)
        refine lv_lload hx hb dX4_divide_29 (lv_at hl 5 rfl) ?_
        refine lv_iconst (v := nI 1) hx hb dX4_divide_31 (by decide) ?_
        refine lv_lshl (v := ((lN Rr) <<< ((nI 1).toInt64 &&& 63))) hx hb dX4_divide_32 rfl ?_
        refine lv_lload_n hx hb dX4_divide_33 rfl (lv_at hl 1 rfl) ?_
        refine lv_iload hx hb dX4_divide_34 (lv_at hl 6 rfl) ?_
        refine lv_lshr (v := (a >>> ((nI k).toInt64 &&& 63))) hx hb dX4_divide_36 rfl ?_
        refine lv_lconst (v := 1) hx hb dX4_divide_37 (by decide) ?_
        refine lv_land hx hb dX4_divide_38 ?_
        refine lv_lor hx hb dX4_divide_39 ?_
        rw [rest_step a (by omega), ← hbt]
        refine lv_lstore (lv' := [(7, .long (lN (2 * Rr + bt))), (10, .int (nI 1)), (0, .long a), (2, .long b), (4, .int (nI lf)), (5, .long (lN (2 ^ (k + 1) * Qq))), (9, .int (nI k))]) hx hb dX4_divide_40 hl (by decide) rfl (fun ls hl => ?_)
        refine lv_iload hx hb dX4_divide_42 (lv_at hl 1 rfl) ?_
        refine n_zne_t (tgt := 56) hx hb (by decide) (by omega) dX4_divide_44 (by decide) ?_
        refine lv_lload hx hb dX4_divide_56 (lv_at hl 0 rfl) ?_
        refine lv_lload_n hx hb dX4_divide_58 rfl (lv_at hl 3 rfl) ?_
        refine lv_lsub hx hb dX4_divide_59 ?_
        have esub : lN (2 * Rr + bt) - b = lN (2 * Rr + bt - uN b) := by
          apply uN_inj
          rw [uN_sub, uN_lN, uN_lN]; omega
        rw [esub]
        refine lv_lstore (lv' := [(7, .long (lN (2 * Rr + bt - uN b))), (10, .int (nI 1)), (0, .long a), (2, .long b), (4, .int (nI lf)), (5, .long (lN (2 ^ (k + 1) * Qq))), (9, .int (nI k))]) hx hb dX4_divide_60 hl (by decide) rfl (fun ls hl => ?_)
        refine lv_lload hx hb dX4_divide_62 (lv_at hl 5 rfl) ?_
        refine lv_lconst (v := 1) hx hb dX4_divide_64 (by decide) ?_
        refine lv_iload hx hb dX4_divide_65 (lv_at hl 6 rfl) ?_
        refine lv_lshl (v := (1 <<< ((nI k).toInt64 &&& 63))) hx hb dX4_divide_67 rfl ?_
        refine lv_lor hx hb dX4_divide_68 ?_
        rw [many_step (by omega)]
        refine lv_lstore (lv' := [(5, .long (lN (2 ^ (k + 1) * Qq + 2 ^ k))), (7, .long (lN (2 * Rr + bt - uN b))), (10, .int (nI 1)), (0, .long a), (2, .long b), (4, .int (nI lf)), (9, .int (nI k))]) hx hb dX4_divide_69 hl (by decide) rfl (fun ls hl => ?_)
        refine lv_iinc (v := dvi k) (lv' := [(9, .int (dvi k)), (5, .long (lN (2 ^ (k + 1) * Qq + 2 ^ k))), (7, .long (lN (2 * Rr + bt - uN b))), (10, .int (nI 1)), (0, .long a), (2, .long b), (4, .int (nI lf))]) hx hb dX4_divide_71 hl (k := 6) rfl rfl (by decide) rfl (fun ls hl => ?_)
        refine lv_goto (tgt := 10) hx hb dX4_divide_74 (by decide) ?_
        have eR : 2 * Rr + bt - uN b = dR (uN a) (uN b) k := by rw [hst, if_pos hge]
        have eQ : 2 ^ (k + 1) * Qq + 2 ^ k = 2 ^ k * (uN a / 2 ^ k / uN b) := by rw [hq2, decide_eq_true hge, Bool.toNat_true, Nat.one_mul]
        rw [eR, eQ] at hl
        exact ih _ _ ls (by omega) hW (lv_sub hl [4, 5, 6, 1, 2, 0] rfl)
  refine lv_lconst (v := 0) hx hb dX4_divide_0 (by decide) ?_
  refine lv_lstore (lv' := [(5, .long 0), (0, .long a), (2, .long b), (4, .int (nI lf))]) hx hb dX4_divide_1 hl (by decide) rfl (fun ls hl => ?_)
  refine lv_lconst (v := 0) hx hb dX4_divide_3 (by decide) ?_
  refine lv_lstore (lv' := [(7, .long 0), (5, .long 0), (0, .long a), (2, .long b), (4, .int (nI lf))]) hx hb dX4_divide_4 hl (by decide) rfl (fun ls hl => ?_)
  refine lv_bipush (v := nI 63) hx hb dX4_divide_6 (by decide) ?_
  refine lv_istore (lv' := [(9, .int (nI 63)), (7, .long 0), (5, .long 0), (0, .long a), (2, .long b), (4, .int (nI lf))]) hx hb dX4_divide_8 hl (by decide) rfl (fun ls hl => ?_)
  have e63 : nI 63 = dvi 64 := (dvi_s 63).symm
  have eR : (0 : Int64) = lN (dR (uN a) (uN b) 64) := by rw [dR_top hAl]; rfl
  have eQ : (0 : Int64) = lN (2 ^ 64 * (uN a / 2 ^ 64 / uN b)) := by rw [Nat.div_eq_of_lt hAl, Nat.zero_div, Nat.mul_zero]; rfl
  have hl2 : lv_has ls 11 [(0, .long a), (2, .long b), (4, .int (nI lf)), (5, .long (lN (2 ^ 64 * (uN a / 2 ^ 64 / uN b)))), (7, .long (lN (dR (uN a) (uN b) 64))), (9, .int (dvi 64))] := by
    rw [← eQ, ← eR, ← e63]
    exact (lv_sub hl [3, 4, 5, 2, 1, 0] rfl)
  exact loop 64 _ _ ls (Nat.le_refl _) hW hl2
