/-! the model's numbers -/
def sx (A w : Nat) : Nat := if A.testBit (w - 1) then A + (2 ^ 64 - 2 ^ w) else A
theorem sx_of {r : Int64} {A w : Nat} (hw1 : 1 ≤ w) (hw : w ≤ 64) (hA : A < 2 ^ w) (hr : r.toInt = sI A w) : uN r = sx A w := by
  have h2 := two_le hw
  have hr2 := uN_lt r
  have hp : 2 ^ w = 2 * 2 ^ (w - 1) := by rw [← Nat.pow_succ']; congr 1; omega
  have e2 : ((2 : Int) ^ w) = ((2 ^ w : Nat) : Int) := by rw [Int.natCast_pow]; rfl
  have e3 : ((2 : Int) ^ 64) = ((2 ^ 64 : Nat) : Int) := rfl
  rw [uN_toInt, sI, e2, e3] at hr
  rw [sx, top_lt hw1 hA]
  by_cases h : 2 ^ (w - 1) ≤ A
  · rw [decide_eq_true h, if_pos rfl]
    rw [if_neg (by omega)] at hr
    split at hr <;> omega
  · rw [decide_eq_false h, if_neg (by decide)]
    rw [if_pos (by omega)] at hr
    split at hr <;> omega
theorem mul_q {w : Nat} (hw : w ≤ 64) : ∃ q, 2 ^ 64 = 2 ^ w * q ∧ 1 ≤ q := ⟨2 ^ (64 - w), by rw [two_split hw], Nat.two_pow_pos _⟩
theorem sx_mod {A w : Nat} (hw : w ≤ 64) (hA : A < 2 ^ w) : sx A w % 2 ^ w = A := by
  rw [sx]
  split
  · obtain ⟨q, hq, hq1⟩ := mul_q hw
    obtain ⟨t, rfl⟩ : ∃ t, q = t + 1 := ⟨q - 1, by omega⟩
    rw [hq, Nat.mul_add, Nat.mul_one, Nat.add_sub_cancel, Nat.add_mul_mod_self_left, Nat.mod_eq_of_lt hA]
  · exact Nat.mod_eq_of_lt hA
theorem sx_bit {A w : Nat} (hw : w ≤ 64) (hA : A < 2 ^ w) (j : Nat) : (sx A w).testBit j = if j < w then A.testBit j else (decide (j < 64) && A.testBit (w - 1)) := by
  rw [sx]
  cases hs : A.testBit (w - 1)
  · rw [if_neg (by decide), Bool.and_false]
    split
    · rfl
    · exact Nat.testBit_lt_two_pow (Nat.lt_of_lt_of_le hA (Nat.pow_le_pow_right (by decide) (by omega)))
  · rw [if_pos rfl, Bool.and_true]
    have e : A + (2 ^ 64 - 2 ^ w) = 2 ^ w * (2 ^ (64 - w) - 1) + A := by
      rw [Nat.mul_sub_one, two_split hw]; omega
    rw [e, Nat.testBit_two_pow_mul_add _ hA]
    split
    · rfl
    · rw [Nat.testBit_two_pow_sub_one]
      apply Bool.eq_iff_iff.mpr
      rw [decide_eq_true_iff, decide_eq_true_iff]
      omega
theorem neg_mod {D w : Nat} (hw : w ≤ 64) (hD : D ≤ 2 ^ w) : (2 ^ 64 - D) % 2 ^ w = (2 ^ w - D) % 2 ^ w := by
  obtain ⟨q, hq, hq1⟩ := mul_q hw
  obtain ⟨t, rfl⟩ : ∃ t, q = t + 1 := ⟨q - 1, by omega⟩
  rw [hq, Nat.mul_add, Nat.mul_one, show 2 ^ w * t + 2 ^ w - D = (2 ^ w - D) + 2 ^ w * t by omega, Nat.add_mul_mod_self_left]
theorem neg_uN {D w : Nat} (hw : w ≤ 64) (hD : D < 2 ^ w) : uN (-(lN D)) % 2 ^ w = ngN true D w := by
  have h2 := two_le hw
  rw [uN_neg, uN_lN' (by omega), mod_mod_two hw, neg_mod hw (by omega), ngN, if_pos rfl]
theorem pos_uN {D w : Nat} (hw : w ≤ 64) (hD : D < 2 ^ w) : uN (lN D) % 2 ^ w = D := by
  rw [uN_lN, mod_mod_two hw, Nat.mod_eq_of_lt hD]
theorem mone_uN {w : Nat} (hw : w ≤ 64) : uN (-1) % 2 ^ w = 2 ^ w - 1 := by
  have h0 := Nat.two_pow_pos w
  have h2 : 1 ≤ w → 1 < 2 ^ w := fun h => Nat.one_lt_two_pow (by omega)
  have e : uN (-1) = 2 ^ 64 - 1 := rfl
  rw [e, neg_mod hw h0]
  exact Nat.mod_eq_of_lt (by omega)
theorem mag_n {r : Int64} {A w : Nat} (hw1 : 1 ≤ w) (hw : w ≤ 64) (hA : A < 2 ^ w) (hr : uN r = sx A w) (hs : A.testBit (w - 1) = true) : -r = lN (ngN true A w) := by
  have h2 := two_le hw
  have hp : 2 ^ w = 2 * 2 ^ (w - 1) := by rw [← Nat.pow_succ']; congr 1; omega
  have hA1 := hs
  rw [top_lt hw1 hA, decide_eq_true_iff] at hA1
  have h0 := Nat.two_pow_pos (w - 1)
  apply uN_inj
  rw [uN_neg, hr, sx, hs, if_pos rfl, ngN, if_pos rfl, uN_lN, Nat.mod_eq_of_lt (by omega : 2 ^ w - A < 2 ^ w)]
  congr 1
  omega
theorem mag_p {r : Int64} {A w : Nat} (hr : uN r = sx A w) (hs : A.testBit (w - 1) = false) : r = lN (ngN false A w) := by
  rw [sx, hs, if_neg (by decide)] at hr
  rw [ngN, if_neg (by decide), ← hr, lN_uN]
theorem ngN_lt {s : Bool} {A w : Nat} (hA : A < 2 ^ w) : ngN s A w < 2 ^ w := by
  rw [ngN]
  split
  · exact Nat.mod_lt _ (Nat.two_pow_pos w)
  · exact hA
theorem ngN_ng {s : Bool} {A w : Nat} (hA : A < 2 ^ w) : ngN s (ngN s A w) w = A := by
  rw [ngN, ngN]
  cases s
  · rfl
  · rw [if_pos rfl, if_pos rfl]
    by_cases h : A = 0
    · subst h
      rw [Nat.sub_zero, Nat.mod_self, Nat.sub_zero, Nat.mod_self]
    · rw [Nat.mod_eq_of_lt (by omega : 2 ^ w - A < 2 ^ w), show 2 ^ w - (2 ^ w - A) = A by omega, Nat.mod_eq_of_lt hA]
theorem ngN_0 {s : Bool} {A w : Nat} (hA : A < 2 ^ w) : ngN s A w = 0 ↔ A = 0 := by
  constructor
  · intro h
    have := ngN_ng (s := s) hA
    rw [h, ngN] at this
    cases s
    · exact this.symm
    · rw [if_pos rfl, Nat.sub_zero, Nat.mod_self] at this
      exact this.symm
  · intro h
    subst h
    rw [ngN]
    cases s
    · rfl
    · rw [if_pos rfl, Nat.sub_zero, Nat.mod_self]
theorem uN_shr_bit (r : Int64) {i : Nat} (hi : i < 64) (j : Nat) : (uN (r >>> ((nI i).toInt64 &&& 63))).testBit j = (decide (j < 64) && if i + j < 64 then (uN r).testBit (i + j) else (uN r).testBit 63) := by
  show (r >>> ((nI i).toInt64 &&& 63)).toBitVec.getLsbD j = _
  rw [Int64.toBitVec_shiftRight, BitVec.sshiftRight_eq', sh_amt i hi, BitVec.getLsbD_sshiftRight]
  congr 1
  apply Bool.eq_iff_iff.mpr
  simp
theorem bit_eq {a w : Nat} {β : Nat → Bool} (h : ∀ j, j < w → a.testBit j = β j) : a % 2 ^ w = bn β w := by
  rw [← bn_of]
  exact bn_congr h
theorem sh10 {A B w : Nat} (hw : w ≤ 64) (hA : A < 2 ^ w) (hB : B < w) : uN (lN A <<< ((nI B).toInt64 &&& 63)) % 2 ^ w = N2 10 A B w := by
  have h2 := two_le hw
  rw [uN_shl _ (by omega), uN_lN' (by omega), mod_mod_two hw]
  exact bit_eq (fun j hj => by rw [Nat.testBit_mul_two_pow])
theorem sh11 {A B w : Nat} (hw : w ≤ 64) (hA : A < 2 ^ w) (hB : B < w) : uN ((lN A).toUInt64 >>> ((nI B).toInt64.toUInt64 &&& Int64.toUInt64 63)).toInt64 % 2 ^ w = N2 11 A B w := by
  have h2 := two_le hw
  rw [uN_ushr _ (by omega), uN_lN' (by omega)]
  refine bit_eq (fun j hj => ?_)
  rw [Nat.testBit_div_two_pow]
  by_cases h : j + B < w
  · rw [decide_eq_true h, Bool.true_and]
  · rw [decide_eq_false h, Bool.false_and]
    exact Nat.testBit_lt_two_pow (Nat.lt_of_lt_of_le hA (Nat.pow_le_pow_right (by decide) (by omega)))
theorem sh12 {r : Int64} {A B w : Nat} (hw1 : 1 ≤ w) (hw : w ≤ 64) (hA : A < 2 ^ w) (hr : uN r = sx A w) (hB : B < w) : uN (r >>> ((nI B).toInt64 &&& 63)) % 2 ^ w = N2 12 A B w := by
  refine bit_eq (fun j hj => ?_)
  rw [uN_shr_bit r (by omega), hr, sx_bit hw hA, sx_bit hw hA, decide_eq_true (by omega), Bool.true_and]
  by_cases h : j + B < w
  · rw [if_pos (by omega), if_pos (by omega), if_pos h, Nat.add_comm]
  · rw [if_neg h]
    by_cases h3 : B + j < 64
    · rw [if_pos h3, if_neg (by omega), decide_eq_true h3, Bool.true_and]
    · rw [if_neg h3]
      by_cases h4 : 63 < w
      · rw [if_pos h4, show w - 1 = 63 by omega]
      · rw [if_neg h4]; rfl
theorem sh_far {A B w : Nat} (hB : w ≤ B) : N2 10 A B w = 0 ∧ N2 11 A B w = 0 ∧ N2 12 A B w = if A.testBit (w - 1) then 2 ^ w - 1 else 0 := by
  refine ⟨?_, ?_, ?_⟩
  · rw [← bn_zero w]
    exact bn_congr (fun j hj => by rw [decide_eq_false (by omega), Bool.false_and])
  · rw [← bn_zero w]
    exact bn_congr (fun j hj => by rw [decide_eq_false (by omega), Bool.false_and])
  · have e : N2 12 A B w = bn (fun _ => A.testBit (w - 1)) w := bn_congr (fun j hj => by rw [if_neg (by omega)])
    rw [e]
    cases A.testBit (w - 1)
    · rw [bn_zero]; rfl
    · have := bn_ones w
      rw [if_pos rfl]; omega
theorem l2i_val : ∀ B, B < 64 → (lN B).toInt32 = nI B := by decide +kernel
theorem i2l_val : ∀ w, w < 65 → (nI w).toInt64 = lN w := by decide +kernel
