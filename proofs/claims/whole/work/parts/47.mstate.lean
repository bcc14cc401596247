/-! the model's object -/
abbrev MA : Type := Nat × Nat × Nat × Nat × Nat × Nat
abbrev mw (Z : Zt) (hm : Nat) (ad : MA) (cd n wg : Nat) (K F S T D V : Nat → Nat) : va_W := [eo hm 4 [.int (nI cd), .int (nI n), .int (nI wg), .ref ad.1, .ref ad.2.1, .ref ad.2.2.1, .ref ad.2.2.2.1, .ref ad.2.2.2.2.1, .ref ad.2.2.2.2.2], ey Z ad.1 4000 K, ea Z ad.2.1 4000 F, ea Z ad.2.2.1 4000 S, ea Z ad.2.2.2.1 4000 T, ea Z ad.2.2.2.2.1 4000 D, el Z ad.2.2.2.2.2 4000 V]
/-- what a vector of kind k is worth: A, B, C the values of what it is made of, w the first's width, wv its own, s its second number, own its own value -/
def NR (k A B C w wv s own : Nat) : Nat :=
  if k < 2 then own
  else if k < 20 then V1 A w (k - 10)
  else if k < 40 then N2 (k - 20) A B w
  else if k < 50 then (NC (k - 40) A B w).toNat
  else if k = 50 then (if C = 1 then A else B)
  else if k = 51 then A * 2 ^ (wv - w) + B
  else if k = 52 then A / 2 ^ s % 2 ^ wv
  else if k = 53 then A
  else bn (fun j => if j < w then A.testBit j else A.testBit (w - 1)) wv
abbrev NV (K F S T D V : Nat → Nat) (v : Nat) : Nat := NR (K v) (V (F v)) (V (S v)) (V (T v)) (D (F v)) (D v) (S v) (V v)
def wfv (K F S T D : Nat → Nat) (v : Nat) : Prop :=
  1 ≤ D v ∧ D v ≤ 64 ∧ (
    (K v ≤ 1 ∧ F v = 0) ∨
    (10 ≤ K v ∧ K v ≤ 11 ∧ F v < v ∧ D v = D (F v)) ∨
    (20 ≤ K v ∧ K v ≤ 32 ∧ F v < v ∧ S v < v ∧ D (S v) = D (F v) ∧ D v = D (F v)) ∨
    (40 ≤ K v ∧ K v ≤ 44 ∧ F v < v ∧ S v < v ∧ D (S v) = D (F v) ∧ D v = 1) ∨
    (K v = 50 ∧ F v < v ∧ S v < v ∧ T v < v ∧ D (S v) = D (F v) ∧ D v = D (F v) ∧ D (T v) = 1) ∨
    (K v = 51 ∧ F v < v ∧ S v < v ∧ D v = D (F v) + D (S v)) ∨
    (K v = 52 ∧ F v < v ∧ S v + D v ≤ D (F v)) ∨
    (53 ≤ K v ∧ K v ≤ 54 ∧ F v < v ∧ D (F v) ≤ D v))
/-- only what lies below counts -/
theorem NV_congr {K F S T D V U : Nat → Nat} {v : Nat} (h : wfv K F S T D v) (hv : K v ≤ 1 → V v = U v) (hlt : ∀ i, i < v → V i = U i) : NV K F S T D V v = NV K F S T D U v := by
  obtain ⟨-, -, h | ⟨h1, h2, h3, -⟩ | ⟨h1, h2, h3, h4, -, -⟩ | ⟨h1, h2, h3, h4, -, -⟩ | ⟨h1, h3, h4, h5, -⟩ | ⟨h1, h3, h4, -⟩ | ⟨h1, h3, -⟩ | ⟨h1, h2, h3, -⟩⟩ := h
  · unfold NV NR
    rw [if_pos (by omega), if_pos (by omega), hv h.1]
  · unfold NV NR
    rw [if_neg (by omega), if_pos (by omega), if_neg (by omega), if_pos (by omega), hlt _ h3]
  · unfold NV
    rw [hlt _ h3, hlt _ h4]
    unfold NR
    rw [if_neg (by omega), if_neg (by omega), if_pos (by omega), if_neg (by omega), if_neg (by omega), if_pos (by omega)]
  · unfold NV
    rw [hlt _ h3, hlt _ h4]
    unfold NR
    rw [if_neg (by omega), if_neg (by omega), if_neg (by omega), if_pos (by omega), if_neg (by omega), if_neg (by omega), if_neg (by omega), if_pos (by omega)]
  · unfold NV
    rw [hlt _ h3, hlt _ h4, hlt _ h5]
    unfold NR
    rw [h1]; rfl
  · unfold NV
    rw [hlt _ h3, hlt _ h4]
    unfold NR
    rw [h1]; rfl
  · unfold NV
    rw [hlt _ h3]
    unfold NR
    rw [h1]; rfl
  · unfold NV
    rw [hlt _ h3]
    unfold NR
    rcases (show K v = 53 ∨ K v = 54 by omega) with e | e
    · rw [e]; rfl
    · rw [e]; rfl
/-! what the kinds' ways give -/
theorem not_val {A w : Nat} (hw : w ≤ 64) (hA : A < 2 ^ w) : uN (lN A ^^^ (-1)) % 2 ^ w = 2 ^ w - 1 - A := by
  refine (bit_eq (β := fun j => !A.testBit j) (fun j hj => ?_)).trans ?_
  · rw [uN_xor, uN_le hw hA, Nat.testBit_xor, show uN (-1) = 2 ^ 64 - 1 from rfl, Nat.testBit_two_pow_sub_one, decide_eq_true (by omega), Bool.xor_true]
  · have h := bn_not (fun j => A.testBit j) w
    rw [bn_of, Nat.mod_eq_of_lt hA] at h
    have := h
    omega
theorem cat_val {A B w z : Nat} (hw1 : 1 ≤ w) (hwz : w + z ≤ 64) (hA : A < 2 ^ w) (hB : B < 2 ^ z) : uN (lN A <<< ((nI z).toInt64 &&& 63) ||| lN B) % 2 ^ (w + z) = A * 2 ^ z + B := by
  have h1 : A * 2 ^ z + B < 2 ^ (w + z) := by
    rw [Nat.pow_add]
    calc A * 2 ^ z + B < A * 2 ^ z + 2 ^ z := by omega
      _ = (A + 1) * 2 ^ z := by rw [Nat.add_mul, Nat.one_mul]
      _ ≤ 2 ^ w * 2 ^ z := Nat.mul_le_mul_right _ hA
  have h2 := two_le hwz
  have e : A * 2 ^ z % 2 ^ 64 = 2 ^ z * A := by rw [Nat.mod_eq_of_lt (by omega), Nat.mul_comm]
  rw [uN_or, uN_shl _ (by omega), uN_le (w := w) (by omega) hA, uN_le (w := z) (by omega) hB, e, ← Nat.two_pow_add_eq_or_of_lt hB, Nat.mul_comm, Nat.mod_eq_of_lt h1]
theorem ext_val {r : Int64} {A w wv : Nat} (hw1 : 1 ≤ w) (hwv : w ≤ wv) (hv : wv ≤ 64) (hA : A < 2 ^ w) (hr : r.toInt = sI A w) : uN r % 2 ^ wv = bn (fun j => if j < w then A.testBit j else A.testBit (w - 1)) wv := by
  refine bit_eq (fun j hj => ?_)
  rw [sx_of hw1 (by omega) hA hr, sx_bit (by omega) hA, decide_eq_true (by omega), Bool.true_and]
