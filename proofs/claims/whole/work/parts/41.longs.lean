/-! longs by their numbers -/
def uN (r : Int64) : Nat := r.toUInt64.toNat
theorem uN_lt (r : Int64) : uN r < 2 ^ 64 := r.toUInt64.toNat_lt
theorem uN_lN (a : Nat) : uN (lN a) = a % 2 ^ 64 := rfl
theorem uN_lN' {a : Nat} (h : a < 2 ^ 64) : uN (lN a) = a := by rw [uN_lN, Nat.mod_eq_of_lt h]
theorem uN_inj {r s : Int64} (h : uN r = uN s) : r = s := by
  apply Int64.toBitVec_inj.mp
  exact BitVec.eq_of_toNat_eq h
theorem lN_uN (r : Int64) : lN (uN r) = r := uN_inj (by rw [uN_lN' (uN_lt r)])
theorem lN_mod (a : Nat) : lN (a % 2 ^ 64) = lN a := uN_inj (by rw [uN_lN, uN_lN, Nat.mod_mod])
theorem uN_toInt (r : Int64) : r.toInt = if 2 * uN r < 2 ^ 64 then (uN r : Int) else (uN r : Int) - 2 ^ 64 := BitVec.toInt_eq_toNat_cond r.toBitVec
theorem uN_add (r s : Int64) : uN (r + s) = (uN r + uN s) % 2 ^ 64 := BitVec.toNat_add r.toBitVec s.toBitVec
theorem uN_sub (r s : Int64) : uN (r - s) = (2 ^ 64 - uN s + uN r) % 2 ^ 64 := BitVec.toNat_sub r.toBitVec s.toBitVec
theorem uN_mul (r s : Int64) : uN (r * s) = (uN r * uN s) % 2 ^ 64 := BitVec.toNat_mul r.toBitVec s.toBitVec
theorem uN_neg (r : Int64) : uN (-r) = (2 ^ 64 - uN r) % 2 ^ 64 := BitVec.toNat_neg r.toBitVec
theorem uN_and (r s : Int64) : uN (r &&& s) = uN r &&& uN s := BitVec.toNat_and r.toBitVec s.toBitVec
theorem uN_or (r s : Int64) : uN (r ||| s) = uN r ||| uN s := BitVec.toNat_or r.toBitVec s.toBitVec
theorem uN_xor (r s : Int64) : uN (r ^^^ s) = uN r ^^^ uN s := BitVec.toNat_xor r.toBitVec s.toBitVec
theorem l_lt0 (r : Int64) : r < 0 ↔ 2 ^ 63 ≤ uN r := by
  have h := uN_lt r
  rw [Int64.lt_iff_toInt_lt, uN_toInt, show (0 : Int64).toInt = 0 from rfl]
  split <;> omega
theorem l_lt (r s : Int64) : r < s ↔ r.toInt < s.toInt := Int64.lt_iff_toInt_lt
/-- unsigned, by way of the signs -/
theorem l_below (r s : Int64) : (r - 9223372036854775807 - 1 < s - 9223372036854775807 - 1) ↔ uN r < uN s := by
  have h1 := uN_lt r
  have h2 := uN_lt s
  have e : ∀ t : Int64, uN t < 2 ^ 64 → (t - 9223372036854775807 - 1).toInt = (uN t : Int) - 2 ^ 63 := by
    intro t ht
    rw [uN_toInt, uN_sub, uN_sub, show uN 9223372036854775807 = 9223372036854775807 from rfl, show uN 1 = 1 from rfl]
    split <;> omega
  rw [l_lt, e r h1, e s h2]
  omega
theorem sh_amt : ∀ i, i < 64 → (((nI i).toInt64 &&& 63).toBitVec.smod 64).toNat = i := by decide +kernel
theorem uN_shl (r : Int64) {i : Nat} (hi : i < 64) : uN (r <<< ((nI i).toInt64 &&& 63)) = (uN r * 2 ^ i) % 2 ^ 64 := by
  show (r <<< ((nI i).toInt64 &&& 63)).toBitVec.toNat = _
  rw [Int64.toBitVec_shiftLeft, BitVec.shiftLeft_eq', sh_amt i hi, BitVec.toNat_shiftLeft, Nat.shiftLeft_eq]
  rfl
theorem toInt_shr (r : Int64) {i : Nat} (hi : i < 64) : (r >>> ((nI i).toInt64 &&& 63)).toInt = r.toInt / 2 ^ i := by
  show (r >>> ((nI i).toInt64 &&& 63)).toBitVec.toInt = _
  rw [Int64.toBitVec_shiftRight, BitVec.sshiftRight_eq', sh_amt i hi, BitVec.toInt_sshiftRight, Int.shiftRight_eq_div_pow]
  rfl
theorem uN_ushr (r : Int64) {i : Nat} (hi : i < 64) : uN (r.toUInt64 >>> ((nI i).toInt64.toUInt64 &&& Int64.toUInt64 63)).toInt64 = uN r / 2 ^ i := by
  have h1 : ((nI i).toInt64.toUInt64 &&& Int64.toUInt64 63) = UInt64.ofNat i := by
    revert i; decide
  rw [h1]
  show (r.toUInt64 >>> UInt64.ofNat i).toNat = _
  rw [UInt64.toNat_shiftRight, UInt64.toNat_ofNat', Nat.mod_eq_of_lt (show i % 2 ^ 64 < 64 by omega), Nat.mod_eq_of_lt (show i < 2 ^ 64 by omega), Nat.shiftRight_eq_div_pow]
  rfl
/-- a number with a sign -/
def sI (A w : Nat) : Int := if A < 2 ^ (w - 1) then (A : Int) else (A : Int) - 2 ^ w
theorem uN_mask {r : Int64} {w : Nat} (hw : w ≤ 64) : uN (r &&& lN (2 ^ w - 1)) = uN r % 2 ^ w := by
  have h : 2 ^ w ≤ 2 ^ 64 := Nat.pow_le_pow_right (by decide) hw
  have h0 := Nat.two_pow_pos w
  rw [uN_and, uN_lN' (by omega), Nat.and_two_pow_sub_one_eq_mod]
