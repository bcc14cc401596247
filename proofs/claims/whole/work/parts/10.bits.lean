/-! numbers by their bits; circuits; what the rows of signals are worth -/
def bn (β : Nat → Bool) : Nat → Nat
  | 0 => 0
  | i + 1 => bn β i + (β i).toNat * 2 ^ i
theorem bn_s (β : Nat → Bool) (i : Nat) : bn β (i + 1) = bn β i + (β i).toNat * 2 ^ i := rfl
theorem bn_lt (β : Nat → Bool) (i : Nat) : bn β i < 2 ^ i := by
  induction i with
  | zero => exact Nat.one_pos
  | succ i ih =>
    rw [bn_s, Nat.pow_succ]
    cases β i
    · simp only [Bool.toNat_false, Nat.zero_mul]; omega
    · simp only [Bool.toNat_true, Nat.one_mul]; omega
theorem bn_congr {β γ : Nat → Bool} : ∀ {n : Nat}, (∀ j, j < n → β j = γ j) → bn β n = bn γ n
  | 0, _ => rfl
  | n + 1, h => by rw [bn_s, bn_s, bn_congr (fun j hj => h j (by omega)), h n (by omega)]
theorem bn_bit (β : Nat → Bool) (n j : Nat) : (bn β n).testBit j = (decide (j < n) && β j) := by
  induction n with
  | zero => simp [bn]
  | succ n ih =>
    have e : bn β (n + 1) = 2 ^ n * (β n).toNat + bn β n := by rw [bn_s, Nat.mul_comm]; omega
    rw [e, Nat.testBit_two_pow_mul_add _ (bn_lt β n)]
    by_cases h : j < n
    · rw [if_pos h, ih]; simp [h, Nat.lt_succ_of_lt h]
    · rw [if_neg h, Nat.testBit_bool_toNat]
      by_cases h2 : j = n
      · subst h2; simp
      · have h3 : ¬ j < n + 1 := by omega
        have h4 : ¬ j - n = 0 := by omega
        simp [h3, h4]
theorem bn_of (N w : Nat) : bn (fun j => N.testBit j) w = N % 2 ^ w := by
  refine Nat.eq_of_testBit_eq (fun j => ?_)
  rw [bn_bit, Nat.testBit_mod_two_pow]
theorem bn_is {β : Nat → Bool} {w N : Nat} (hN : N < 2 ^ w) (h : ∀ j, j < w → β j = N.testBit j) : bn β w = N := by
  rw [bn_congr h, bn_of, Nat.mod_eq_of_lt hN]
theorem bn_inj {β γ : Nat → Bool} {w : Nat} (h : bn β w = bn γ w) {j : Nat} (hj : j < w) : β j = γ j := by
  have e := congrArg (fun x => x.testBit j) h
  simpa [bn_bit, hj] using e
theorem bn_zero (w : Nat) : bn (fun _ => false) w = 0 := by
  induction w with
  | zero => rfl
  | succ w ih => rw [bn_s, ih]; simp
theorem bn_ones (w : Nat) : bn (fun _ => true) w + 1 = 2 ^ w := by
  induction w with
  | zero => rfl
  | succ w ih => rw [bn_s, Nat.pow_succ]; simp only [Bool.toNat_true, Nat.one_mul]; omega
theorem bn_not (β : Nat → Bool) (w : Nat) : bn (fun j => !β j) w + bn β w + 1 = 2 ^ w := by
  induction w with
  | zero => rfl
  | succ w ih =>
    rw [bn_s, bn_s, Nat.pow_succ]
    cases β w
    · simp only [Bool.not_false, Bool.toNat_true, Bool.toNat_false, Nat.one_mul, Nat.zero_mul]; omega
    · simp only [Bool.not_true, Bool.toNat_true, Bool.toNat_false, Nat.one_mul, Nat.zero_mul]; omega
/-- a row in two pieces -/
theorem bn_split (β : Nat → Bool) (i k : Nat) : bn β (i + k) = bn β i + 2 ^ i * bn (fun j => β (i + j)) k := by
  induction k with
  | zero => simp [bn]
  | succ k ih =>
    rw [← Nat.add_assoc, bn_s, ih, bn_s, Nat.mul_add, Nat.pow_add, Nat.mul_left_comm, Nat.add_assoc]
/-- the full adder -/
theorem fa_step {P Q S c i : Nat} {a b d : Bool} (h : S + d.toNat * 2 ^ i = P + Q + c) :
    S + ((a ^^ b) ^^ d).toNat * 2 ^ i + ((a && b) || ((a ^^ b) && d)).toNat * 2 ^ (i + 1) = (P + a.toNat * 2 ^ i) + (Q + b.toNat * 2 ^ i) + c := by
  rw [Nat.pow_succ]
  cases a <;> cases b <;> cases d <;> simp only [Bool.xor_false, Bool.false_xor, Bool.xor_true, Bool.true_xor, Bool.not_true, Bool.not_false, Bool.and_true, Bool.true_and, Bool.and_false, Bool.false_and, Bool.or_true, Bool.true_or, Bool.or_false, Bool.false_or, Bool.toNat_true, Bool.toNat_false, Nat.zero_mul, Nat.one_mul, Nat.add_zero, Bool.and_self, Bool.xor_self, Bool.or_self] at h ⊢ <;> omega
def c_op (k : Nat) (a b : Bool) : Bool := if k = 1 then (a && b) else if k = 2 then (a || b) else (a ^^ b)
/-- the value of a signal: K, L, R the gates' kinds and what they read, σ the sources -/
def cv (K L R : Nat → Nat) (σ : Nat → Bool) (g : Nat) : Bool :=
  if h : K g ≠ 0 ∧ L g < g ∧ R g < g then c_op (K g) (cv K L R σ (L g)) (cv K L R σ (R g)) else σ g
termination_by g
decreasing_by
  · exact h.2.1
  · exact h.2.2
theorem cv_src {K L R : Nat → Nat} {σ : Nat → Bool} {g : Nat} (h : K g = 0) : cv K L R σ g = σ g := by
  rw [cv, dif_neg (fun q => q.1 h)]
theorem cv_gate {K L R : Nat → Nat} {σ : Nat → Bool} {g : Nat} (h : K g ≠ 0) (hl : L g < g) (hr : R g < g) : cv K L R σ g = c_op (K g) (cv K L R σ (L g)) (cv K L R σ (R g)) := by
  rw [cv, dif_pos ⟨h, hl, hr⟩]
theorem cv_else {K L R : Nat → Nat} {σ : Nat → Bool} {g : Nat} (q : ¬ (K g ≠ 0 ∧ L g < g ∧ R g < g)) : cv K L R σ g = σ g := by
  rw [cv, dif_neg q]
/-- more gates above change nothing below -/
theorem cv_ext {K L R K' L' R' : Nat → Nat} {σ : Nat → Bool} {n : Nat} (h : ∀ g, g < n → K' g = K g ∧ L' g = L g ∧ R' g = R g) : ∀ g, g < n → cv K' L' R' σ g = cv K L R σ g := by
  intro g
  induction g using Nat.strongRecOn with
  | ind g ih =>
    intro hg
    obtain ⟨h1, h2, h3⟩ := h g hg
    by_cases q : K g ≠ 0 ∧ L g < g ∧ R g < g
    · rw [cv_gate q.1 q.2.1 q.2.2, cv_gate (by rw [h1]; exact q.1) (by rw [h2]; exact q.2.1) (by rw [h3]; exact q.2.2), h1, h2, h3, ih _ q.2.1 (by omega), ih _ q.2.2 (by omega)]
    · rw [cv_else q, cv_else (by rw [h1, h2, h3]; exact q)]
/-- what lies above a signal doesn't reach it -/
theorem cv_low {K L R : Nat → Nat} {σ τ : Nat → Bool} : ∀ g, (∀ h, h ≤ g → σ h = τ h) → cv K L R σ g = cv K L R τ g := by
  intro g
  induction g using Nat.strongRecOn with
  | ind g ih =>
    intro hg
    by_cases q : K g ≠ 0 ∧ L g < g ∧ R g < g
    · rw [cv_gate q.1 q.2.1 q.2.2, cv_gate q.1 q.2.1 q.2.2, ih _ q.2.1 (fun h hh => hg h (by omega)), ih _ q.2.2 (fun h hh => hg h (by omega))]
    · rw [cv_else q, cv_else q, hg g (Nat.le_refl g)]
theorem cv_same {K L R : Nat → Nat} {σ τ : Nat → Bool} (hst : ∀ h, K h = 0 → σ h = τ h) {n : Nat} (hw : ∀ g, g < n → K g ≠ 0 → L g < g ∧ R g < g) : ∀ g, g < n → cv K L R σ g = cv K L R τ g := by
  intro g
  induction g using Nat.strongRecOn with
  | ind g ih =>
    intro hg
    by_cases q : K g = 0
    · rw [cv_src q, cv_src q, hst g q]
    · obtain ⟨h1, h2⟩ := hw g hg q
      rw [cv_gate q h1 h2, cv_gate q h1 h2, ih _ h1 (by omega), ih _ h2 (by omega)]
