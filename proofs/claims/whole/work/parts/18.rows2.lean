/-! rows of signals, steps of k gates -/
def rn (x : CS) (τ : Nat → Bool) (r : Nat → Nat) (i : Nat) : Nat := bn (fun j => vl x τ (r j)) i
theorem rn_s (x : CS) (τ : Nat → Bool) (r : Nat → Nat) (i : Nat) : rn x τ r (i + 1) = rn x τ r i + (vl x τ (r i)).toNat * 2 ^ i := rfl
theorem rn_lt (x : CS) (τ : Nat → Bool) (r : Nat → Nat) (i : Nat) : rn x τ r i < 2 ^ i := bn_lt _ _
theorem rn_ex {x y : CS} (h : cex x y) {τ : Nat → Bool} {r : Nat → Nat} {i : Nat} (hr : ∀ j, j < i → r j < xn x) : rn y τ r i = rn x τ r i := bn_congr (fun j hj => h.vl (hr j hj))
theorem rn_congr {x : CS} {τ : Nat → Bool} {r r' : Nat → Nat} {i : Nat} (hr : ∀ j, j < i → r j = r' j) : rn x τ r i = rn x τ r' i := bn_congr (fun j hj => by rw [hr j hj])
theorem rn_up (x : CS) (τ : Nat → Bool) (r : Nat → Nat) (i v : Nat) : rn x τ (up r i v) (i + 1) = rn x τ r i + (vl x τ v).toNat * 2 ^ i := by
  rw [rn_s, up_s, rn_congr (r' := r) (fun j hj => up_n _ _ (by omega))]
/-- k gates were added -/
def stp (x : CS) (σ : Nat → Bool) (k : Nat) (y : CS) : Prop := cok y σ ∧ cex x y ∧ xn y = xn x + k ∧ xu y = capU (xu x) (xn x + k)
theorem stp.rf {x : CS} {σ : Nat → Bool} (h : cok x σ) : stp x σ 0 x := ⟨h, cex.rf x, rfl, (capU_id h.1.2.2.1).symm⟩
theorem stp.tr {x y z : CS} {σ : Nat → Bool} {k j : Nat} (h : stp x σ k y) (g : stp y σ j z) : stp x σ (k + j) z := ⟨g.1, h.2.1.tr g.2.1, by rw [g.2.2.1, h.2.2.1, Nat.add_assoc], by rw [g.2.2.2, h.2.2.1, h.2.2.2, Nat.add_assoc]; exact capU_comp _ _ _ (by omega)⟩
theorem stp.of {x y : CS} {σ : Nat → Bool} {kd a b : Nat} (g : gpost x σ kd a b y) : stp x σ 1 y := ⟨g.1, g.2.2.2.2.1, g.2.1, g.2.2.2.1⟩
theorem stp.g {x y z : CS} {σ : Nat → Bool} {k kd a b : Nat} (h : stp x σ k y) (g : gpost y σ kd a b z) : stp x σ (k + 1) z := h.tr (stp.of g)
/-- what a call of j gates may cost, when K are allowed in all -/
theorem stp.cost {x y : CS} {σ : Nat → Bool} {k : Nat} (h : stp x σ k y) {j K : Nat} (hK : k + j ≤ K) : xu x ≤ xu y ∧ xu y ≤ capU (xu y) (xn y + j) ∧ capU (xu y) (xn y + j) ≤ capU (xu x) (xn x + K) := by
  refine ⟨by rw [h.2.2.2]; exact capU_le _ _, capU_le _ _, ?_⟩
  rw [h.2.2.1, h.2.2.2, Nat.add_assoc, capU_comp _ _ _ (by omega)]
  exact capU_mono _ _ _ (by omega)
theorem gval {x y z : CS} {σ : Nat → Bool} {kd a b : Nat} (g : gpost x σ kd a b y) (hk : kd ≠ 0) (h : cex y z) (ha : a < xn x) (hb : b < xn x) (τ : Nat → Bool) : vl z τ (xn x) = c_op kd (vl z τ a) (vl z τ b) := by
  have hx := g.2.2.2.2.1.tr h
  rw [hx.vl ha, hx.vl hb, h.vl (by rw [g.2.1]; omega), g.2.2.2.2.2.1 τ, if_neg hk]
theorem c_op3 (a b : Bool) : c_op 3 a b = (a ^^ b) := rfl
theorem c_op2 (a b : Bool) : c_op 2 a b = (a || b) := rfl
theorem c_op1 (a b : Bool) : c_op 1 a b = (a && b) := rfl
