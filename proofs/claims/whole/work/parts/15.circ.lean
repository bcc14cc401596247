/-! the circuit: its cells, what they mean, how it grows -/
def capU (u n : Nat) : Nat := if h : 64 * u < n ∧ 0 < u then capU (2 * u) n else u
termination_by n - 64 * u
decreasing_by omega
theorem capU_id {u n : Nat} (h : n ≤ 64 * u) : capU u n = u := by rw [capU, dif_neg (by omega)]
theorem capU_step {u n : Nat} (h : 64 * u < n) (h0 : 0 < u) : capU u n = capU (2 * u) n := by rw [capU, dif_pos ⟨h, h0⟩]
theorem capU_all (P : Nat → Nat → Prop) (h1 : ∀ u n, ¬ (64 * u < n ∧ 0 < u) → P u n) (h2 : ∀ u n, 64 * u < n → 0 < u → P (2 * u) n → P u n) : ∀ (d u n : Nat), n - 64 * u ≤ d → P u n := by
  intro d
  induction d with
  | zero => intro u n h; exact h1 u n (by omega)
  | succ d ih =>
    intro u n h
    by_cases q : 64 * u < n ∧ 0 < u
    · exact h2 u n q.1 q.2 (ih (2 * u) n (by omega))
    · exact h1 u n q
theorem capU_le (u n : Nat) : u ≤ capU u n := capU_all (fun u n => u ≤ capU u n) (fun u n q => by show u ≤ capU u n; rw [capU, dif_neg q]; omega) (fun u n q q0 ih => by show u ≤ capU u n; rw [capU_step q q0]; have : 2 * u ≤ capU (2 * u) n := ih; omega) _ u n (Nat.le_refl _)
theorem capU_ge (u n : Nat) (h0 : 0 < u) : n ≤ 64 * capU u n := capU_all (fun u n => 0 < u → n ≤ 64 * capU u n) (fun u n q h => by rw [capU, dif_neg q]; omega) (fun u n q q0 ih h => by rw [capU_step q q0]; exact ih (by omega)) _ u n (Nat.le_refl _) h0
theorem capU_comp (u n1 n2 : Nat) (h : n1 ≤ n2) : capU (capU u n1) n2 = capU u n2 := capU_all (fun u n => n ≤ n2 → capU (capU u n) n2 = capU u n2) (fun u n q _ => by rw [capU.eq_1 u n, dif_neg q]) (fun u n q q0 ih hn => by rw [capU_step q q0, ih hn, capU_step (n := n2) (by omega) q0]) _ u n1 (Nat.le_refl _) h
theorem capU_mono (u n1 n2 : Nat) (h : n1 ≤ n2) : capU u n1 ≤ capU u n2 := by rw [← capU_comp u n1 n2 h]; exact capU_le _ _
theorem capU_bd (u n : Nat) : capU u n = u ∨ 32 * capU u n < n := capU_all (fun u n => capU u n = u ∨ 32 * capU u n < n) (fun u n q => Or.inl (by rw [capU, dif_neg q])) (fun u n q q0 ih => by
  refine Or.inr ?_
  rw [capU_step q q0]
  have ih' : capU (2 * u) n = 2 * u ∨ 32 * capU (2 * u) n < n := ih
  rcases ih' with h | h
  · rw [h]; omega
  · exact h) _ u n (Nat.le_refl _)
abbrev CS : Type := (Nat × Nat × Nat × Nat) × Nat × (Nat → Nat) × (Nat → Nat) × (Nat → Nat) × (Nat → Nat) × Nat × Nat
abbrev xu (x : CS) : Nat := x.2.1
abbrev xK (x : CS) : Nat → Nat := x.2.2.1
abbrev xL (x : CS) : Nat → Nat := x.2.2.2.1
abbrev xR (x : CS) : Nat → Nat := x.2.2.2.2.1
abbrev xS (x : CS) : Nat → Nat := x.2.2.2.2.2.1
abbrev xn (x : CS) : Nat := x.2.2.2.2.2.2.1
abbrev xt (x : CS) : Nat := x.2.2.2.2.2.2.2
/-- the circuit's five cells -/
abbrev cw (Z : Zt) (hc : Nat) (x : CS) : va_W := [eo hc 0 [.ref x.1.1, .ref x.1.2.1, .ref x.1.2.2.1, .ref x.1.2.2.2, .int (nI (xn x)), .int (nI (xt x))], ea Z x.1.1 (64 * xu x) (xK x), ea Z x.1.2.1 (64 * xu x) (xL x), ea Z x.1.2.2.1 (64 * xu x) (xR x), ea Z x.1.2.2.2 (64 * xu x) (xS x)]
/-- a signal's value when the sources are σ -/
def vl (x : CS) (σ : Nat → Bool) (g : Nat) : Bool := cv (xK x) (xL x) (xR x) σ g
def gd (σ : Nat → Bool) : Prop := σ 0 = false ∧ σ 1 = true
def cok (x : CS) (σ : Nat → Bool) : Prop :=
  (2 ≤ xt x ∧ xt x ≤ xn x ∧ xn x ≤ 64 * xu x ∧ xn x ≤ 400000 ∧ xu x ≤ 20000) ∧ (xK x 0 = 0 ∧ xK x 1 = 0) ∧ (∀ g, 2 ≤ g → g < xn x → xK x g ≤ 3 ∧ xL x g < g ∧ xR x g < g) ∧ gd σ ∧ (∀ g, xn x ≤ g → σ g = false) ∧ (∀ g, g < xn x → xK x g = 0 → xS x g = (σ g).toNat) ∧ (∀ g, g < xt x → xS x g = (vl x σ g).toNat) ∧ (∀ g, xn x ≤ g → g < 64 * xu x → xS x g = 0)
/-- x' is x with more gates above -/
def cex (x x' : CS) : Prop := xn x ≤ xn x' ∧ ∀ g, g < xn x → xK x' g = xK x g ∧ xL x' g = xL x g ∧ xR x' g = xR x g
theorem cex.rf (x : CS) : cex x x := ⟨Nat.le_refl _, fun _ _ => ⟨rfl, rfl, rfl⟩⟩
theorem cex.tr {x y z : CS} (h : cex x y) (k : cex y z) : cex x z := ⟨Nat.le_trans h.1 k.1, fun g hg => by
  obtain ⟨a, b, c⟩ := h.2 g hg
  obtain ⟨d, e, f⟩ := k.2 g (Nat.lt_of_lt_of_le hg h.1)
  exact ⟨d.trans a, e.trans b, f.trans c⟩⟩
theorem cex.vl {x y : CS} (h : cex x y) {σ : Nat → Bool} {g : Nat} (hg : g < xn x) : vl y σ g = vl x σ g := cv_ext h.2 g hg
theorem vl_0 {x : CS} {τ σ : Nat → Bool} (h : cok x τ) (hg : gd σ) : vl x σ 0 = false := by
  rw [vl, cv_src h.2.1.1]; exact hg.1
theorem vl_1 {x : CS} {τ σ : Nat → Bool} (h : cok x τ) (hg : gd σ) : vl x σ 1 = true := by
  rw [vl, cv_src h.2.1.2]; exact hg.2
/-- behind gate(kd, a, b) -/
def gpost (x : CS) (σ : Nat → Bool) (kd a b : Nat) (x' : CS) : Prop := cok x' σ ∧ xn x' = xn x + 1 ∧ xt x' = xt x ∧ xu x' = capU (xu x) (xn x + 1) ∧ cex x x' ∧ (∀ τ, vl x' τ (xn x) = if kd = 0 then τ (xn x) else c_op kd (vl x τ a) (vl x τ b)) ∧ xK x' (xn x) = kd
theorem gpost_of {x : CS} {σ : Nat → Bool} {kd a b : Nat} (h : cok x σ) (hk : kd ≤ 3) (ha : a < xn x) (hb : b < xn x) (hz : kd = 0 → a = 0 ∧ b = 0) (hn : xn x < 400000) {x' : CS} (hn' : xn x' = xn x + 1) (ht' : xt x' = xt x) (hu' : xu x' = capU (xu x) (xn x + 1)) (hub : xu x' ≤ 20000) (hKLR : ∀ g, g < xn x → xK x' g = xK x g ∧ xL x' g = xL x g ∧ xR x' g = xR x g) (hK : xK x' (xn x) = kd) (hL : xL x' (xn x) = a) (hR : xR x' (xn x) = b) (hS : ∀ g, g < xn x → xS x' g = xS x g) (hS0 : ∀ g, xn x ≤ g → g < 64 * xu x' → xS x' g = 0) : gpost x σ kd a b x' := by
  obtain ⟨⟨h1, h2, h3, h3b, h3c⟩, ⟨h4, h5⟩, h6, h7, h8, h9, h10, h11⟩ := h
  have hu0 : 0 < xu x := by omega
  have hx : cex x x' := ⟨by omega, hKLR⟩
  have hge := capU_ge (xu x) (xn x + 1) hu0
  have hnlt : xn x < 64 * xu x' := by rw [hu']; omega
  refine ⟨⟨⟨by omega, by omega, by rw [hn', hu']; exact hge, by omega, hub⟩, ⟨by rw [(hKLR 0 (by omega)).1]; exact h4, by rw [(hKLR 1 (by omega)).1]; exact h5⟩, fun g g2 gn => ?_, h7, fun g gn => h8 g (by omega), fun g gn gk => ?_, fun g gt => ?_, fun g g1 g2 => hS0 g (by omega) g2⟩, hn', ht', hu', hx, fun τ => ?_, hK⟩
  · by_cases e : g = xn x
    · subst e
      rw [hK, hL, hR]
      exact ⟨hk, ha, hb⟩
    · obtain ⟨a1, a2, a3⟩ := hKLR g (by omega)
      rw [a1, a2, a3]
      exact h6 g g2 (by omega)
  · by_cases e : g = xn x
    · subst e
      rw [hS0 _ (Nat.le_refl _) hnlt, h8 _ (Nat.le_refl _)]
      rfl
    · rw [hS g (by omega)]
      exact h9 g (by omega) (by rw [← (hKLR g (by omega)).1]; exact gk)
  · rw [ht'] at gt
    rw [hS g (by omega), h10 g gt, hx.vl (by omega)]
  · by_cases e : kd = 0
    · rw [if_pos e, vl, cv_src (by rw [hK]; exact e)]
    · rw [if_neg e, vl, cv_gate (by rw [hK]; exact e) (by rw [hL]; exact ha) (by rw [hR]; exact hb), hK, hL, hR]
      have e1 := hx.vl (σ := τ) ha
      have e2 := hx.vl (σ := τ) hb
      rw [vl] at e1 e2
      rw [e1, e2]
