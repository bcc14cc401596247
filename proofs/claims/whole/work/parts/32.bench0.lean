/-! the bench: its own cells, its vectors -/
theorem Wd.swap2 {Z : Zt} {A : Nat → Prop} {H0 H : Heap} {w1 wc : va_W} {locs : List Loc} (h : Wd Z A H0 (w1 ++ wc) H locs) : Wd Z A H0 (wc ++ w1) H locs := by
  have h2 : Wd Z A H0 (w1 ++ (wc ++ [])) H locs := by rw [List.append_nil]; exact h
  have h3 := h2.rot
  rw [List.append_nil] at h3
  exact h3
theorem Wd.swapR {Z : Zt} {A : Nat → Prop} {H0 H : Heap} {w1 wl we : va_W} {locs : List Loc} (h : Wd Z A H0 (w1 ++ wl ++ we) H locs) : Wd Z A H0 (w1 ++ we ++ wl) H locs := by
  have h1 : Wd Z A H0 (wl ++ (w1 ++ we)) H locs := by
    rw [List.append_assoc] at h
    exact h.rot
  exact h1.swap2
abbrev bo (hb0 hk hc hm wg : Nat) : Nat × va_E := eo hb0 3 [.ref hk, .ref hc, .ref hm, .int (nI wg)]
/-- the bench's object and its list -/
abbrev bl (Z : Zt) (hb0 hk hc hm wg : Nat) (mo : Int32) (n : Nat) (o : Option (Nat × Nat × (Nat → Option Nat))) : va_W := bo hb0 hk hc hm wg :: lst Z hm mo n o
abbrev vo (vd vb stb : Nat → Nat) (i : Nat) : Nat × va_E := eo (vd i) 2 [.ref (vb i), .int (nI (stb i))]
/-- what the bench reads and never writes -/
def BRO (Z : Zt) (W : va_W) (hk hc n : Nat) (vd vb stb wd : Nat → Nat) (rw : Nat → Nat → Nat) (H : Heap) : Prop := RO Z W (eo hk 1 [.ref hc]) H ∧ ∀ i, i < n → RO Z W (vo vd vb stb i) H ∧ RO Z W (ea Z (vb i) (wd i) (rw i)) H
/-- the bench's numbers -/
def bok (x : CS) (σ : Nat → Bool) (n wg : Nat) (o : Option (Nat × Nat × (Nat → Option Nat))) (vd stb wd : Nat → Nat) (rw : Nat → Nat → Nat) : Prop :=
  cok x σ ∧ lok n o vd ∧ wg ≤ 100000 ∧ xn x ≤ wg + 2 ∧ n < 512 ∧ (∀ i, i < n → 1 ≤ wd i ∧ wd i ≤ 64 ∧ stb i ≤ 1 ∧ ∀ j, j < wd i → rw i j < xn x)
/-- behind a call that made a vector of weight g and width w with k gates more -/
def newQ (Z : Zt) (hb0 hk hc hm : Nat) (x : CS) (σ : Nat → Bool) (mo : Int32) (n wg : Nat) (vd : Nat → Nat) (g k w st : Nat) (S : CS → (Nat → Nat) → Prop) (v : Option Value) (w1 : va_W) : Prop :=
  ∃ (y : CS) (nv q : Nat) (f : Nat → Nat) (o2 : Option (Nat × Nat × (Nat → Option Nat))), v = some (.int (nI n)) ∧ w1 = cw Z hc y ++ [eo nv 2 [.ref q, .int (nI st)], ea Z q w f] ++ bl Z hb0 hk hc hm (wg + g) (mo + nI 1) (n + 1) o2 ∧ stp x σ k y ∧ (∀ j, j < w → f j < xn y) ∧ addQ n nv vd o2 ∧ S y f
theorem BRO.here {Z : Zt} {A : Nat → Prop} {H0 H : Heap} {W ws : va_W} {hk hc n : Nat} {vd vb stb wd : Nat → Nat} {rw : Nat → Nat → Nat} {locs : List Loc} (h : BRO Z W hk hc n vd vb stb wd rw H0) (hAe : A = va_A W H0.size) (hW : Wd Z A H0 ws H locs) {i : Nat} (hi : i < n) : zat Z (vo vd vb stb i) H ∧ zat Z (ea Z (vb i) (wd i) (rw i)) H := ⟨(h.2 i hi).1.here hAe hW, (h.2 i hi).2.here hAe hW⟩
