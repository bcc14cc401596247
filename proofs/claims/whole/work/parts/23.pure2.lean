/-! pure: products, quotients, shifts by rows -/
theorem split_mod {a p m n : Nat} (hp : 0 < p) (ha : a < p) : (a + p * m) % (p * n) = a + p * (m % n) := by
  rw [Nat.mod_mul, Nat.add_mul_mod_self_left, Nat.mod_eq_of_lt ha, Nat.add_mul_div_left _ _ hp, Nat.div_eq_of_lt ha, Nat.zero_add]
theorem two_split {i w : Nat} (h : i ≤ w) : 2 ^ i * 2 ^ (w - i) = 2 ^ w := by rw [← Nat.pow_add]; congr 1; omega
theorem mul_step {Tl H A Bi i w : Nat} {b : Bool} (hi : i ≤ w) (hT : Tl + 2 ^ i * H = (A * Bi) % 2 ^ w) (hTl : Tl < 2 ^ i) :
    Tl + 2 ^ i * ((H + b.toNat * (A % 2 ^ (w - i))) % 2 ^ (w - i)) = (A * (Bi + b.toNat * 2 ^ i)) % 2 ^ w := by
  have hp : 0 < 2 ^ i := Nat.two_pow_pos i
  have e1 : (H + b.toNat * (A % 2 ^ (w - i))) % 2 ^ (w - i) = (H + b.toNat * A) % 2 ^ (w - i) := by
    cases b
    · simp
    · simp
  rw [e1, ← split_mod hp hTl, two_split hi, Nat.mul_add, Nat.mul_add, ← Nat.add_assoc, hT, Nat.mod_add_mod]
  congr 1
  congr 1
  rw [Nat.mul_comm (2 ^ i), Nat.mul_comm A, Nat.mul_assoc, Nat.mul_assoc, Nat.mul_comm (2 ^ i) A]
theorem bn_and (β : Nat → Bool) (b : Bool) (w : Nat) : bn (fun j => β j && b) w = b.toNat * bn β w := by
  cases b
  · simp only [Bool.and_false, Bool.toNat_false, Nat.zero_mul]; exact bn_zero w
  · simp only [Bool.and_true, Bool.toNat_true, Nat.one_mul]
theorem bn_low (β : Nat → Bool) {i w : Nat} (h : i ≤ w) : bn β i = bn β w % 2 ^ i := by
  have e : w = i + (w - i) := by omega
  rw [e, bn_split, Nat.add_mul_mod_self_left, Nat.mod_eq_of_lt (bn_lt β i)]
theorem rn_low {x : CS} {τ : Nat → Bool} {r : Nat → Nat} {i w : Nat} (h : i ≤ w) : rn x τ r i = rn x τ r w % 2 ^ i := bn_low _ h
theorem rn_split (x : CS) (τ : Nat → Bool) (r : Nat → Nat) (i k : Nat) : rn x τ r (i + k) = rn x τ r i + 2 ^ i * rn x τ (fun j => r (i + j)) k := bn_split _ i k
/-- gates of a product, i rows done -/
def pg (w : Nat) : Nat → Nat
  | 0 => 0
  | i + 1 => pg w i + 6 * (w - i)
theorem pg_s (w i : Nat) : pg w (i + 1) = pg w i + 6 * (w - i) := rfl
theorem pg_mono (w : Nat) : ∀ {i j : Nat}, i ≤ j → pg w i ≤ pg w j := by
  intro i j h
  induction j with
  | zero => rw [show i = 0 by omega]; exact Nat.le_refl _
  | succ j ih =>
    rcases Nat.lt_or_ge j i with q | q
    · rw [show i = j + 1 by omega]; exact Nat.le_refl _
    · rw [pg_s]; have := ih q; omega
/-- gates of a division, k steps done -/
def dg (w : Nat) : Nat → Nat
  | 0 => w
  | k + 1 => dg w k + 8 * w
theorem dg_s (w k : Nat) : dg w (k + 1) = dg w k + 8 * w := rfl
theorem dg_mono (w : Nat) : ∀ {i j : Nat}, i ≤ j → dg w i ≤ dg w j := by
  intro i j h
  induction j with
  | zero => rw [show i = 0 by omega]; exact Nat.le_refl _
  | succ j ih =>
    rcases Nat.lt_or_ge j i with q | q
    · rw [show i = j + 1 by omega]; exact Nat.le_refl _
    · rw [dg_s]; have := ih q; omega
/-- gates of a shift, i places done -/
def sg (w : Nat) : Nat → Nat
  | 0 => 0
  | i + 1 => sg w i + (if 2 ^ i < w then 3 * w else 1)
theorem sg_s (w i : Nat) : sg w (i + 1) = sg w i + (if 2 ^ i < w then 3 * w else 1) := rfl
theorem sg_mono (w : Nat) : ∀ {i j : Nat}, i ≤ j → sg w i ≤ sg w j := by
  intro i j h
  induction j with
  | zero => rw [show i = 0 by omega]; exact Nat.le_refl _
  | succ j ih =>
    rcases Nat.lt_or_ge j i with q | q
    · rw [show i = j + 1 by omega]; exact Nat.le_refl _
    · rw [sg_s]; have := ih q; omega
/-! long division: what stands when the low k bits of A are still to come -/
def dQ (A B w k : Nat) : Nat := if B = 0 then 2 ^ (w - k) - 1 else A / 2 ^ k / B
def dR (A B k : Nat) : Nat := if B = 0 then A / 2 ^ k else (A / 2 ^ k) % B
theorem half_step (A k : Nat) : A / 2 ^ k = 2 * (A / 2 ^ (k + 1)) + (A.testBit k).toNat := by
  rw [Nat.pow_succ, ← Nat.div_div_eq_div_mul, Nat.toNat_testBit]
  omega
theorem dR_step (A B k : Nat) : dR A B k = if B ≤ 2 * dR A B (k + 1) + (A.testBit k).toNat then 2 * dR A B (k + 1) + (A.testBit k).toNat - B else 2 * dR A B (k + 1) + (A.testBit k).toNat := by
  have hb : (A.testBit k).toNat ≤ 1 := by cases A.testBit k <;> simp
  have hs := half_step A k
  unfold dR
  by_cases h : B = 0
  · simp only [if_pos h]
    rw [if_pos (by omega), hs, h, Nat.sub_zero]
  · simp only [if_neg h]
    rw [hs]
    generalize A / 2 ^ (k + 1) = P
    generalize (A.testBit k).toNat = a at hb ⊢
    have hB : 0 < B := Nat.pos_of_ne_zero h
    have h1 := Nat.mod_lt P hB
    have h2 : 2 * P + a = B * (2 * (P / B)) + (2 * (P % B) + a) := by
      have := Nat.div_add_mod P B
      rw [Nat.mul_left_comm]
      omega
    rw [h2, Nat.mul_add_mod]
    by_cases q : B ≤ 2 * (P % B) + a
    · rw [if_pos q, Nat.mod_eq_sub_mod q, Nat.mod_eq_of_lt (by omega)]
    · rw [if_neg q, Nat.mod_eq_of_lt (by omega)]
theorem dQ_step (A B w k : Nat) (hk : k < w) : dQ A B w k = (decide (B ≤ 2 * dR A B (k + 1) + (A.testBit k).toNat)).toNat + 2 * dQ A B w (k + 1) := by
  have hb : (A.testBit k).toNat ≤ 1 := by cases A.testBit k <;> simp
  have hs := half_step A k
  unfold dR dQ
  by_cases h : B = 0
  · simp only [if_pos h]
    rw [decide_eq_true (by omega)]
    have e : w - k = (w - (k + 1)) + 1 := by omega
    rw [e, Nat.pow_succ]
    have := Nat.two_pow_pos (w - (k + 1))
    simp only [Bool.toNat_true]
    omega
  · simp only [if_neg h]
    rw [hs]
    generalize A / 2 ^ (k + 1) = P
    generalize (A.testBit k).toNat = a at hb ⊢
    have hB : 0 < B := Nat.pos_of_ne_zero h
    have h1 := Nat.mod_lt P hB
    have h2 : 2 * P + a = (2 * (P % B) + a) + B * (2 * (P / B)) := by
      have := Nat.div_add_mod P B
      rw [Nat.mul_left_comm]
      omega
    rw [h2, Nat.add_mul_div_left _ _ hB]
    by_cases q : B ≤ 2 * (P % B) + a
    · rw [decide_eq_true q]
      have : (2 * (P % B) + a) / B = 1 := Nat.div_eq_of_lt_le (by omega) (by omega)
      rw [this]; rfl
    · rw [decide_eq_false q, Nat.div_eq_of_lt (by omega)]; rfl
theorem dR_le (A B k : Nat) : dR A B k ≤ A / 2 ^ k := by
  unfold dR
  by_cases h : B = 0
  · rw [if_pos h]; exact Nat.le_refl _
  · rw [if_neg h]; exact Nat.mod_le _ _
theorem dR_top {A w : Nat} (hA : A < 2 ^ w) (B : Nat) : dR A B w = 0 := by
  have := dR_le A B w
  rw [Nat.div_eq_of_lt hA] at this
  omega
theorem dR_lt {A w k : Nat} (hA : A < 2 ^ w) (hk : k < w) (B : Nat) : dR A B (k + 1) < 2 ^ (w - 1) := by
  have h1 := dR_le A B (k + 1)
  have h2 : A / 2 ^ (k + 1) < 2 ^ (w - (k + 1)) := by
    rw [Nat.div_lt_iff_lt_mul (Nat.two_pow_pos _), ← Nat.pow_add, show w - (k + 1) + (k + 1) = w by omega]
    exact hA
  have h3 : 2 ^ (w - (k + 1)) ≤ 2 ^ (w - 1) := Nat.pow_le_pow_right (by decide) (by omega)
  omega
/-- a row moved up by one, with a bit at the bottom -/
theorem bn_up1 {β γ : Nat → Bool} {b : Bool} {w R : Nat} (hw : 1 ≤ w) (hR : bn β w = R) (hlt : R < 2 ^ (w - 1)) (h0 : γ 0 = b) (h1 : ∀ j, 1 ≤ j → j < w → γ j = β (j - 1)) : bn γ w = 2 * R + b.toNat := by
  have e : w = 1 + (w - 1) := by omega
  have h2 : bn β (w - 1) = R := by rw [bn_low β (w := w) (by omega), hR, Nat.mod_eq_of_lt hlt]
  have h3 : bn (fun j => γ (1 + j)) (w - 1) = R := by
    rw [← h2]
    exact bn_congr (fun j hj => by rw [h1 (1 + j) (by omega) (by omega)]; congr 1; omega)
  rw [e, bn_split, h3]
  simp only [bn, h0, Nat.pow_zero, Nat.mul_one, Nat.zero_add, Nat.pow_one]
  omega
theorem bn_shift1 (β : Nat → Bool) (k m : Nat) : bn (fun j => β (k + j)) (m + 1) = (β k).toNat + 2 * bn (fun j => β (k + 1 + j)) m := by
  have e : m + 1 = 1 + m := by omega
  rw [e, bn_split]
  have h : (fun j => β (k + (1 + j))) = fun j => β (k + 1 + j) := by funext j; congr 1; omega
  rw [h]
  simp only [bn, Nat.add_zero, Nat.pow_zero, Nat.mul_one, Nat.zero_add, Nat.pow_one]
theorem mvd_two (r s : Nat → Nat) {w k d upw fl j : Nat} (F : Nat → Bool) (G : Nat → Bool) (hj : j < w) (hfl : F fl = G fl) (h : ∀ i, i < w → F (s i) = G (mvd r w k upw fl i)) : F (mvd s w d upw fl j) = G (mvd r w (k + d) upw fl j) := by
  unfold mvd
  by_cases u : upw = 1
  · simp only [if_pos u]
    by_cases q : d ≤ j
    · rw [if_pos q, h (j - d) (by omega)]
      unfold mvd
      rw [if_pos u]
      by_cases q2 : k ≤ j - d
      · rw [if_pos q2, if_pos (by omega)]; congr 2; omega
      · rw [if_neg q2, if_neg (by omega)]
    · rw [if_neg q, if_neg (by omega), hfl]
  · simp only [if_neg u]
    by_cases q : j + d < w
    · rw [if_pos q, h (j + d) q]
      unfold mvd
      rw [if_neg u]
      by_cases q2 : j + d + k < w
      · rw [if_pos q2, if_pos (by omega)]; congr 2; omega
      · rw [if_neg q2, if_neg (by omega)]
    · rw [if_neg q, if_neg (by omega), hfl]
theorem mvd_far {r : Nat → Nat} {w k upw fl j : Nat} (hj : j < w) (hk : w ≤ k) : mvd r w k upw fl j = fl := by
  unfold mvd
  by_cases u : upw = 1
  · rw [if_pos u, if_neg (by omega)]
  · rw [if_neg u, if_neg (by omega)]
theorem mvd_0 {r : Nat → Nat} {w upw fl j : Nat} (hj : j < w) : mvd r w 0 upw fl j = r j := by
  unfold mvd
  by_cases u : upw = 1
  · rw [if_pos u, if_pos (by omega)]; rfl
  · rw [if_neg u, if_pos (by omega)]; rfl
theorem mvd_lt {r : Nat → Nat} {w k upw fl j n : Nat} (hj : j < w) (hf : fl < n) (hr : ∀ i, i < w → r i < n) : mvd r w k upw fl j < n := by
  unfold mvd
  by_cases u : upw = 1
  · rw [if_pos u]
    by_cases q : k ≤ j
    · rw [if_pos q]; exact hr _ (by omega)
    · rw [if_neg q]; exact hf
  · rw [if_neg u]
    by_cases q : j + k < w
    · rw [if_pos q]; exact hr _ q
    · rw [if_neg q]; exact hf
theorem rn_mono (x : CS) (τ : Nat → Bool) (r : Nat → Nat) {i j : Nat} (h : i ≤ j) : rn x τ r i ≤ rn x τ r j := by
  induction j with
  | zero => rw [show i = 0 by omega]; exact Nat.le_refl _
  | succ j ih =>
    rcases Nat.lt_or_ge j i with q | q
    · rw [show i = j + 1 by omega]; exact Nat.le_refl _
    · rw [rn_s]; have := ih q; omega
theorem rn_big {x : CS} {τ : Nat → Bool} {r : Nat → Nat} {i j : Nat} (h : i ≤ j) (hne : rn x τ r j ≠ rn x τ r i) : 2 ^ i ≤ rn x τ r j := by
  rcases Nat.lt_or_ge (rn x τ r j) (2 ^ i) with q | q
  · exfalso
    apply hne
    rw [rn_low h, Nat.mod_eq_of_lt q]
  · exact q
theorem Wd.pre {Z : Zt} {A : Nat → Prop} {H0 H : Heap} {wc wr : va_W} {locs : List Loc} (h : Wd Z A H0 (wc ++ wr) H locs) : Wd Z A H0 wc H locs := ⟨pre_P h.1, pre_D h.2.1, h.2.2⟩
theorem Wd.rot {Z : Zt} {A : Nat → Prop} {H0 H : Heap} {w1 wc wr : va_W} {locs : List Loc} (h : Wd Z A H0 (w1 ++ (wc ++ wr)) H locs) : Wd Z A H0 (wc ++ (w1 ++ wr)) H locs := by
  have hP1 := pre_P h.1
  have hP2 := suf_P h.1
  have hD2 := suf_D h.2.1
  refine ⟨va_P.app (pre_P hP2) (va_P.app hP1 (suf_P hP2)), va_D.app (pre_D hD2) (va_D.app (pre_D h.2.1) (suf_D hD2) (fun i j p q hi hj e => ?_)) (fun i j p q hi hj e => ?_), h.2.2⟩
  · have h1 := h.2.1.1 _ _ p q (pre_at (wr := wc ++ wr) hi) (suf_at (wc := w1) (suf_at (wc := wc) hj)) e
    have h2 := (List.getElem?_eq_some_iff.mp hi).1
    omega
  · rcases Nat.lt_or_ge j w1.length with hl | hl
    · rw [List.getElem?_append_left hl] at hj
      have h1 := h.2.1.1 _ _ q p (pre_at (wr := wc ++ wr) hj) (suf_at (wc := w1) (pre_at (wr := wr) hi)) e.symm
      omega
    · rw [List.getElem?_append_right hl] at hj
      have h1 := hD2.1 _ _ p q (pre_at (wr := wr) hi) (suf_at (wc := wc) hj) e
      have h2 := (List.getElem?_eq_some_iff.mp hi).1
      omega
