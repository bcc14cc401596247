/-! each call, side by side -/
theorem wf_up_n {K F S T D : Nat → Nat} {n k a b d w : Nat} (h1 : 1 ≤ w) (h2 : w ≤ 64) (h : ∀ D' : Nat → Nat, (∀ i, i < n → D' i = D i) →
    (k ≤ 1 ∧ a = 0) ∨ (10 ≤ k ∧ k ≤ 11 ∧ a < n ∧ w = D' a) ∨ (20 ≤ k ∧ k ≤ 32 ∧ a < n ∧ b < n ∧ D' b = D' a ∧ w = D' a) ∨ (40 ≤ k ∧ k ≤ 44 ∧ a < n ∧ b < n ∧ D' b = D' a ∧ w = 1) ∨ (k = 50 ∧ a < n ∧ b < n ∧ d < n ∧ D' b = D' a ∧ w = D' a ∧ D' d = 1) ∨ (k = 51 ∧ a < n ∧ b < n ∧ w = D' a + D' b) ∨ (k = 52 ∧ a < n ∧ b + w ≤ D' a) ∨ (53 ≤ k ∧ k ≤ 54 ∧ a < n ∧ D' a ≤ w)) : wfv (up K n k) (up F n a) (up S n b) (up T n d) (up D n w) n := by
  unfold wfv
  rw [up_s, up_s, up_s, up_s, up_s]
  exact ⟨h1, h2, h (up D n w) (fun i hi => up_n _ _ (by omega))⟩
theorem J_input {x y : CS} {σ : Nat → Bool} {n wg : Nat} {o o2 : Option (Nat × Nat × (Nat → Option Nat))} {vd stb : Nat → Nat} {rw : Nat → Nat → Nat} {K F S T D V : Nat → Nat} (h : Jn x σ n wg o vd stb rw K F S T D V) {f : Nat → Nat} {nv : Nat} {w : Nat} (hw1 : 1 ≤ w) (hw : w ≤ 64) (hg : (w) + wg ≤ 100000) (hs : stp x σ (w) y) (hfb : ∀ q, q < w → f q < xn y) (hadd : addQ n nv vd o2) (hS : ∀ q, q < w → f q = xn x + q ∧ xK y (f q) = 0) :
    n + 1 < 512 → Jn y σ (n + 1) (wg + (w)) o2 (up vd n nv) (up stb n 1) (up rw n f) (up K n (0)) (up F n 0) (up S n 0) (up T n 0) (up D n (w)) (up V n (0)) := by
  have hb := h.1
  have hx := hb.1
  have hdw := hb.2.2.2.2.2
  refine J_new h hs hfb hadd (Nat.le_refl _) hg (Nat.le_refl _) (wf_up_n hw1 hw (fun D' hD => Or.inl ⟨by decide, rfl⟩)) (Nat.two_pow_pos w) ⟨fun _ => rfl, fun _ => rfl⟩ (fun _ => ⟨⟨xn x, Nat.le_refl _, fun q hq => ?_⟩, ?_⟩) (fun q => absurd q (by decide)) (fun q => absurd q (by decide))
  · obtain ⟨e1, e2⟩ := hS q hq
    rw [e1] at e2
    exact ⟨e1, e2⟩
  · show bn _ w = 0
    rw [← bn_zero w]
    refine bn_congr (fun q hq => ?_)
    obtain ⟨e1, e2⟩ := hS q hq
    rw [vl, cv_src e2, e1]
    exact hx.2.2.2.2.1 _ (by omega)
theorem J_constant {x y : CS} {σ : Nat → Bool} {n wg : Nat} {o o2 : Option (Nat × Nat × (Nat → Option Nat))} {vd stb : Nat → Nat} {rw : Nat → Nat → Nat} {K F S T D V : Nat → Nat} (h : Jn x σ n wg o vd stb rw K F S T D V) {f : Nat → Nat} {nv : Nat} {w : Nat} {V0 : Int64} (hw1 : 1 ≤ w) (hw : w ≤ 64) (hg : (w) + wg ≤ 100000) (hs : stp x σ (0) y) (hfb : ∀ q, q < w → f q < xn y) (hadd : addQ n nv vd o2) (hS : y = x ∧ ∀ q, q < w → f q = (V0.toUInt64.toNat.testBit q).toNat) :
    n + 1 < 512 → Jn y σ (n + 1) (wg + (w)) o2 (up vd n nv) (up stb n 0) (up rw n f) (up K n (1)) (up F n 0) (up S n 0) (up T n 0) (up D n (w)) (up V n (uN V0 % 2 ^ w)) := by
  have hb := h.1
  have hx := hb.1
  have hdw := hb.2.2.2.2.2
  refine J_new h hs hfb hadd (Nat.zero_le _) hg (by decide) (wf_up_n hw1 hw (fun D' hD => Or.inl ⟨by decide, rfl⟩)) (Nat.mod_lt _ (Nat.two_pow_pos w)) ⟨fun q => absurd q (by decide), fun q => absurd q (by decide)⟩ (fun q => absurd q (by decide)) (fun _ τ hτ => ?_) (fun q => absurd q (by decide))
  obtain ⟨rfl, hS⟩ := hS
  show bn _ w = _
  rw [← bn_of]
  refine bn_congr (fun q hq => ?_)
  rw [hS q hq]
  show _ = V0.toUInt64.toNat.testBit q
  cases V0.toUInt64.toNat.testBit q
  · exact vl_0 hx hτ
  · exact vl_1 hx hτ
theorem J_one {x y : CS} {σ : Nat → Bool} {n wg : Nat} {o o2 : Option (Nat × Nat × (Nat → Option Nat))} {vd stb : Nat → Nat} {rw : Nat → Nat → Nat} {K F S T D V : Nat → Nat} (h : Jn x σ n wg o vd stb rw K F S T D V) {f : Nat → Nat} {nv : Nat} {k i : Nat} (hk : k ≤ 1) (hi : i < n) (hg : (g1 k (D i)) + wg ≤ 100000) (hs : stp x σ (G1 k (D i)) y) (hfb : ∀ q, q < D i → f q < xn y) (hadd : addQ n nv vd o2) (hS : ∀ τ, gd τ → rn y τ f (D i) = V1 (rn x τ (rw i) (D i)) (D i) k) :
    n + 1 < 512 → Jn y σ (n + 1) (wg + (g1 k (D i))) o2 (up vd n nv) (up stb n 0) (up rw n f) (up K n (10 + k)) (up F n i) (up S n 0) (up T n 0) (up D n (D i)) (up V n (0)) := by
  have hb := h.1
  have hx := hb.1
  have hdw := hb.2.2.2.2.2
  obtain ⟨d1, d2, -, -⟩ := hdw i hi
  have hgk : G1 k (D i) ≤ g1 k (D i) := by unfold G1 g1; split <;> omega
  refine J_new h hs hfb hadd hgk hg (by decide) (wf_up_n d1 d2 (fun D' hD => Or.inr (Or.inl ⟨by omega, by omega, hi, (hD i hi).symm⟩))) (Nat.two_pow_pos _) ⟨fun q => absurd q (by decide), fun q => absurd q (by omega)⟩ (fun q => absurd q (by omega)) (fun q => absurd q (by omega)) (fun _ τ hτ t ht => ?_)
  rw [hS τ hτ, ht i hi]
  unfold NR
  rw [if_neg (by omega), if_pos (by omega), Nat.add_sub_cancel_left]
  rfl
theorem J_two {x y : CS} {σ : Nat → Bool} {n wg : Nat} {o o2 : Option (Nat × Nat × (Nat → Option Nat))} {vd stb : Nat → Nat} {rw : Nat → Nat → Nat} {K F S T D V : Nat → Nat} (h : Jn x σ n wg o vd stb rw K F S T D V) {f : Nat → Nat} {nv : Nat} {k i j : Nat} (hk : k ≤ 12) (hi : i < n) (hj : j < n) (hij : D i = D j) (hg : (wt2 k (D i)) + wg ≤ 100000) (hs : stp x σ (G2 k (D i)) y) (hfb : ∀ q, q < D i → f q < xn y) (hadd : addQ n nv vd o2) (hS : ∀ τ, gd τ → rn y τ f (D i) = V2 x (rw i) (rw j) (D i) k τ) :
    n + 1 < 512 → Jn y σ (n + 1) (wg + (wt2 k (D i))) o2 (up vd n nv) (up stb n 0) (up rw n f) (up K n (20 + k)) (up F n i) (up S n j) (up T n 0) (up D n (D i)) (up V n (0)) := by
  have hb := h.1
  have hx := hb.1
  have hdw := hb.2.2.2.2.2
  obtain ⟨d1, d2, -, -⟩ := hdw i hi
  refine J_new h hs hfb hadd (G2_wt k (by omega) (D i) (by omega) d1) hg (by decide) (wf_up_n d1 d2 (fun D' hD => Or.inr (Or.inr (Or.inl ⟨by omega, by omega, hi, hj, by rw [hD i hi, hD j hj, hij], (hD i hi).symm⟩)))) (Nat.two_pow_pos _) ⟨fun q => absurd q (by decide), fun q => absurd q (by omega)⟩ (fun q => absurd q (by omega)) (fun q => absurd q (by omega)) (fun _ τ hτ t ht => ?_)
  rw [hS τ hτ, V2_N2 hx hτ d1 hk, ht i hi, ht j hj]
  unfold NR tv
  rw [if_neg (by omega), if_neg (by omega), if_pos (by omega), Nat.add_sub_cancel_left, ← hij]
theorem J_compare {x y : CS} {σ : Nat → Bool} {n wg : Nat} {o o2 : Option (Nat × Nat × (Nat → Option Nat))} {vd stb : Nat → Nat} {rw : Nat → Nat → Nat} {K F S T D V : Nat → Nat} (h : Jn x σ n wg o vd stb rw K F S T D V) {f : Nat → Nat} {nv : Nat} {k i j : Nat} (hk : k ≤ 4) (hi : i < n) (hj : j < n) (hij : D i = D j) (hg : (10 * D i) + wg ≤ 100000) (hs : stp x σ (GC k (D i)) y) (hfb : ∀ q, q < 1 → f q < xn y) (hadd : addQ n nv vd o2) (hS : ∀ τ, gd τ → vl y τ (f 0) = VC x (rw i) (rw j) (D i) k τ) :
    n + 1 < 512 → Jn y σ (n + 1) (wg + (10 * D i)) o2 (up vd n nv) (up stb n 0) (up rw n f) (up K n (40 + k)) (up F n i) (up S n j) (up T n 0) (up D n (1)) (up V n (0)) := by
  have hb := h.1
  have hx := hb.1
  have hdw := hb.2.2.2.2.2
  obtain ⟨d1, d2, -, -⟩ := hdw i hi
  refine J_new h hs hfb hadd (GC_le k (by omega) (D i) (by omega) d1) hg (by decide) (wf_up_n (by decide) (by decide) (fun D' hD => Or.inr (Or.inr (Or.inr (Or.inl ⟨by omega, by omega, hi, hj, by rw [hD i hi, hD j hj, hij], rfl⟩))))) (Nat.two_pow_pos _) ⟨fun q => absurd q (by decide), fun q => absurd q (by omega)⟩ (fun q => absurd q (by omega)) (fun q => absurd q (by omega)) (fun _ τ hτ t ht => ?_)
  have e1 : rn y τ f 1 = (vl y τ (f 0)).toNat := by
    rw [rn_s, Nat.pow_zero, Nat.mul_one]
    exact Nat.zero_add _
  rw [e1, hS τ hτ, VC_NC d1 hk, ht i hi, ht j hj]
  unfold NR tv
  rw [if_neg (by omega), if_neg (by omega), if_neg (by omega), if_pos (by omega), Nat.add_sub_cancel_left, ← hij]
theorem J_choose {x y : CS} {σ : Nat → Bool} {n wg : Nat} {o o2 : Option (Nat × Nat × (Nat → Option Nat))} {vd stb : Nat → Nat} {rw : Nat → Nat → Nat} {K F S T D V : Nat → Nat} (h : Jn x σ n wg o vd stb rw K F S T D V) {f : Nat → Nat} {nv : Nat} {z i j : Nat} (hz : z < n) (hi : i < n) (hj : j < n) (hij : D i = D j) (hz1 : D z = 1) (hg : (4 * D i) + wg ≤ 100000) (hs : stp x σ (3 * D i) y) (hfb : ∀ q, q < D i → f q < xn y) (hadd : addQ n nv vd o2) (hS : ∀ τ, gd τ → ∀ q, q < D i → vl y τ (f q) = if vl x τ (rw z 0) then vl x τ (rw i q) else vl x τ (rw j q)) :
    n + 1 < 512 → Jn y σ (n + 1) (wg + (4 * D i)) o2 (up vd n nv) (up stb n 0) (up rw n f) (up K n (50)) (up F n i) (up S n j) (up T n z) (up D n (D i)) (up V n (0)) := by
  have hb := h.1
  have hx := hb.1
  have hdw := hb.2.2.2.2.2
  obtain ⟨d1, d2, -, -⟩ := hdw i hi
  refine J_new h hs hfb hadd (by omega) hg (by decide) (wf_up_n d1 d2 (fun D' hD => Or.inr (Or.inr (Or.inr (Or.inr (Or.inl ⟨rfl, hi, hj, hz, by rw [hD i hi, hD j hj, hij], (hD i hi).symm, by rw [hD z hz, hz1]⟩)))))) (Nat.two_pow_pos _) ⟨fun q => absurd q (by decide), fun q => absurd q (by omega)⟩ (fun q => absurd q (by omega)) (fun q => absurd q (by omega)) (fun _ τ hτ t ht => ?_)
  have e1 : tv x τ rw D z = (vl x τ (rw z 0)).toNat := by
    unfold tv
    rw [hz1, rn_s, Nat.pow_zero, Nat.mul_one]
    exact Nat.zero_add _
  rw [ht i hi, ht j hj, ht z hz, e1]
  show rn y τ f (D i) = if (vl x τ (rw z 0)).toNat = 1 then tv x τ rw D i else tv x τ rw D j
  cases hc : vl x τ (rw z 0)
  · rw [if_neg (by decide)]
    unfold tv
    rw [← hij]
    exact bn_congr (fun q hq => by rw [hS τ hτ q hq, hc]; rfl)
  · rw [if_pos (show (true : Bool).toNat = 1 from rfl)]
    exact bn_congr (fun q hq => by rw [hS τ hτ q hq, hc]; rfl)
theorem J_concat {x y : CS} {σ : Nat → Bool} {n wg : Nat} {o o2 : Option (Nat × Nat × (Nat → Option Nat))} {vd stb : Nat → Nat} {rw : Nat → Nat → Nat} {K F S T D V : Nat → Nat} (h : Jn x σ n wg o vd stb rw K F S T D V) {f : Nat → Nat} {nv : Nat} {i j : Nat} (hi : i < n) (hj : j < n) (hij : D i + D j ≤ 64) (hg : (D i + D j) + wg ≤ 100000) (hs : stp x σ (0) y) (hfb : ∀ q, q < D i + D j → f q < xn y) (hadd : addQ n nv vd o2) (hS : y = x ∧ ∀ q, q < D i + D j → f q = if q < D j then rw j q else rw i (q - D j)) :
    n + 1 < 512 → Jn y σ (n + 1) (wg + (D i + D j)) o2 (up vd n nv) (up stb n 0) (up rw n f) (up K n (51)) (up F n i) (up S n j) (up T n 0) (up D n (D i + D j)) (up V n (0)) := by
  have hb := h.1
  have hx := hb.1
  have hdw := hb.2.2.2.2.2
  obtain ⟨d1, d2, -, -⟩ := hdw i hi
  refine J_new h hs hfb hadd (Nat.zero_le _) hg (by decide) (wf_up_n (by omega) hij (fun D' hD => Or.inr (Or.inr (Or.inr (Or.inr (Or.inr (Or.inl ⟨rfl, hi, hj, by rw [hD i hi, hD j hj]⟩))))))) (Nat.two_pow_pos _) ⟨fun q => absurd q (by decide), fun q => absurd q (by omega)⟩ (fun q => absurd q (by omega)) (fun q => absurd q (by omega)) (fun _ τ hτ t ht => ?_)
  obtain ⟨rfl, hS⟩ := hS
  rw [ht i hi, ht j hj]
  show rn y τ f (D i + D j) = tv y τ rw D i * 2 ^ (D i + D j - D i) + tv y τ rw D j
  have e1 : rn y τ f (D j) = rn y τ (rw j) (D j) := rn_congr (fun q hq => by rw [hS _ (by omega), if_pos hq])
  have e2 : rn y τ (fun q => f (D j + q)) (D i) = rn y τ (rw i) (D i) := rn_congr (fun q hq => by rw [hS _ (by omega), if_neg (by omega), Nat.add_sub_cancel_left])
  rw [Nat.add_sub_cancel_left, Nat.add_comm (D i) (D j), rn_split, e1, e2, Nat.mul_comm, Nat.add_comm]
  rfl
theorem J_extract {x y : CS} {σ : Nat → Bool} {n wg : Nat} {o o2 : Option (Nat × Nat × (Nat → Option Nat))} {vd stb : Nat → Nat} {rw : Nat → Nat → Nat} {K F S T D V : Nat → Nat} (h : Jn x σ n wg o vd stb rw K F S T D V) {f : Nat → Nat} {nv : Nat} {i lo hh : Nat} (hi : i < n) (hlo : lo ≤ hh) (hhi : hh < D i) (hg : (hh - lo + 1) + wg ≤ 100000) (hs : stp x σ (0) y) (hfb : ∀ q, q < hh - lo + 1 → f q < xn y) (hadd : addQ n nv vd o2) (hS : y = x ∧ ∀ q, q < hh - lo + 1 → f q = rw i (lo + q)) :
    n + 1 < 512 → Jn y σ (n + 1) (wg + (hh - lo + 1)) o2 (up vd n nv) (up stb n 0) (up rw n f) (up K n (52)) (up F n i) (up S n lo) (up T n 0) (up D n (hh - lo + 1)) (up V n (0)) := by
  have hb := h.1
  have hx := hb.1
  have hdw := hb.2.2.2.2.2
  obtain ⟨d1, d2, -, -⟩ := hdw i hi
  refine J_new h hs hfb hadd (Nat.zero_le _) hg (by decide) (wf_up_n (by omega) (by omega) (fun D' hD => Or.inr (Or.inr (Or.inr (Or.inr (Or.inr (Or.inr (Or.inl ⟨rfl, hi, by rw [hD i hi]; omega⟩)))))))) (Nat.two_pow_pos _) ⟨fun q => absurd q (by decide), fun q => absurd q (by omega)⟩ (fun q => absurd q (by omega)) (fun q => absurd q (by omega)) (fun _ τ hτ t ht => ?_)
  obtain ⟨rfl, hS⟩ := hS
  rw [ht i hi]
  show rn y τ f (hh - lo + 1) = tv y τ rw D i / 2 ^ lo % 2 ^ (hh - lo + 1)
  refine (bit_eq (fun q hq => ?_)).symm
  unfold tv
  rw [Nat.testBit_div_two_pow, rn_bit _ _ _ (by omega), hS q hq, Nat.add_comm]
theorem J_extend {x y : CS} {σ : Nat → Bool} {n wg : Nat} {o o2 : Option (Nat × Nat × (Nat → Option Nat))} {vd stb : Nat → Nat} {rw : Nat → Nat → Nat} {K F S T D V : Nat → Nat} (h : Jn x σ n wg o vd stb rw K F S T D V) {f : Nat → Nat} {nv : Nat} {i bb sg : Nat} (hsg : sg ≤ 1) (hi : i < n) (hij : D i + bb ≤ 64) (hg : (D i + bb) + wg ≤ 100000) (hs : stp x σ (0) y) (hfb : ∀ q, q < D i + bb → f q < xn y) (hadd : addQ n nv vd o2) (hS : y = x ∧ ∀ q, q < D i + bb → f q = if q < D i then rw i q else if sg = 0 then 0 else rw i (D i - 1)) :
    n + 1 < 512 → Jn y σ (n + 1) (wg + (D i + bb)) o2 (up vd n nv) (up stb n 0) (up rw n f) (up K n (53 + sg)) (up F n i) (up S n 0) (up T n 0) (up D n (D i + bb)) (up V n (0)) := by
  have hb := h.1
  have hx := hb.1
  have hdw := hb.2.2.2.2.2
  obtain ⟨d1, d2, -, -⟩ := hdw i hi
  refine J_new h hs hfb hadd (Nat.zero_le _) hg (by decide) (wf_up_n (by omega) hij (fun D' hD => Or.inr (Or.inr (Or.inr (Or.inr (Or.inr (Or.inr (Or.inr ⟨by omega, by omega, hi, by rw [hD i hi]; omega⟩)))))))) (Nat.two_pow_pos _) ⟨fun q => absurd q (by decide), fun q => absurd q (by omega)⟩ (fun q => absurd q (by omega)) (fun q => absurd q (by omega)) (fun _ τ hτ t ht => ?_)
  obtain ⟨rfl, hS⟩ := hS
  rw [ht i hi]
  rcases (show sg = 0 ∨ sg = 1 by omega) with rfl | rfl
  · show rn y τ f (D i + bb) = tv y τ rw D i
    refine bn_is (Nat.lt_of_lt_of_le (rn_lt _ _ _ _) (Nat.pow_le_pow_right (by decide) (by omega))) (fun q hq => ?_)
    rw [hS q hq]
    unfold tv
    by_cases hqd : q < D i
    · rw [if_pos hqd, rn_bit _ _ _ hqd]
    · rw [if_neg hqd, if_pos rfl, vl_0 hx hτ, Nat.testBit_lt_two_pow (Nat.lt_of_lt_of_le (rn_lt _ _ _ _) (Nat.pow_le_pow_right (by decide) (by omega)))]
  · show rn y τ f (D i + bb) = bn (fun j => if j < D i then (tv y τ rw D i).testBit j else (tv y τ rw D i).testBit (D i - 1)) (D i + bb)
    refine bn_congr (fun q hq => ?_)
    rw [hS q hq]
    unfold tv
    by_cases hqd : q < D i
    · rw [if_pos hqd, if_pos hqd, rn_bit _ _ _ hqd]
    · rw [if_neg hqd, if_neg hqd, if_neg (by decide), rn_bit _ _ _ (by omega)]
