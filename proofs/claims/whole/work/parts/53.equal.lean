/-! rows of signals, and the model's numbers -/
theorem rn_bit (x : CS) (τ : Nat → Bool) (r : Nat → Nat) {w j : Nat} (hj : j < w) : (rn x τ r w).testBit j = vl x τ (r j) := by
  rw [rn, bn_bit, decide_eq_true hj, Bool.true_and]
theorem V2_N2 {x : CS} {σ τ : Nat → Bool} (hx : cok x σ) (hτ : gd τ) {ra rb : Nat → Nat} {w k : Nat} (hw1 : 1 ≤ w) (hk : k ≤ 12) : V2 x ra rb w k τ = N2 k (rn x τ ra w) (rn x τ rb w) w := by
  rcases (show k = 0 ∨ k = 1 ∨ k = 2 ∨ k = 3 ∨ k = 4 ∨ k = 5 ∨ k = 6 ∨ k = 7 ∨ k = 8 ∨ k = 9 ∨ k = 10 ∨ k = 11 ∨ k = 12 by omega) with rfl | rfl | rfl | rfl | rfl | rfl | rfl | rfl | rfl | rfl | rfl | rfl | rfl
  · refine Nat.eq_of_testBit_eq (fun j => ?_)
    show (bn _ w).testBit j = (rn x τ ra w &&& rn x τ rb w).testBit j
    rw [bn_bit, Nat.testBit_and, rn, rn, bn_bit, bn_bit, c_op1]
    cases decide (j < w) <;> simp
  · refine Nat.eq_of_testBit_eq (fun j => ?_)
    show (bn _ w).testBit j = (rn x τ ra w ||| rn x τ rb w).testBit j
    rw [bn_bit, Nat.testBit_or, rn, rn, bn_bit, bn_bit, c_op2]
    cases decide (j < w) <;> simp
  · refine Nat.eq_of_testBit_eq (fun j => ?_)
    show (bn _ w).testBit j = (rn x τ ra w ^^^ rn x τ rb w).testBit j
    rw [bn_bit, Nat.testBit_xor, rn, rn, bn_bit, bn_bit, c_op3]
    cases decide (j < w) <;> simp
  · rfl
  · rfl
  · rfl
  · rfl
  · rfl
  · show sdN 0 _ _ _ _ w = sdN 0 _ _ _ _ w
    rw [rn_bit x τ ra (by omega), rn_bit x τ rb (by omega)]
  · show sdN 1 _ _ _ _ w = sdN 1 _ _ _ _ w
    rw [rn_bit x τ ra (by omega), rn_bit x τ rb (by omega)]
  · refine bn_congr (fun j hj => ?_)
    generalize rn x τ rb w = B
    show vl x τ (mvd ra w B 1 0 j) = _
    rw [mvd, if_pos rfl]
    by_cases h : B ≤ j
    · rw [if_pos h, decide_eq_true h, Bool.true_and, rn_bit x τ ra (by omega)]
    · rw [if_neg h, decide_eq_false h, Bool.false_and, vl_0 hx hτ]
  · refine bn_congr (fun j hj => ?_)
    generalize rn x τ rb w = B
    show vl x τ (mvd ra w B 0 0 j) = _
    rw [mvd, if_neg (by decide)]
    by_cases h : j + B < w
    · rw [if_pos h, decide_eq_true h, Bool.true_and, rn_bit x τ ra h]
    · rw [if_neg h, decide_eq_false h, Bool.false_and, vl_0 hx hτ]
  · refine bn_congr (fun j hj => ?_)
    generalize rn x τ rb w = B
    show vl x τ (mvd ra w B 0 (ra (w - 1)) j) = _
    rw [mvd, if_neg (by decide)]
    by_cases h : j + B < w
    · rw [if_pos h, if_pos h, rn_bit x τ ra h]
    · rw [if_neg h, if_neg h, rn_bit x τ ra (by omega)]
theorem tn_val (x : CS) (τ : Nat → Bool) (r : Nat → Nat) {w : Nat} (hw1 : 1 ≤ w) : (tn x τ r w : Int) = sI (rn x τ r w) w + 2 ^ (w - 1) := by
  obtain ⟨m, rfl⟩ : ∃ m, w = m + 1 := ⟨w - 1, by omega⟩
  have h1 : tn x τ r (m + 1) = rn x τ r m + (!vl x τ (r m)).toNat * 2 ^ m := by
    rw [tn, bn_s, Nat.add_sub_cancel, if_pos rfl]
    congr 1
    exact bn_congr (fun j hj => by rw [if_neg (by omega)])
  have h3 := rn_lt x τ r m
  have e1 : ((2 : Int) ^ m) = ((2 ^ m : Nat) : Int) := by rw [Int.natCast_pow]; rfl
  have e2 : ((2 : Int) ^ (m + 1)) = 2 * ((2 ^ m : Nat) : Int) := by rw [Int.pow_succ, e1]; omega
  rw [sI, h1, rn_s, Nat.add_sub_cancel, e1, e2]
  cases vl x τ (r m)
  · rw [Bool.not_false, Bool.toNat_true, Bool.toNat_false, Nat.zero_mul, Nat.add_zero, Nat.one_mul, if_pos h3]; omega
  · rw [Bool.not_true, Bool.toNat_true, Bool.toNat_false, Nat.zero_mul, Nat.add_zero, Nat.one_mul, if_neg (by omega)]; omega
theorem VC_NC {x : CS} {τ : Nat → Bool} {ra rb : Nat → Nat} {w k : Nat} (hw1 : 1 ≤ w) (hk : k ≤ 4) : VC x ra rb w k τ = NC k (rn x τ ra w) (rn x τ rb w) w := by
  have t1 := tn_val x τ ra hw1
  have t2 := tn_val x τ rb hw1
  rcases (show k = 0 ∨ k = 1 ∨ k = 2 ∨ k = 3 ∨ k = 4 by omega) with rfl | rfl | rfl | rfl | rfl
  · rfl
  · show (!decide (rn x τ rb w ≤ rn x τ ra w)) = decide (rn x τ ra w < rn x τ rb w)
    rw [← decide_not]
    exact decide_eq_decide.mpr (by omega)
  · rfl
  · show (!decide (tn x τ rb w ≤ tn x τ ra w)) = decide (sI (rn x τ ra w) w < sI (rn x τ rb w) w)
    rw [← decide_not]
    exact decide_eq_decide.mpr (by omega)
  · show decide (tn x τ ra w ≤ tn x τ rb w) = decide (sI (rn x τ ra w) w ≤ sI (rn x τ rb w) w)
    exact decide_eq_decide.mpr (by omega)
/-! class and model, side by side -/
def tv (x : CS) (τ : Nat → Bool) (rw : Nat → Nat → Nat) (D : Nat → Nat) (v : Nat) : Nat := rn x τ (rw v) (D v)
def Jv (x : CS) (σ : Nat → Bool) (stb : Nat → Nat) (rw : Nat → Nat → Nat) (K F S T D V : Nat → Nat) (v : Nat) : Prop :=
  wfv K F S T D v ∧ V v < 2 ^ D v ∧ (stb v = 1 ↔ K v = 0) ∧ (K v = 0 → (∃ base, 2 ≤ base ∧ ∀ j, j < D v → rw v j = base + j ∧ xK x (base + j) = 0) ∧ tv x σ rw D v = V v) ∧ (K v = 1 → ∀ τ, gd τ → tv x τ rw D v = V v) ∧ (2 ≤ K v → ∀ τ, gd τ → tv x τ rw D v = NV K F S T D (tv x τ rw D) v)
def Jd (n : Nat) (rw : Nat → Nat → Nat) (K D : Nat → Nat) : Prop := ∀ u v, u < n → v < n → u ≠ v → K u = 0 → K v = 0 → ∀ i j, i < D u → j < D v → rw u i ≠ rw v j
def Jn (x : CS) (σ : Nat → Bool) (n wg : Nat) (o : Option (Nat × Nat × (Nat → Option Nat))) (vd stb : Nat → Nat) (rw : Nat → Nat → Nat) (K F S T D V : Nat → Nat) : Prop :=
  bok x σ n wg o vd stb D rw ∧ (∀ v, v < n → Jv x σ stb rw K F S T D V v) ∧ Jd n rw K D
theorem wf_F {K F S T D : Nat → Nat} {v n : Nat} (h : wfv K F S T D v) (hv : v < n) : F v < n := by
  obtain ⟨-, -, h⟩ := h
  omega
theorem wfv_up {K F S T D : Nat → Nat} {n v : Nat} (h : wfv K F S T D v) (hv : v < n) (k a b d w : Nat) : wfv (up K n k) (up F n a) (up S n b) (up T n d) (up D n w) v := by
  have hF := wf_F h hv
  have eD : ∀ i, i < n → up D n w i = D i := fun i hi => up_n _ _ (by omega)
  have eK : up K n k v = K v := up_n _ _ (by omega)
  have eF : up F n a v = F v := up_n _ _ (by omega)
  have eS : up S n b v = S v := up_n _ _ (by omega)
  have eT : up T n d v = T v := up_n _ _ (by omega)
  obtain ⟨g1, g2, g3⟩ := h
  unfold wfv
  rw [eK, eF, eS, eT, eD v hv, eD _ hF]
  refine ⟨g1, g2, ?_⟩
  rcases g3 with c | c | c | c | c | c | c | c
  · exact Or.inl c
  · exact Or.inr (Or.inl c)
  · rw [eD (S v) (by omega)]; exact Or.inr (Or.inr (Or.inl c))
  · rw [eD (S v) (by omega)]; exact Or.inr (Or.inr (Or.inr (Or.inl c)))
  · rw [eD (S v) (by omega), eD (T v) (by omega)]; exact Or.inr (Or.inr (Or.inr (Or.inr (Or.inl c))))
  · rw [eD (S v) (by omega)]; exact Or.inr (Or.inr (Or.inr (Or.inr (Or.inr (Or.inl c)))))
  · exact Or.inr (Or.inr (Or.inr (Or.inr (Or.inr (Or.inr (Or.inl c))))))
  · exact Or.inr (Or.inr (Or.inr (Or.inr (Or.inr (Or.inr (Or.inr c))))))
theorem NV_up {K F S T D t t' : Nat → Nat} {n v : Nat} (h : wfv K F S T D v) (hv : v < n) (k a b d w : Nat) (ht : ∀ i, i < n → t' i = t i) : NV (up K n k) (up F n a) (up S n b) (up T n d) (up D n w) t' v = NV K F S T D t v := by
  have hF := wf_F h hv
  have eD : ∀ i, i < n → up D n w i = D i := fun i hi => up_n _ _ (by omega)
  have eK : up K n k v = K v := up_n _ _ (by omega)
  have eF : up F n a v = F v := up_n _ _ (by omega)
  have eS : up S n b v = S v := up_n _ _ (by omega)
  have eT : up T n d v = T v := up_n _ _ (by omega)
  rw [← NV_congr (V := t') (U := t) h (fun _ => ht v hv) (fun i hi => ht i (by omega))]
  unfold NV
  rw [eK, eF, eS, eT, eD v hv, eD _ hF]
theorem J_new {x y : CS} {σ : Nat → Bool} {n wg : Nat} {o o2 : Option (Nat × Nat × (Nat → Option Nat))} {vd stb : Nat → Nat} {rw : Nat → Nat → Nat} {K F S T D V : Nat → Nat} (h : Jn x σ n wg o vd stb rw K F S T D V) {g gk k a b d w st nv val : Nat} {f : Nat → Nat}
    (hs : stp x σ gk y) (hfb : ∀ j, j < w → f j < xn y) (hadd : addQ n nv vd o2) (hgk : gk ≤ g) (hg : g + wg ≤ 100000) (hst : st ≤ 1)
    (hw : wfv (up K n k) (up F n a) (up S n b) (up T n d) (up D n w) n) (hval : val < 2 ^ w) (hstk : st = 1 ↔ k = 0)
    (h0 : k = 0 → (∃ base, xn x ≤ base ∧ ∀ j, j < w → f j = base + j ∧ xK y (base + j) = 0) ∧ rn y σ f w = val)
    (h1 : k = 1 → ∀ τ, gd τ → rn y τ f w = val)
    (h2 : 2 ≤ k → ∀ τ, gd τ → ∀ t' : Nat → Nat, (∀ i, i < n → t' i = tv x τ rw D i) → rn y τ f w = NR k (t' a) (t' b) (t' d) (D a) w b (t' n)) :
    n + 1 < 512 → Jn y σ (n + 1) (wg + g) o2 (up vd n nv) (up stb n st) (up rw n f) (up K n k) (up F n a) (up S n b) (up T n d) (up D n w) (up V n val) := by
  intro hn
  obtain ⟨hb, hv, hd⟩ := h
  obtain ⟨b1, b2, b3, b4, b5, b6⟩ := hb
  have hex := hs.2.1
  have hny := hs.2.2.1
  have hx2 := b1.1.1
  have hx3 := b1.1.2.1
  have et : ∀ (τ : Nat → Bool) (i : Nat), i < n → tv y τ (up rw n f) (up D n w) i = tv x τ rw D i := fun τ i hi => by
    unfold tv
    rw [up_n rw f (by omega), up_n D w (by omega)]
    exact rn_ex hex (fun j hj => (b6 i hi).2.2.2 j hj)
  have en : ∀ τ : Nat → Bool, tv y τ (up rw n f) (up D n w) n = rn y τ f w := fun τ => by
    unfold tv
    rw [up_s, up_s]
  refine ⟨⟨hs.1, hadd, by omega, by omega, hn, fun i hi => ?_⟩, fun v hvn => ?_, fun u v hu hv2 huv hk0 hk1 i j hi hj => ?_⟩
  · by_cases e : i = n
    · subst e
      rw [up_s, up_s, up_s]
      have hw1 := hw.1
      have hw2 := hw.2.1
      rw [up_s] at hw1 hw2
      exact ⟨hw1, hw2, hst, hfb⟩
    · rw [up_n _ _ e, up_n _ _ e, up_n _ _ e]
      obtain ⟨g1, g2, g3, g4⟩ := b6 i (by omega)
      exact ⟨g1, g2, g3, fun j hj => by have := g4 j hj; omega⟩
  · by_cases e : v = n
    · subst e
      unfold Jv
      rw [up_s V, up_s stb, en σ, up_s K, up_s rw, up_s D]
      refine ⟨hw, hval, hstk, fun q => ?_, fun q τ hτ => ?_, fun q τ hτ => ?_⟩
      · obtain ⟨⟨base, q1, q2⟩, q3⟩ := h0 q
        exact ⟨⟨base, by omega, q2⟩, q3⟩
      · rw [en τ]; exact h1 q τ hτ
      · have ha : a < v := by
          have := hw.2.2
          rw [up_s, up_s] at this
          omega
        rw [en τ, h2 q τ hτ (tv y τ (up rw v f) (up D v w)) (et τ)]
        unfold NV
        rw [up_s, up_s, up_s, up_s, up_s, up_n D w (show a ≠ v by omega)]
    · have hv3 : v < n := by omega
      obtain ⟨j1, j2, j3, j4, j5, j6⟩ := hv v hv3
      unfold Jv
      rw [up_n V _ e, up_n stb _ e, et σ v hv3, up_n K _ e, up_n rw _ e, up_n D _ e]
      refine ⟨wfv_up j1 hv3 k a b d w, j2, j3, fun q => ?_, fun q τ hτ => ?_, fun q τ hτ => ?_⟩
      · obtain ⟨⟨base, q1, q2⟩, q3⟩ := j4 q
        refine ⟨⟨base, q1, fun j hj => ⟨(q2 j hj).1, ?_⟩⟩, q3⟩
        have hlt := (b6 v hv3).2.2.2 j hj
        rw [(q2 j hj).1] at hlt
        rw [(hex.2 (base + j) hlt).1]
        exact (q2 j hj).2
      · rw [et τ v hv3]; exact j5 q τ hτ
      · rw [et τ v hv3, j6 q τ hτ]
        exact (NV_up j1 hv3 k a b d w (et τ)).symm
  · by_cases e1 : u = n
    · subst e1
      have e2 : v ≠ u := fun q => huv q.symm
      rw [up_s] at hk0 hi
      rw [up_n K _ e2] at hk1
      rw [up_n D _ e2] at hj
      rw [up_s, up_n rw _ e2]
      obtain ⟨⟨base, q1, q2⟩, -⟩ := h0 hk0
      rw [(q2 i hi).1]
      have := (b6 v (by omega)).2.2.2 j hj
      omega
    · by_cases e2 : v = n
      · subst e2
        rw [up_s] at hk1 hj
        rw [up_n K _ e1] at hk0
        rw [up_n D _ e1] at hi
        rw [up_s, up_n rw _ e1]
        obtain ⟨⟨base, q1, q2⟩, -⟩ := h0 hk1
        rw [(q2 j hj).1]
        have := (b6 u (by omega)).2.2.2 i hi
        omega
      · rw [up_n K _ e1] at hk0
        rw [up_n K _ e2] at hk1
        rw [up_n D _ e1] at hi
        rw [up_n D _ e2] at hj
        rw [up_n rw _ e1, up_n rw _ e2]
        exact hd u v (by omega) (by omega) huv hk0 hk1 i j hi hj
theorem J_set {x : CS} {σ : Nat → Bool} {n wg : Nat} {o : Option (Nat × Nat × (Nat → Option Nat))} {vd stb : Nat → Nat} {rw : Nat → Nat → Nat} {K F S T D V : Nat → Nat} (h : Jn x σ n wg o vd stb rw K F S T D V) {i base U : Nat} {S2 : Nat → Nat} {t2 : Nat} (hi : i < n) (hK0 : K i = 0) (hrow : ∀ j, j < D i → rw i j = base + j) (hc : cok (xset x S2 t2) (sset σ base (D i) U)) :
    Jn (xset x S2 t2) (sset σ base (D i) U) n wg o vd stb rw K F S T D (up V i (U % 2 ^ D i)) := by
  obtain ⟨hb, hv, hd⟩ := h
  obtain ⟨b1, b2, b3, b4, b5, b6⟩ := hb
  refine ⟨⟨hc, b2, b3, b4, b5, b6⟩, fun v hvn => ?_, hd⟩
  obtain ⟨j1, j2, j3, j4, j5, j6⟩ := hv v hvn
  refine ⟨j1, ?_, j3, fun q => ?_, fun q τ hτ => ?_, fun q τ hτ => j6 q τ hτ⟩
  · by_cases e : v = i
    · rw [e, up_s]; exact Nat.mod_lt _ (Nat.two_pow_pos _)
    · rw [up_n _ _ e]; exact j2
  · obtain ⟨⟨bs, q1, q2⟩, q3⟩ := j4 q
    refine ⟨⟨bs, q1, q2⟩, ?_⟩
    by_cases e : v = i
    · subst e
      rw [up_s]
      show bn (fun j => cv (xK x) (xL x) (xR x) (sset σ base (D v) U) (rw v j)) (D v) = U % 2 ^ D v
      rw [← bn_of]
      refine bn_congr (fun j hj => ?_)
      have hb0 : xK x (rw v j) = 0 := by rw [(q2 j hj).1]; exact (q2 j hj).2
      rw [cv_src hb0, hrow j hj, sset, if_pos (by omega), Nat.add_sub_cancel_left]
    · rw [up_n _ _ e, ← q3]
      show bn (fun j => cv (xK x) (xL x) (xR x) (sset σ base (D i) U) (rw v j)) (D v) = bn (fun j => cv (xK x) (xL x) (xR x) σ (rw v j)) (D v)
      refine bn_congr (fun j hj => ?_)
      have hb0 : xK x (rw v j) = 0 := by rw [(q2 j hj).1]; exact (q2 j hj).2
      rw [cv_src hb0, cv_src hb0, sset, if_neg (fun z => ?_)]
      have hne := hd v i hvn hi e q hK0 j (rw v j - base) hj (by omega)
      rw [hrow _ (by omega)] at hne
      omega
  · have e : v ≠ i := fun z => by rw [z, hK0] at q; cases q
    rw [up_n _ _ e]
    exact j5 q τ hτ
theorem J_val {x : CS} {σ : Nat → Bool} {n wg : Nat} {o : Option (Nat × Nat × (Nat → Option Nat))} {vd stb : Nat → Nat} {rw : Nat → Nat → Nat} {K F S T D V V2 : Nat → Nat} (h : Jn x σ n wg o vd stb rw K F S T D V) {S2 : Nat → Nat} {t2 : Nat} (hc : cok (xset x S2 t2) σ) (hV : ∀ v, v < n → V2 v = tv x σ rw D v) :
    Jn (xset x S2 t2) σ n wg o vd stb rw K F S T D V2 := by
  obtain ⟨hb, hv, hd⟩ := h
  obtain ⟨b1, b2, b3, b4, b5, b6⟩ := hb
  refine ⟨⟨hc, b2, b3, b4, b5, b6⟩, fun v hvn => ?_, hd⟩
  obtain ⟨j1, j2, j3, j4, j5, j6⟩ := hv v hvn
  have hgσ : gd σ := b1.2.2.2.1
  refine ⟨j1, by rw [hV v hvn]; exact rn_lt _ _ _ _, j3, fun q => ⟨(j4 q).1, (hV v hvn).symm⟩, fun q τ hτ => ?_, fun q τ hτ => j6 q τ hτ⟩
  rw [hV v hvn, j5 q σ hgσ]
  exact j5 q τ hτ
theorem J_ht {x : CS} {σ : Nat → Bool} {n wg : Nat} {o : Option (Nat × Nat × (Nat → Option Nat))} {vd stb : Nat → Nat} {rw : Nat → Nat → Nat} {K F S T D V : Nat → Nat} (h : Jn x σ n wg o vd stb rw K F S T D V) :
    ∀ i, i < n → tv x σ rw D i < 2 ^ D i ∧ (K i ≤ 1 → V i = tv x σ rw D i) ∧ (2 ≤ K i → tv x σ rw D i = NV K F S T D (tv x σ rw D) i) := by
  obtain ⟨hb, hv, hd⟩ := h
  have hgσ : gd σ := hb.1.2.2.2.1
  intro i hi
  obtain ⟨j1, j2, j3, j4, j5, j6⟩ := hv i hi
  refine ⟨rn_lt _ _ _ _, fun q => ?_, fun q => j6 q σ hgσ⟩
  rcases (show K i = 0 ∨ K i = 1 by omega) with e | e
  · exact (j4 e).2.symm
  · exact (j5 e σ hgσ).symm
