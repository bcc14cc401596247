/-! worlds with a tail of unknown length -/
theorem Wd.subL {Z : Zt} {A : Nat → Prop} {H0 H : Heap} {w1 w2 wl : va_W} {locs : List Loc} (h : Wd Z A H0 (w1 ++ wl) H locs) (is : List Nat) (hn : va_nd is = true) (hs : is.map (fun i => w1[i]?) = w2.map some) : Wd Z A H0 (w2 ++ wl) H locs := by
  have h1 := (Wd.pre h).sub is hn hs
  refine ⟨va_P.app h1.1 (suf_P h.1), va_D.app h1.2.1 (suf_D h.2.1) (fun i j p q hi hj e => ?_), h.2.2⟩
  have hi2 : (is.map (fun i => w1[i]?))[i]? = some (some p) := by rw [hs, List.getElem?_map, hi]; rfl
  rw [List.getElem?_map] at hi2
  cases hk : is[i]? with
  | none => rw [hk] at hi2; cases hi2
  | some k =>
    rw [hk] at hi2
    have hp : w1[k]? = some p := Option.some.inj hi2
    have h3 := h.2.1.1 _ _ p q (pre_at (wr := wl) hp) (suf_at (wc := w1) hj) e
    have h4 := (List.getElem?_eq_some_iff.mp hp).1
    omega
theorem vix_cl {xv : Int32} {i : Nat} (h : xv = nI i) (hi : i < 2 ^ 31) : xv.toNatClampNeg = i := by rw [h]; exact nI_clamp hi
