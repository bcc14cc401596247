/-! rows of the library's members; Arrays.copyOf of ints -/
theorem inc1 (k : Nat) : nI k + Int32.ofInt 1 = nI (k + 1) := nI_1 k
theorem dec1 {k : Nat} (h : 0 < k) : nI k + Int32.ofInt (-1) = nI (k - 1) := sb_m1 h
theorem tb_min : Cond.code Lib.Math.min.name Lib.Math.min.code 2 (some .int) ∈ TB := TB_of 242 (by decide +kernel) (by decide +kernel)
theorem tb_max : Cond.code Lib.Math.max.name Lib.Math.max.code 2 (some .int) ∈ TB := TB_of 286 (by decide +kernel) (by decide +kernel)
theorem tb_Math : Cond.initialized "java/lang/Math" ∈ TB := by decide +kernel
theorem tb_System : Cond.initialized "java/lang/System" ∈ TB := by decide +kernel
section Jd
variable {p : Program} {l : Launch} {e : Env} {R : Room} {s : State} {m : MethodId} {args : Array Value} {below : List Frame} {meth : Method} {c : Code} {H : Heap} {locs : List Loc} {cells slots : Nat} {Q : State → Prop}
variable {cc : ByteArray} {pc : Nat} {ls : Array Slot} {rest : List Value} {Z : Zt} {A : Nat → Prop} {a : Nat} {ws : va_W} {H0 : Heap} {own : String}
theorem n_min (hx : p.tables.exec = Jvm.exec) (hb : c.code = cc) {nL : Nat} {lv : List (Nat × Value)} (hml : c.maxLocals = nL) (hl : lv_has ls nL lv) (hown : s.vm.findClass own = some m.cls) (hts : ∀ w ∈ TB, w.before args s = true) {idx : Nat} (w1 : Cond.methodLink own idx yJ9_min_7cf53 ∈ TB) (hfr : 1 ≤ R.frames) (hlo : (rest.map fun v => v.category).sum + 13 ≤ R.locals) (hc : cells ≤ R.cells) (hs : slots ≤ R.slots) {x y : Nat} (hxb : x < 2 ^ 31) (hyb : y < 2 ^ 31) (hdg : decode cc pc = .ok (.invokestatic idx, 3))
    (kk : W p l e R s m args below meth c H locs cells slots Q (F0 m (pc + 3) ls (.int (nI (min x y)) :: rest))) : W p l e R s m args below meth c H locs cells slots Q (F0 m pc ls (.int (nI y) :: .int (nI x) :: rest)) := by
  refine va_mmin hx hb (hml.trans hl.1.symm) hown (hts _ w1) (hts _ tb_241) (hts _ tb_Math) (hts _ tb_min) hfr hlo hc hs hdg ?_
  have e : (if nI y < nI x then nI y else nI x) = nI (min x y) := by
    by_cases h : y < x
    · rw [if_pos (nI_lt h hxb), Nat.min_eq_right (Nat.le_of_lt h)]
    · rw [if_neg (nI_nlt (by omega) hyb), Nat.min_eq_left (by omega)]
  rw [e]
  exact kk
theorem n_max (hx : p.tables.exec = Jvm.exec) (hb : c.code = cc) {nL : Nat} {lv : List (Nat × Value)} (hml : c.maxLocals = nL) (hl : lv_has ls nL lv) (hown : s.vm.findClass own = some m.cls) (hts : ∀ w ∈ TB, w.before args s = true) {idx : Nat} (w1 : Cond.methodLink own idx yJ9_max_7cf53 ∈ TB) (hfr : 1 ≤ R.frames) (hlo : (rest.map fun v => v.category).sum + 13 ≤ R.locals) (hc : cells ≤ R.cells) (hs : slots ≤ R.slots) {x y : Nat} (hxb : x < 2 ^ 31) (hyb : y < 2 ^ 31) (hdg : decode cc pc = .ok (.invokestatic idx, 3))
    (kk : W p l e R s m args below meth c H locs cells slots Q (F0 m (pc + 3) ls (.int (nI (max x y)) :: rest))) : W p l e R s m args below meth c H locs cells slots Q (F0 m pc ls (.int (nI y) :: .int (nI x) :: rest)) := by
  refine va_mmax hx hb (hml.trans hl.1.symm) hown (hts _ w1) (hts _ tb_285) (hts _ tb_Math) (hts _ tb_max) hfr hlo hc hs hdg ?_
  have e : (if nI x < nI y then nI y else nI x) = nI (max x y) := by
    by_cases h : x < y
    · rw [if_pos (nI_lt h hyb), Nat.max_eq_right (Nat.le_of_lt h)]
    · rw [if_neg (nI_nlt (by omega) hxb), Nat.max_eq_left (by omega)]
  rw [e]
  exact kk
theorem cpy_nat (f g : Nat → Nat) (sp dp n : Nat) : va_cpy (fun j => nI (f j)) (fun j => nI (g j)) sp dp n = fun j => nI (va_cpy f g sp dp n j) := by
  funext k
  simp only [va_cpy]
  by_cases h : dp ≤ k ∧ k < dp + n
  · rw [if_pos h, if_pos h]
  · rw [if_neg h, if_neg h]
/-- System.arraycopy into an array of ours, from any that is there -/
theorem r_copy (hx : p.tables.exec = Jvm.exec) (hb : c.code = cc) {nL : Nat} {lv : List (Nat × Value)} (hml : c.maxLocals = nL) (hl : lv_has ls nL lv) (hown : s.vm.findClass own = some m.cls) (hts : ∀ w ∈ TB, w.before args s = true) (hK : zK Z s) (hW : Wd Z A H0 ws H locs) {idx : Nat} (w1 : Cond.methodLink own idx arraycopyName ∈ TB) {a0 n0 n1 : Nat} {f g : Nat → Nat} (hsrc : zat Z (ea Z a0 n0 f) H) (q1 : Nat) (he : ws[q1]? = some (ea Z a n1 g)) {sp dp n : Nat} (h4 : sp + n ≤ n0) (h5 : dp + n ≤ n1) (hb0 : n0 < 2 ^ 31) (hb1 : n1 < 2 ^ 31) (hfr : 1 ≤ R.frames) (hlo : (rest.map fun v => v.category).sum + (nativeFrameWords "java/lang/System" "arraycopy" 5 + 11) ≤ R.locals) (hdg : decode cc pc = .ok (.invokestatic idx, 3))
    (kk : ∀ (H1 : Heap) (locs1 : List Loc), Wd Z A H0 (ws.set q1 (ea Z a n1 (va_cpy f g sp dp n))) H1 locs1 → W p l e R s m args below meth c H1 locs1 cells slots Q (F0 m (pc + 3) ls rest)) : W p l e R s m args below meth c H locs cells slots Q (F0 m pc ls (.int (nI n) :: .int (nI dp) :: .ref a :: .int (nI sp) :: .ref a0 :: rest)) := by
  intro T hT X
  have hc0 : H[a0]? = some (vp_cell Z.2.1 (n0, .inl (fun j => nI (f j)))) := hsrc
  have hc1 : H[a]? = some (vp_cell Z.2.1 (n1, .inl (fun j => nI (g j)))) := hW.1 q1 _ he
  obtain ⟨-, k0, hk0, cm0, hkk0⟩ := (hK.2 0 _ rfl).1 n0 (fun j => .int (nI (f j)))
  have t1 : (nI sp).toInt = (sp : Int) := nI_toInt (by omega)
  have t2 : (nI dp).toInt = (dp : Int) := nI_toInt (by omega)
  have t3 : (nI n).toInt = (n : Int) := nI_toInt (by omega)
  have c1 : (nI sp).toNatClampNeg = sp := nI_clamp (by omega)
  have c2 : (nI dp).toNatClampNeg = dp := nI_clamp (by omega)
  have c3 : (nI n).toNatClampNeg = n := nI_clamp (by omega)
  obtain ⟨vm', X', step⟩ := X.arraycopy hx hown (hts _ w1) (hts _ tb_245) (hts _ tb_244) (hts _ tb_System) (src := a0) (dst := a) (cs := vp_cell Z.2.1 (n0, .inl (fun j => nI (f j)))) (cd := vp_cell Z.2.1 (n1, .inl (fun j => nI (g j)))) (srcPos := nI sp) (destPos := nI dp) (n := nI n) (by rw [hT]; exact hc0) (by rw [hT]; exact hc1)
    (fun _ h => by cases h) (fun _ h => by cases h) (fun h => by cases h) (fun h => by cases h) hk0 hk0 hkk0 hkk0 (by simp [refKind]) (nI_pos (by omega)) (nI_pos (by omega)) (nI_pos (by omega))
    (by rw [t1, t3]; show ¬ _ > ((arrV Z.2.1 n0 (fun j => .int (nI (f j)))).slots.size : Int); rw [arrV_size]; omega)
    (by rw [t2, t3]; show ¬ _ > ((arrV Z.2.1 n1 (fun j => .int (nI (g j)))).slots.size : Int); rw [arrV_size]; omega)
    (fun vm₁ _ i hi => by
      rw [c3] at hi
      rw [c1]
      have e : (vp_cell Z.2.1 (n0, .inl (fun j => nI (f j)))).slots.getD (sp + i) .null = .int (nI (f (sp + i))) := by
        show (arrV Z.2.1 n0 (fun j => .int (nI (f j)))).slots.getD _ _ = _
        rw [Array.getD_eq_getD_getElem?, arrV_read _ _ (by omega)]
        rfl
      rw [e]
      exact ⟨rfl, trivial⟩)
    (g := F0 m pc ls (.int (nI n) :: .int (nI dp) :: .ref a :: .int (nI sp) :: .ref a0 :: rest)) rfl (hl.1.trans hml.symm) (rest := rest) rfl (by rw [hb]; exact hdg) hfr (by show 2 * 0 + _ + _ ≤ _; omega)
  have e1 : copied (vp_cell Z.2.1 (n0, .inl (fun j => nI (f j)))) (vp_cell Z.2.1 (n1, .inl (fun j => nI (g j)))) (nI sp) (nI dp) (nI n) = vp_cell Z.2.1 (n1, .inl (fun j => nI (va_cpy f g sp dp n j))) := by
    have h := va_copied (fun z => Value.int z) Z.2.1 Z.2.1 (n0 := n0) (n1 := n1) (sp := sp) (dp := dp) (n := n) (fun j => nI (f j)) (fun j => nI (g j)) h4
    rw [cpy_nat] at h
    show (arrV Z.2.1 n1 (fun j => .int (nI (g j)))).storeRun (nI dp).toNatClampNeg ((arrV Z.2.1 n0 (fun j => .int (nI (f j)))).stretch (nI sp).toNatClampNeg (nI n).toNatClampNeg) = _
    rw [c1, c2, c3]
    exact h
  rw [e1] at X' step
  generalize hC : vp_cell Z.2.1 (n1, .inl (fun j => nI (va_cpy f g sp dp n j))) = C1 at X' step
  have hlt : a < H.size := (Array.getElem?_eq_some_iff.mp hc1).1
  have hheap : ((T.setVm vm').setCell a C1).heap = H.setIfInBounds a C1 := by rw [← hT]; rfl
  have oq : ∀ q : Nat, q ≠ a → (H.setIfInBounds a C1)[q]? = H[q]? := fun q hq => by simp [Array.getElem?_setIfInBounds, Ne.symm hq]
  obtain ⟨t, a1, b1⟩ := kk _ _ ⟨hW.1.set hW.2.1 he (show (H.setIfInBounds a C1)[a]? = some (vp_cell _ _) by rw [hC]; simp [Array.getElem?_setIfInBounds, hlt]) oq, hW.2.1.set he, by simp; exact hW.2.2.1, fun q g1 g2 => by
      rw [oq q (fun e => g2 (by rw [e]; exact hW.2.1.2 q1 _ he))]
      exact hW.2.2.2.1 q g1 g2, fun q hq => by
      rcases List.mem_append.mp hq with h | h
      · exact hW.2.2.2.2 q h
      · obtain ⟨z, -, hz⟩ := List.mem_map.mp h
        rw [← hz]
        exact hW.2.1.2 q1 _ he⟩ _ hheap X'
  exact ⟨t, step t a1, b1⟩
/-- clone() of an int array, with an empty world -/
theorem r_clone (hx : p.tables.exec = Jvm.exec) (hb : c.code = cc) {nL : Nat} {lv : List (Nat × Value)} (hml : c.maxLocals = nL) (hl : lv_has ls nL lv) (hown : s.vm.findClass RJ7 = some m.cls) (hts : ∀ w ∈ TB, w.before args s = true) (hK : zK Z s) (hGv : GSv Z s) (hW : Wd Z A H0 [] H locs) (hA : ∀ q, H0.size ≤ q → A q) {n : Nat} {f : Nat → Nat} (hsrc : zat Z (ea Z a n f) H) (hfr : 1 ≤ R.frames) (hlo : (rest.map fun v => v.category).sum + 14 ≤ R.locals) (hcells : cells + 1 ≤ R.cells) (hslots : slots + n ≤ R.slots) (hdg : decode cc pc = .ok (.invokevirtual 316, 3))
    (kk : ∀ (q : Nat) (H1 : Heap), Wd Z A H0 [ea Z q n f] H1 locs → W p l e R s m args below meth c H1 locs (cells + 1) (slots + n) Q (F0 m (pc + 3) ls (.ref q :: rest))) : W p l e R s m args below meth c H locs cells slots Q (F0 m pc ls (.ref a :: rest)) := by
  have hD : va_D (fun q => A q ∨ q = a) [ea Z a n f] := ⟨fun i j x y hi hj _ => by
    have h1 := (List.getElem?_eq_some_iff.mp hi).1
    have h2 := (List.getElem?_eq_some_iff.mp hj).1
    simp only [List.length_cons, List.length_nil] at h1 h2
    omega, fun k q hk => by
    have h1 := (List.getElem?_eq_some_iff.mp hk).1
    simp only [List.length_cons, List.length_nil] at h1
    rw [show k = 0 by omega] at hk
    cases hk
    exact Or.inr rfl⟩
  refine va_clone (D := Z.1) (A := fun q => A q ∨ q = a) (ws := [ea Z a n f]) (H0 := H0) hx hb (hml.trans hl.1.symm) hown (hts _ tb_233) (hts _ tb_234) (hts _ tb_235) (hts _ tb_236) (hts _ tb_237) (hGv.1 ("[I", "java/lang/Cloneable") (by simp [nw_cast])) hK (zat_one hsrc) hD ⟨hW.2.2.1, fun q h1 h2 => hW.2.2.2.1 q h1 (fun z => h2 (Or.inl z)), fun q hq => Or.inl (hW.2.2.2.2 q hq)⟩ (fun q h => Or.inl (hA q h)) 0 0 rfl rfl (va_nm_int (hK.2 0 _ rfl).2) (fun i v hv => va_fit (fun _ _ => rfl) i v hv) hfr hlo hcells hslots hdg (fun q H1 _ hP1 hD1 hS1 => kk q H1 ⟨zat_one (hP1 1 _ rfl), ⟨fun i j x y hi hj _ => ?_, fun k x hk => ?_⟩, hS1.1, fun x h1 h2 => ?_, hW.2.2.2.2⟩)
  · have h1 := (List.getElem?_eq_some_iff.mp hi).1
    have h2 := (List.getElem?_eq_some_iff.mp hj).1
    simp only [List.length_cons, List.length_nil] at h1 h2
    omega
  · have h1 := (List.getElem?_eq_some_iff.mp hk).1
    simp only [List.length_cons, List.length_nil] at h1
    rw [show k = 0 by omega] at hk
    cases hk
    rcases hD1.2 1 _ rfl with h | h
    · exact h
    · exact absurd (hD1.1 1 0 _ _ rfl rfl h) (by decide)
  · by_cases hxa : x = a
    · subst hxa
      have g1 : H1[x]? = some (vp_cell Z.2.1 (n, .inl (fun j => nI (f j)))) := hP1 0 _ rfl
      have g2 : H[x]? = some (vp_cell Z.2.1 (n, .inl (fun j => nI (f j)))) := hsrc
      rw [g1, ← g2]
      exact hW.2.2.2.1 x h1 h2
    · exact hS1.2.1 x h1 (fun z => z.elim h2 hxa)
end Jd
