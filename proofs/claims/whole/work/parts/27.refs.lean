/-! arrays of references; the list of vectors -/
abbrev er (Z : Zt) (a n : Nat) (f : Nat → Option Nat) : Nat × va_E := (a, .inl (Z.2.2.2.2.1, n, .inr (.inr (.inr (.inr f)))))
abbrev rE (Z : Zt) : Nat := Z.2.2.2.2.2.1
theorem same_mod {args : Array Value} {s : State} (hts : ∀ w ∈ TB, w.before args s = true) : ∀ x, s.fieldFound? "java/util/AbstractList" "modCount" "I" = some x → s.fieldFound? "java/util/ArrayList" "modCount" "I" = some x := fun x hx => by
  have h := hts _ tb_89
  cases hr : s.fieldFound? "java/util/ArrayList" "modCount" "I" with
  | none => simp [Cond.before, Cond.holds, Cond.value, hr] at h
  | some y =>
    obtain ⟨c, k, i, f⟩ := y
    exact (Cond.sameField_spec hr h).symm.trans hx
section Rr
variable {p : Program} {l : Launch} {e : Env} {R : Room} {s : State} {m : MethodId} {args : Array Value} {below : List Frame} {meth : Method} {c : Code} {H : Heap} {locs : List Loc} {cells slots : Nat} {Q : State → Prop}
variable {cc : ByteArray} {pc : Nat} {ls : Array Slot} {rest : List Value} {Z : Zt} {A : Nat → Prop} {a : Nat} {ws : va_W} {H0 : Heap} {own : String}
theorem r_lenr (hx : p.tables.exec = Jvm.exec) (hb : c.code = cc) (hK : zK Z s) {n : Nat} {f : Nat → Option Nat} (hat : zat Z (er Z a n f) H) (hdg : decode cc pc = .ok (.arraylength, 1))
    (kk : W p l e R s m args below meth c H locs cells slots Q (F0 m (pc + 1) ls (.int (nI n) :: rest))) : W p l e R s m args below meth c H locs cells slots Q (F0 m pc ls (.ref a :: rest)) :=
  va_alen (D := Z.1) (ws := [er Z a n f]) hx hb hK (zat_one hat) 0 3 rfl rfl rfl hdg kk
theorem r_aald (hx : p.tables.exec = Jvm.exec) (hb : c.code = cc) (hK : zK Z s) {n i y : Nat} {f : Nat → Option Nat} (hat : zat Z (er Z a n f) H) (hi : i < n) (hn : n < 2 ^ 31) (hf : f i = some y) (hdg : decode cc pc = .ok (.aaload, 1))
    (kk : W p l e R s m args below meth c H locs cells slots Q (F0 m (pc + 1) ls (.ref y :: rest))) : W p l e R s m args below meth c H locs cells slots Q (F0 m pc ls (.int (nI i) :: .ref a :: rest)) := by
  refine va_aldq (D := Z.1) (ws := [er Z a n f]) hx hb hK (zat_one hat) 0 3 rfl rfl (vp_in_nI hi hn) hdg ?_
  rw [nI_clamp (by omega), hf]
  exact kk
theorem vec_any (hK : zK Z s) (hGv : GSv Z s) {v : Nat} {fs : List Value} (hat : zat Z (eo v 2 fs) H) : va_Any "java/lang/Object" s H v := by
  refine va_rAny (ws := [eo v 2 fs]) (q0 := 0) (ci := 2) (r := (RX2, TX2, 2)) hK (zat_one hat) rfl rfl (fun comp c0 h1 h2 => ?_)
  obtain ⟨c1, t0, f1, f2, f3⟩ := Cond.castable_spec (va_Nw.use (A := #[]) rfl (hGv.1 (RX2, "java/lang/Object") (by simp [nw_cast])))
  cases h2.symm.trans f1
  cases h1.symm.trans f2
  exact f3
theorem r_aast (hx : p.tables.exec = Jvm.exec) (hb : c.code = cc) (hK : zK Z s) (hGv : GSv Z s) (hW : Wd Z A H0 ws H locs) (q0 : Nat) {n i v : Nat} {fs : List Value} {f : Nat → Option Nat} (he : ws[q0]? = some (er Z a n f)) (hat : zat Z (eo v 2 fs) H) (hi : i < n) (hn : n < 2 ^ 31) (hdg : decode cc pc = .ok (.aastore, 1))
    (kk : ∀ (H1 : Heap) (locs1 : List Loc), Wd Z A H0 (ws.set q0 (er Z a n (up f i (some v)))) H1 locs1 → W p l e R s m args below meth c H1 locs1 cells slots Q (F0 m (pc + 1) ls rest)) : W p l e R s m args below meth c H locs cells slots Q (F0 m pc ls (.ref v :: .int (nI i) :: .ref a :: rest)) := by
  refine va_astqM (D := Z.1) hx hb hK hW.1 hW.2.1 hW.2.2 q0 3 he rfl (vec_any hK hGv hat) (vp_in_nI hi hn) hdg (fun H1 L1 h1 h2 h3 => kk H1 L1 ?_)
  rw [nI_clamp (by omega)] at h1 h2
  exact ⟨h1, h2, h3⟩
theorem r_newr (hx : p.tables.exec = Jvm.exec) (hb : c.code = cc) (hts : ∀ w ∈ TB, w.before args s = true) (hown : s.vm.findClass own = some m.cls) (hK : zK Z s) (hGv : GSv Z s) (hW : Wd Z A H0 ws H locs) (hA : ∀ q, H0.size ≤ q → A q) {idx n : Nat} (h1 : Cond.classLink own idx "java/lang/Object" ∈ TB) (hn : n ≤ 1000000) (hcells : cells + 1 ≤ R.cells) (hslots : slots + n ≤ R.slots) (hdg : decode cc pc = .ok (.anewarray idx, 3))
    (kk : ∀ (q : Nat) (H1 : Heap), Wd Z A H0 (ws ++ [er Z q n (fun _ => none)]) H1 locs → W p l e R s m args below meth c H1 locs (cells + 1) (slots + n) Q (F0 m (pc + 3) ls (.ref q :: rest))) : W p l e R s m args below meth c H locs cells slots Q (F0 m pc ls (.int (nI n) :: rest)) := by
  refine va_newq (D := Z.1) hx hb hown (hts _ h1) hGv.2.2.2.2 hK hW.1 hW.2.1 hW.2.2 hA (nI_pos (by omega)) (nI_clamp (by omega)) (by omega) hcells hslots hdg (fun q cA H1 hK1 g1 g2 g3 => ?_)
  have hcA : cA = Z.2.2.2.2.1 := by
    obtain ⟨-, -, -, -, -, e1⟩ := (hK1.2 4 (cA, .object "java/lang/Object") rfl).2
    obtain ⟨-, -, -, -, -, e2⟩ := (hK.2 3 _ rfl).2
    exact Option.some.inj (e1.symm.trans e2)
  subst hcA
  exact kk q H1 ⟨g1, g2, g3⟩
theorem r_copyr (hx : p.tables.exec = Jvm.exec) (hb : c.code = cc) {nL : Nat} {lv : List (Nat × Value)} (hml : c.maxLocals = nL) (hl : lv_has ls nL lv) (hown : s.vm.findClass own = some m.cls) (hts : ∀ w ∈ TB, w.before args s = true) (hK : zK Z s) (hGv : GSv Z s) (hW : Wd Z A H0 ws H locs) {idx : Nat} (w1 : Cond.methodLink own idx arraycopyName ∈ TB) {a0 n0 n1 : Nat} {f g : Nat → Option Nat} (q0 q1 : Nat) (h0 : ws[q0]? = some (er Z a0 n0 f)) (he : ws[q1]? = some (er Z a n1 g)) {n : Nat} (h4 : n ≤ n0) (h5 : n ≤ n1) (hb0 : n0 < 2 ^ 31) (hel : ∀ i, i < n → ∀ y, f i = some y → ∃ fs, zat Z (eo y 2 fs) H) (hfr : 1 ≤ R.frames) (hlo : (rest.map fun v => v.category).sum + (nativeFrameWords "java/lang/System" "arraycopy" 5 + 11) ≤ R.locals) (hdg : decode cc pc = .ok (.invokestatic idx, 3))
    (kk : ∀ (H1 : Heap) (locs1 : List Loc), Wd Z A H0 (ws.set q1 (er Z a n1 (va_cpy f g 0 0 n))) H1 locs1 → W p l e R s m args below meth c H1 locs1 cells slots Q (F0 m (pc + 3) ls rest)) : W p l e R s m args below meth c H locs cells slots Q (F0 m pc ls (.int (nI n) :: .int (nI 0) :: .ref a :: .int (nI 0) :: .ref a0 :: rest)) := by
  have c0 : (nI 0).toNatClampNeg = 0 := by decide
  have c3 : (nI n).toNatClampNeg = n := nI_clamp (by omega)
  refine va_copyM (D := Z.1) hx hb (hml.trans hl.1.symm) hown (hts _ w1) (hts _ tb_245) (hts _ tb_244) (hts _ tb_System) hK hW.1 hW.2.1 hW.2.2 q0 q1 3 3 h0 he rfl rfl (by decide) (by decide) (nI_pos (by omega)) (by rw [c0, c3]; omega) (by rw [c0, c3]; omega) (fun i hi y hy => ?_) hfr hlo hdg (fun H1 L1 h1 h2 h3 => kk H1 L1 ?_)
  · rw [c3] at hi
    rw [c0, Nat.zero_add] at hy
    obtain ⟨fs, hfs⟩ := hel i hi y hy
    exact vec_any hK hGv hfs
  · rw [c0, c3] at h1 h2
    exact ⟨h1, h2, h3⟩
end Rr
