/-! the classes whose objects the worlds hold; numbers that are naturals; cells by nature -/
abbrev classes : List vw_C := [(RX0, TX0, 6), (RX1, TX1, 1), (RX2, TX2, 2), (RX3, TX3, 4), (RX4, TX4, 9), (RJx4a65c, TJx4a65c, 3)]
theorem in_X0 : ∀ w ∈ u_ws RX0 TX0 6, w ∈ TB := by decide +kernel
theorem in_X1 : ∀ w ∈ u_ws RX1 TX1 1, w ∈ TB := by decide +kernel
theorem in_X2 : ∀ w ∈ u_ws RX2 TX2 2, w ∈ TB := by decide +kernel
theorem in_X3 : ∀ w ∈ u_ws RX3 TX3 4, w ∈ TB := by decide +kernel
theorem in_X4 : ∀ w ∈ u_ws RX4 TX4 9, w ∈ TB := by decide +kernel
theorem in_J : ∀ w ∈ u_ws RJx4a65c TJx4a65c 3, w ∈ TB := by decide +kernel
/-- where the classes and array classes are: places of fields, int[], long[], byte[], Object[]; ArrayList's empty array; the class object of Object[] -/
abbrev Zt : Type := va_G × ClassId × ClassId × ClassId × ClassId × Nat × Nat
abbrev ztys (Z : Zt) : List (ClassId × FieldType) := [(Z.2.1, .int), (Z.2.2.1, .long), (Z.2.2.2.1, .byte), (Z.2.2.2.2.1, .object "java/lang/Object")]
abbrev zK (Z : Zt) (U : State) : Prop := va_K Z.1 classes (ztys Z) U
abbrev zat (Z : Zt) (q : Nat × va_E) (H : Heap) : Prop := va_at Z.1 classes q H
/-- an int array of naturals; an object -/
abbrev ea (Z : Zt) (a n : Nat) (r : Nat → Nat) : Nat × va_E := (a, .inl (Z.2.1, n, .inl (fun j => nI (r j))))
abbrev eo (a ci : Nat) (fs : List Value) : Nat × va_E := (a, .inr (ci, fs))
def up {α : Type} (r : Nat → α) (i : Nat) (x : α) : Nat → α := fun j => if j = i then x else r j
theorem up_s {α : Type} (r : Nat → α) (i : Nat) (x : α) : up r i x i = x := by simp [up]
theorem up_n {α : Type} (r : Nat → α) {i j : Nat} (x : α) (h : j ≠ i) : up r i x j = r j := by simp [up, h]
theorem up_upd (r : Nat → Nat) (i x : Nat) : upd (fun j => nI (r j)) i (nI x) = fun j => nI (up r i x j) := by
  funext j
  by_cases h : j = i
  · subst h; simp [upd, up]
  · simp [upd, up, h]
/-- a world: what its cells hold, that they are apart and ours, that all else is as it was -/
abbrev Wd (Z : Zt) (A : Nat → Prop) (H0 : Heap) (ws : va_W) (H : Heap) (locs : List Loc) : Prop := va_P Z.1 classes ws H ∧ va_D A ws ∧ va_S A H0 H locs
theorem Wd.at {Z : Zt} {A : Nat → Prop} {H0 H : Heap} {ws : va_W} {locs : List Loc} (h : Wd Z A H0 ws H locs) (k : Nat) {q : Nat × va_E} (hk : ws[k]? = some q) : zat Z q H := h.1 k q hk
theorem Wd.sub {Z : Zt} {A : Nat → Prop} {H0 H : Heap} {ws ws' : va_W} {locs : List Loc} (h : Wd Z A H0 ws H locs) (is : List Nat) (hn : va_nd is = true) (hs : is.map (fun i => ws[i]?) = ws'.map some) : Wd Z A H0 ws' H locs :=
  ⟨h.1.sub is (by
    have e : is.filterMap (fun i => ws[i]?) = (is.map (fun i => ws[i]?)).filterMap id := by rw [List.filterMap_map]; rfl
    rw [e, hs, List.filterMap_map]
    exact List.filterMap_some), h.2.1.sub is hn hs, h.2.2⟩
/-- what was there at the start and isn't ours is there still -/
theorem Wd.old {Z : Zt} {A : Nat → Prop} {H0 H : Heap} {ws : va_W} {locs : List Loc} (h : Wd Z A H0 ws H locs) {q : Nat × va_E} (hq : zat Z q H0) (hA : ¬ A q.1) : zat Z q H := hq.kept (h.2.2.2.1 q.1 hq.lt hA)
theorem zat_one {Z : Zt} {q : Nat × va_E} {H : Heap} (h : zat Z q H) : va_P Z.1 classes [q] H := by
  intro k x hk
  cases k with
  | zero => cases hk; exact h
  | succ k => simp at hk
section Rw
variable {p : Program} {l : Launch} {e : Env} {R : Room} {s : State} {m : MethodId} {args : Array Value} {below : List Frame} {meth : Method} {c : Code} {H : Heap} {locs : List Loc} {cells slots : Nat} {Q : State → Prop}
variable {cc : ByteArray} {pc : Nat} {ls : Array Slot} {rest : List Value} {Z : Zt} {A : Nat → Prop} {a : Nat} {ws : va_W} {H0 : Heap} {own : String}
theorem r_get (hx : p.tables.exec = Jvm.exec) (hb : c.code = cc) (hts : ∀ w ∈ TB, w.before args s = true) (hown : s.vm.findClass own = some m.cls) (hK : zK Z s) {ci N idx : Nat} {C ref : String} {T : u_T} {fs : List Value} {v : Value} (hat : zat Z (a, .inr (ci, fs)) H) (hc : classes[ci]? = some (C, T, N)) (hin : ∀ w ∈ u_ws C T N, w ∈ TB) (k : Nat) (hk : k < N) (hl : Cond.fieldLink own idx ref (T k).2.1 (T k).2.2.1 ∈ TB) (hsame : ∀ x, s.fieldFound? (T k).1 (T k).2.1 (T k).2.2.1 = some x → s.fieldFound? ref (T k).2.1 (T k).2.2.1 = some x) (hv : fs[k]? = some v) (hdg : decode cc pc = .ok (.getfield idx, 3))
    (kk : W p l e R s m args below meth c H locs cells slots Q (F0 m (pc + 3) ls (v :: rest))) : W p l e R s m args below meth c H locs cells slots Q (F0 m pc ls (.ref a :: rest)) :=
  va_get (D := Z.1) (ws := [(a, .inr (ci, fs))]) hx hb hts hin hown hK (zat_one hat) 0 rfl hc k hk (hts _ hl) hsame hv hdg kk
theorem r_put (hx : p.tables.exec = Jvm.exec) (hb : c.code = cc) (hts : ∀ w ∈ TB, w.before args s = true) (hown : s.vm.findClass own = some m.cls) (hK : zK Z s) (hW : Wd Z A H0 ws H locs) (q0 : Nat) {ci N idx : Nat} {C ref : String} {T : u_T} {fs : List Value} {v : Value} (he : ws[q0]? = some (a, .inr (ci, fs))) (hc : classes[ci]? = some (C, T, N)) (hin : ∀ w ∈ u_ws C T N, w ∈ TB) (ty0 : Nat → FieldType) (hty : ∀ k, k < N → parseFieldDescriptor (T k).2.2.1 = some (ty0 k)) (hnm : ∀ a, a < N → ∀ b, b < N → a ≠ b → (T a).2.1 ≠ (T b).2.1) (k : Nat) (hk : k < N) (hl : Cond.fieldLink own idx ref (T k).2.1 (T k).2.2.1 ∈ TB) (hsame : ∀ x, s.fieldFound? (T k).1 (T k).2.1 (T k).2.2.1 = some x → s.fieldFound? ref (T k).2.1 (T k).2.2.1 = some x) (hfin : (T k).2.2.2 = false) (hn : narrow (ty0 k) v = v) (hfit : fits (ty0 k) v = true) (hlen : k < fs.length) (hdg : decode cc pc = .ok (.putfield idx, 3))
    (kk : ∀ (H1 : Heap) (locs1 : List Loc), Wd Z A H0 (ws.set q0 (a, .inr (ci, fs.set k v))) H1 locs1 → W p l e R s m args below meth c H1 locs1 cells slots Q (F0 m (pc + 3) ls rest)) : W p l e R s m args below meth c H locs cells slots Q (F0 m pc ls (v :: .ref a :: rest)) :=
  va_put (D := Z.1) hx hb hts hin ty0 hty hnm hown hK hW.1 hW.2.1 hW.2.2 q0 he hc k hk (hts _ hl) hsame hfin (hty k hk) hn hfit hlen hdg (fun H1 L1 h1 h2 h3 => kk H1 L1 ⟨h1, h2, h3⟩)
theorem r_putF (hx : p.tables.exec = Jvm.exec) (hb : c.code = cc) (hts : ∀ w ∈ TB, w.before args s = true) (hown : s.vm.findClass own = some m.cls) (hK : zK Z s) (hW : Wd Z A H0 ws H locs) (q0 : Nat) {ci N idx : Nat} {C ref : String} {T : u_T} {fs : List Value} {v : Value} (he : ws[q0]? = some (a, .inr (ci, fs))) (hc : classes[ci]? = some (C, T, N)) (hin : ∀ w ∈ u_ws C T N, w ∈ TB) (ty0 : Nat → FieldType) (hty : ∀ k, k < N → parseFieldDescriptor (T k).2.2.1 = some (ty0 k)) (hnm : ∀ a, a < N → ∀ b, b < N → a ≠ b → (T a).2.1 ≠ (T b).2.1) (k : Nat) (hk : k < N) (hl : Cond.fieldLink own idx ref (T k).2.1 (T k).2.2.1 ∈ TB) (hsame : ∀ x, s.fieldFound? (T k).1 (T k).2.1 (T k).2.2.1 = some x → s.fieldFound? ref (T k).2.1 (T k).2.2.1 = some x) (hfin : (T k).2.2.2 = true) (hini : meth.name = "<init>") (hdecl : (T k).1 = own) (hn : narrow (ty0 k) v = v) (hfit : fits (ty0 k) v = true) (hlen : k < fs.length) (hdg : decode cc pc = .ok (.putfield idx, 3))
    (kk : ∀ (H1 : Heap) (locs1 : List Loc), Wd Z A H0 (ws.set q0 (a, .inr (ci, fs.set k v))) H1 locs1 → W p l e R s m args below meth c H1 locs1 cells slots Q (F0 m (pc + 3) ls rest)) : W p l e R s m args below meth c H locs cells slots Q (F0 m pc ls (v :: .ref a :: rest)) :=
  va_putF (D := Z.1) hx hb hts hin ty0 hty hnm hown hK hW.1 hW.2.1 hW.2.2 q0 he hc k hk (hts _ hl) hsame hfin hini hdecl (hty k hk) hn hfit hlen hdg (fun H1 L1 h1 h2 h3 => kk H1 L1 ⟨h1, h2, h3⟩)
theorem r_ald (hx : p.tables.exec = Jvm.exec) (hb : c.code = cc) (hK : zK Z s) {n i : Nat} {r : Nat → Nat} (hat : zat Z (ea Z a n r) H) (hi : i < n) (hn : n < 2 ^ 31) (hdg : decode cc pc = .ok (.iaload, 1))
    (kk : W p l e R s m args below meth c H locs cells slots Q (F0 m (pc + 1) ls (.int (nI (r i)) :: rest))) : W p l e R s m args below meth c H locs cells slots Q (F0 m pc ls (.int (nI i) :: .ref a :: rest)) := by
  refine va_iald (D := Z.1) (ws := [ea Z a n r]) hx hb hK (zat_one hat) 0 0 rfl rfl (vp_in_nI hi hn) hdg ?_
  rw [nI_clamp (by omega)]
  exact kk
theorem r_len (hx : p.tables.exec = Jvm.exec) (hb : c.code = cc) (hK : zK Z s) {n : Nat} {r : Nat → Nat} (hat : zat Z (ea Z a n r) H) (hdg : decode cc pc = .ok (.arraylength, 1))
    (kk : W p l e R s m args below meth c H locs cells slots Q (F0 m (pc + 1) ls (.int (nI n) :: rest))) : W p l e R s m args below meth c H locs cells slots Q (F0 m pc ls (.ref a :: rest)) :=
  va_alen (D := Z.1) (ws := [ea Z a n r]) hx hb hK (zat_one hat) 0 0 rfl rfl rfl hdg kk
theorem r_ast (hx : p.tables.exec = Jvm.exec) (hb : c.code = cc) (hK : zK Z s) (hW : Wd Z A H0 ws H locs) (q0 : Nat) {n i x : Nat} {r : Nat → Nat} (he : ws[q0]? = some (ea Z a n r)) (hi : i < n) (hn : n < 2 ^ 31) (hdg : decode cc pc = .ok (.iastore, 1))
    (kk : ∀ (H1 : Heap) (locs1 : List Loc), Wd Z A H0 (ws.set q0 (ea Z a n (up r i x))) H1 locs1 → W p l e R s m args below meth c H1 locs1 cells slots Q (F0 m (pc + 1) ls rest)) : W p l e R s m args below meth c H locs cells slots Q (F0 m pc ls (.int (nI x) :: .int (nI i) :: .ref a :: rest)) := by
  refine va_iast (D := Z.1) hx hb hK hW.1 hW.2.1 hW.2.2 q0 0 he rfl (vp_in_nI hi hn) hdg (fun H1 L1 h1 h2 h3 => kk H1 L1 ?_)
  rw [nI_clamp (by omega), up_upd] at h1 h2
  exact ⟨h1, h2, h3⟩
theorem r_newa (hx : p.tables.exec = Jvm.exec) (hb : c.code = cc) (hts : ∀ w ∈ TB, w.before args s = true) (hac : Cond.arrayClass .int ∈ TB) (hK : zK Z s) (hW : Wd Z A H0 ws H locs) (hA : ∀ q, H0.size ≤ q → A q) {n : Nat} (hn : n ≤ 1000000) (hcells : cells + 1 ≤ R.cells) (hslots : slots + n ≤ R.slots) (hdg : decode cc pc = .ok (.newarray .int, 2))
    (kk : ∀ (q : Nat) (H1 : Heap), Wd Z A H0 (ws ++ [ea Z q n (fun _ => 0)]) H1 locs → H1.size = H.size + 1 → q = H.size → W p l e R s m args below meth c H1 locs (cells + 1) (slots + n) Q (F0 m (pc + 2) ls (.ref q :: rest))) : W p l e R s m args below meth c H locs cells slots Q (F0 m pc ls (.int (nI n) :: rest)) := by
  refine va_newaK hx hb (atype := .int) (hts _ hac) rfl hdg rfl (nI_pos (by omega)) (nI_clamp (by omega)) (by show n * 4 ≤ _; omega) hcells hslots rfl fun H1 cA e1 z1 o1 hAr hNm => ?_
  have hcA : cA = Z.2.1 := by
    have h2 : s.vm.findClass ("[" ++ FieldType.int.toString) = some Z.2.1 := (hK.2 0 _ rfl).2
    have h1 : s.vm.findClass ("[" ++ FieldType.int.toString) = some cA := hNm
    exact Option.some.inj (h1.symm.trans h2)
  subst hcA
  have hk : ∀ (k : Nat) (x : Nat × va_E), ws[k]? = some x → H1[x.1]? = H[x.1]? := fun k x hx => o1 x.1 ((hW.1 k x hx).lt)
  refine kk H.size H1 ⟨(hW.1.kept hk).app (zat_one ?_), hW.2.1.push hW.1 rfl (hA _ hW.2.2.1), Nat.le_trans hW.2.2.1 (by omega), fun x h1 h2 => (o1 x (Nat.lt_of_lt_of_le h1 hW.2.2.1)).trans (hW.2.2.2.1 x h1 h2), hW.2.2.2.2⟩ z1 rfl
  show H1[H.size]? = some (vp_cell _ _)
  rw [vp_cell_i]
  exact e1
theorem r_new (hx : p.tables.exec = Jvm.exec) (hb : c.code = cc) (hts : ∀ w ∈ TB, w.before args s = true) (hown : s.vm.findClass own = some m.cls) (hK : zK Z s) (hW : Wd Z A H0 ws H locs) (hA : ∀ q, H0.size ≤ q → A q) {ci N idx : Nat} {C : String} {T : u_T} (hc : classes[ci]? = some (C, T, N)) (hin : ∀ w ∈ u_ws C T N, w ∈ TB) (ty0 : Nat → FieldType) (hty : ∀ k, k < N → parseFieldDescriptor (T k).2.2.1 = some (ty0 k)) (h1 : Cond.classLink own idx C ∈ TB) (h2 : Cond.instantiable C N ∈ TB) (h3 : Cond.initialized C ∈ TB) {fs : List Value} (hfs : ∀ j, j < N → defaultValue (ty0 j) = vp_V fs j) (hcells : cells + 1 ≤ R.cells) (hslots : slots + N ≤ R.slots) (hdg : decode cc pc = .ok (.new idx, 3))
    (kk : ∀ (q : Nat) (H1 : Heap), Wd Z A H0 (ws ++ [eo q ci fs]) H1 locs → W p l e R s m args below meth c H1 locs (cells + 1) (slots + N) Q (F0 m (pc + 3) ls (.ref q :: rest))) : W p l e R s m args below meth c H locs cells slots Q (F0 m pc ls rest) :=
  va_new (D := Z.1) hx hb hts hin ty0 hty hown (hts _ h1) (hts _ h2) (hts _ h3) hK hW.1 hW.2.1 hW.2.2 hA hc hfs hcells hslots hdg (fun q H1 g1 g2 g3 => kk q H1 ⟨g1, g2, g3⟩)
/-! naturals on the stack -/
theorem n_iadd (hx : p.tables.exec = Jvm.exec) (hb : c.code = cc) {x y : Nat} (hdg : decode cc pc = .ok (.iadd, 1)) (kk : W p l e R s m args below meth c H locs cells slots Q (F0 m (pc + 1) ls (.int (nI (x + y)) :: rest))) : W p l e R s m args below meth c H locs cells slots Q (F0 m pc ls (.int (nI y) :: .int (nI x) :: rest)) := by
  refine lv_iadd hx hb hdg ?_
  rw [nI_add]
  exact kk
theorem n_isub (hx : p.tables.exec = Jvm.exec) (hb : c.code = cc) {x y : Nat} (h : y ≤ x) (hdg : decode cc pc = .ok (.isub, 1)) (kk : W p l e R s m args below meth c H locs cells slots Q (F0 m (pc + 1) ls (.int (nI (x - y)) :: rest))) : W p l e R s m args below meth c H locs cells slots Q (F0 m pc ls (.int (nI y) :: .int (nI x) :: rest)) := by
  refine lv_isub hx hb hdg ?_
  rw [pk_sub h]
  exact kk
theorem n_imul (hx : p.tables.exec = Jvm.exec) (hb : c.code = cc) {x y : Nat} (hdg : decode cc pc = .ok (.imul, 1)) (kk : W p l e R s m args below meth c H locs cells slots Q (F0 m (pc + 1) ls (.int (nI (x * y)) :: rest))) : W p l e R s m args below meth c H locs cells slots Q (F0 m pc ls (.int (nI y) :: .int (nI x) :: rest)) := by
  refine lv_imul hx hb hdg ?_
  rw [pk_mul]
  exact kk
theorem n_eqv {x y : Int32} (h : x = y) (kk : W p l e R s m args below meth c H locs cells slots Q (F0 m pc ls (.int y :: rest))) : W p l e R s m args below meth c H locs cells slots Q (F0 m pc ls (.int x :: rest)) := by
  rw [h]; exact kk
/-- a branch whose way is known -/
theorem n_ge_t (hx : p.tables.exec = Jvm.exec) (hb : c.code = cc) {x y : Nat} {off : Int} {tgt : Nat} (h : y ≤ x) (hxb : x < 2 ^ 31) (hdg : decode cc pc = .ok (.if_icmp .ge off, 3)) (ht : (pc : Int) + off = (tgt : Int)) (kk : W p l e R s m args below meth c H locs cells slots Q (F0 m tgt ls rest)) : W p l e R s m args below meth c H locs cells slots Q (F0 m pc ls (.int (nI y) :: .int (nI x) :: rest)) :=
  lv_icmp_ge hx hb hdg ht (fun _ => kk) (fun q => absurd (nI_le h hxb) q)
theorem n_ge_f (hx : p.tables.exec = Jvm.exec) (hb : c.code = cc) {x y : Nat} {off : Int} {tgt : Nat} (h : x < y) (hyb : y < 2 ^ 31) (hdg : decode cc pc = .ok (.if_icmp .ge off, 3)) (ht : (pc : Int) + off = (tgt : Int)) (kk : W p l e R s m args below meth c H locs cells slots Q (F0 m (pc + 3) ls rest)) : W p l e R s m args below meth c H locs cells slots Q (F0 m pc ls (.int (nI y) :: .int (nI x) :: rest)) :=
  lv_icmp_ge hx hb hdg ht (fun q => absurd q (nI_ge h hyb)) (fun _ => kk)
theorem n_lt_t (hx : p.tables.exec = Jvm.exec) (hb : c.code = cc) {x y : Nat} {off : Int} {tgt : Nat} (h : x < y) (hyb : y < 2 ^ 31) (hdg : decode cc pc = .ok (.if_icmp .lt off, 3)) (ht : (pc : Int) + off = (tgt : Int)) (kk : W p l e R s m args below meth c H locs cells slots Q (F0 m tgt ls rest)) : W p l e R s m args below meth c H locs cells slots Q (F0 m pc ls (.int (nI y) :: .int (nI x) :: rest)) :=
  lv_icmp_lt hx hb hdg ht (fun _ => kk) (fun q => absurd (nI_lt h hyb) q)
theorem n_lt_f (hx : p.tables.exec = Jvm.exec) (hb : c.code = cc) {x y : Nat} {off : Int} {tgt : Nat} (h : y ≤ x) (hxb : x < 2 ^ 31) (hdg : decode cc pc = .ok (.if_icmp .lt off, 3)) (ht : (pc : Int) + off = (tgt : Int)) (kk : W p l e R s m args below meth c H locs cells slots Q (F0 m (pc + 3) ls rest)) : W p l e R s m args below meth c H locs cells slots Q (F0 m pc ls (.int (nI y) :: .int (nI x) :: rest)) :=
  lv_icmp_lt hx hb hdg ht (fun q => absurd q (nI_nlt h hxb)) (fun _ => kk)
theorem n_gt_t (hx : p.tables.exec = Jvm.exec) (hb : c.code = cc) {x y : Nat} {off : Int} {tgt : Nat} (h : y < x) (hxb : x < 2 ^ 31) (hdg : decode cc pc = .ok (.if_icmp .gt off, 3)) (ht : (pc : Int) + off = (tgt : Int)) (kk : W p l e R s m args below meth c H locs cells slots Q (F0 m tgt ls rest)) : W p l e R s m args below meth c H locs cells slots Q (F0 m pc ls (.int (nI y) :: .int (nI x) :: rest)) :=
  lv_icmp_gt hx hb hdg ht (fun _ => kk) (fun q => absurd (nI_lt h hxb) q)
theorem n_gt_f (hx : p.tables.exec = Jvm.exec) (hb : c.code = cc) {x y : Nat} {off : Int} {tgt : Nat} (h : x ≤ y) (hyb : y < 2 ^ 31) (hdg : decode cc pc = .ok (.if_icmp .gt off, 3)) (ht : (pc : Int) + off = (tgt : Int)) (kk : W p l e R s m args below meth c H locs cells slots Q (F0 m (pc + 3) ls rest)) : W p l e R s m args below meth c H locs cells slots Q (F0 m pc ls (.int (nI y) :: .int (nI x) :: rest)) :=
  lv_icmp_gt hx hb hdg ht (fun q => absurd q (nI_nlt h hyb)) (fun _ => kk)
theorem n_le_t (hx : p.tables.exec = Jvm.exec) (hb : c.code = cc) {x y : Nat} {off : Int} {tgt : Nat} (h : x ≤ y) (hyb : y < 2 ^ 31) (hdg : decode cc pc = .ok (.if_icmp .le off, 3)) (ht : (pc : Int) + off = (tgt : Int)) (kk : W p l e R s m args below meth c H locs cells slots Q (F0 m tgt ls rest)) : W p l e R s m args below meth c H locs cells slots Q (F0 m pc ls (.int (nI y) :: .int (nI x) :: rest)) :=
  lv_icmp_le hx hb hdg ht (fun _ => kk) (fun q => absurd (nI_le h hyb) q)
theorem n_le_f (hx : p.tables.exec = Jvm.exec) (hb : c.code = cc) {x y : Nat} {off : Int} {tgt : Nat} (h : y < x) (hxb : x < 2 ^ 31) (hdg : decode cc pc = .ok (.if_icmp .le off, 3)) (ht : (pc : Int) + off = (tgt : Int)) (kk : W p l e R s m args below meth c H locs cells slots Q (F0 m (pc + 3) ls rest)) : W p l e R s m args below meth c H locs cells slots Q (F0 m pc ls (.int (nI y) :: .int (nI x) :: rest)) :=
  lv_icmp_le hx hb hdg ht (fun q => absurd q (nI_ge h hxb)) (fun _ => kk)
theorem n_ne_t (hx : p.tables.exec = Jvm.exec) (hb : c.code = cc) {x y : Nat} {off : Int} {tgt : Nat} (h : x ≠ y) (hxb : x < 2 ^ 31) (hyb : y < 2 ^ 31) (hdg : decode cc pc = .ok (.if_icmp .ne off, 3)) (ht : (pc : Int) + off = (tgt : Int)) (kk : W p l e R s m args below meth c H locs cells slots Q (F0 m tgt ls rest)) : W p l e R s m args below meth c H locs cells slots Q (F0 m pc ls (.int (nI y) :: .int (nI x) :: rest)) :=
  lv_icmp_ne hx hb hdg ht (fun _ => kk) (fun q => absurd ((nI_eq hxb hyb).mp q) h)
theorem n_ne_f (hx : p.tables.exec = Jvm.exec) (hb : c.code = cc) {x y : Nat} {off : Int} {tgt : Nat} (h : x = y) (hdg : decode cc pc = .ok (.if_icmp .ne off, 3)) (ht : (pc : Int) + off = (tgt : Int)) (kk : W p l e R s m args below meth c H locs cells slots Q (F0 m (pc + 3) ls rest)) : W p l e R s m args below meth c H locs cells slots Q (F0 m pc ls (.int (nI y) :: .int (nI x) :: rest)) :=
  lv_icmp_ne hx hb hdg ht (fun q => absurd (congrArg nI h) q) (fun _ => kk)
theorem n_eq_t (hx : p.tables.exec = Jvm.exec) (hb : c.code = cc) {x y : Nat} {off : Int} {tgt : Nat} (h : x = y) (hdg : decode cc pc = .ok (.if_icmp .eq off, 3)) (ht : (pc : Int) + off = (tgt : Int)) (kk : W p l e R s m args below meth c H locs cells slots Q (F0 m tgt ls rest)) : W p l e R s m args below meth c H locs cells slots Q (F0 m pc ls (.int (nI y) :: .int (nI x) :: rest)) :=
  lv_icmp_eq hx hb hdg ht (fun _ => kk) (fun q => absurd (congrArg nI h) q)
theorem n_eq_f (hx : p.tables.exec = Jvm.exec) (hb : c.code = cc) {x y : Nat} {off : Int} {tgt : Nat} (h : x ≠ y) (hxb : x < 2 ^ 31) (hyb : y < 2 ^ 31) (hdg : decode cc pc = .ok (.if_icmp .eq off, 3)) (ht : (pc : Int) + off = (tgt : Int)) (kk : W p l e R s m args below meth c H locs cells slots Q (F0 m (pc + 3) ls rest)) : W p l e R s m args below meth c H locs cells slots Q (F0 m pc ls (.int (nI y) :: .int (nI x) :: rest)) :=
  lv_icmp_eq hx hb hdg ht (fun q => absurd ((nI_eq hxb hyb).mp q) h) (fun _ => kk)
theorem n_zne_t (hx : p.tables.exec = Jvm.exec) (hb : c.code = cc) {x : Nat} {off : Int} {tgt : Nat} (h : x ≠ 0) (hxb : x < 2 ^ 31) (hdg : decode cc pc = .ok (.ifCond .ne off, 3)) (ht : (pc : Int) + off = (tgt : Int)) (kk : W p l e R s m args below meth c H locs cells slots Q (F0 m tgt ls rest)) : W p l e R s m args below meth c H locs cells slots Q (F0 m pc ls (.int (nI x) :: rest)) :=
  lv_if_ne hx hb hdg ht (fun _ => kk) (fun q => absurd q (nI_ne0 (Nat.pos_of_ne_zero h) hxb))
theorem n_zne_f (hx : p.tables.exec = Jvm.exec) (hb : c.code = cc) {x : Nat} {off : Int} {tgt : Nat} (h : x = 0) (hdg : decode cc pc = .ok (.ifCond .ne off, 3)) (ht : (pc : Int) + off = (tgt : Int)) (kk : W p l e R s m args below meth c H locs cells slots Q (F0 m (pc + 3) ls rest)) : W p l e R s m args below meth c H locs cells slots Q (F0 m pc ls (.int (nI x) :: rest)) :=
  lv_if_ne hx hb hdg ht (fun q => absurd (by rw [h]; exact nI_0) q) (fun _ => kk)
theorem n_zeq_t (hx : p.tables.exec = Jvm.exec) (hb : c.code = cc) {x : Nat} {off : Int} {tgt : Nat} (h : x = 0) (hdg : decode cc pc = .ok (.ifCond .eq off, 3)) (ht : (pc : Int) + off = (tgt : Int)) (kk : W p l e R s m args below meth c H locs cells slots Q (F0 m tgt ls rest)) : W p l e R s m args below meth c H locs cells slots Q (F0 m pc ls (.int (nI x) :: rest)) :=
  lv_if_eq hx hb hdg ht (fun _ => kk) (fun q => absurd (by rw [h]; exact nI_0) q)
theorem n_zeq_f (hx : p.tables.exec = Jvm.exec) (hb : c.code = cc) {x : Nat} {off : Int} {tgt : Nat} (h : x ≠ 0) (hxb : x < 2 ^ 31) (hdg : decode cc pc = .ok (.ifCond .eq off, 3)) (ht : (pc : Int) + off = (tgt : Int)) (kk : W p l e R s m args below meth c H locs cells slots Q (F0 m (pc + 3) ls rest)) : W p l e R s m args below meth c H locs cells slots Q (F0 m pc ls (.int (nI x) :: rest)) :=
  lv_if_eq hx hb hdg ht (fun q => absurd q (nI_ne0 (Nat.pos_of_ne_zero h) hxb)) (fun _ => kk)
end Rw
