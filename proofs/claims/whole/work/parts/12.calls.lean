/-! what the start gives and no step takes: words that aren't good ones, statics, texts -/
def nw_cast : List (String × String) := [("[I", "java/lang/Cloneable"), ("java/lang/IllegalArgumentException", "java/lang/IllegalArgumentException"), ("java/lang/IllegalStateException", "java/lang/IllegalStateException"), (RX2, RX2), (RX2, "java/lang/Object")]
def nw_decl : List MethodName := [⟨"java/lang/RuntimeException", "<init>", "()V"⟩, ⟨"java/lang/RuntimeException", "<init>", "(Ljava/lang/String;)V"⟩, ⟨"java/lang/Exception", "<init>", "()V"⟩, ⟨"java/lang/Exception", "<init>", "(Ljava/lang/String;)V"⟩, ⟨"java/lang/Throwable", "<init>", "()V"⟩, ⟨"java/lang/Throwable", "<init>", "(Ljava/lang/String;)V"⟩, ⟨"java/lang/Object", "getClass", "()Ljava/lang/Class;"⟩]
def nw_strs : List (Nat × String) := [(144, "a width is 1 .. 64"), (153, "there are 4000 vectors, or they would weigh more than 100000"), (146, "there is no such kind"), (156, "there is no such vector"), (148, "the widths are not the same"), (92, "what chooses is not of width 1"), (112, "there are no such bits"), (118, "it can't be wider by so many bits"), (132, "the vector is no input")]
def GSv (Z : Zt) (U : State) : Prop := (∀ q ∈ nw_cast, va_Nw (.castable q.1 q.2) U) ∧ (∀ y ∈ nw_decl, va_Nw (.declares y) U) ∧ va_Mi "[Ljava/lang/Object;" Z.2.2.2.2.2.2 U ∧ (∀ q ∈ nw_strs, ∃ a : Nat, vk_R RX3 q.1 q.2 a U) ∧ va_AO "java/lang/Object" U
def GSh (Z : Zt) (A : Nat → Prop) (U : State) (H : Heap) : Prop := va_Z "java/util/ArrayList" "DEFAULTCAPACITY_EMPTY_ELEMENTDATA" "[Ljava/lang/Object;" (.ref Z.2.2.2.2.2.1) A U H ∧ va_T (.object "java/lang/Object") Z.2.2.2.2.2.1 0 (fun _ => .null) A U H ∧ vx_Zq Bundle.tN "UNASSIGNED_STACK" Bundle.steD A U H ∧ vx_Zq Bundle.tN "SUPPRESSED_SENTINEL" Bundle.listD A U H
theorem GSv.warm {Z : Zt} {s U : State} (hW : s.WarmedH U.vm) (h : GSv Z s) : GSv Z U :=
  ⟨fun q hq => (h.1 q hq).warmC hW, fun y hy => (h.2.1 y hy).warmD hW, h.2.2.1.moved hW.alike, fun q hq => (h.2.2.2.1 q hq).elim fun a ha => ⟨a, ha.warm hW⟩, h.2.2.2.2.moved hW.alike⟩
theorem GSv.same {Z : Zt} {u U : State} (hv : U.vm = u.vm) (h : GSv Z u) : GSv Z U :=
  ⟨fun q hq => (h.1 q hq).same rfl hv.symm, fun y hy => (h.2.1 y hy).same rfl hv.symm, h.2.2.1.moved (by rw [hv]; exact Vm.Alike.refl _), fun q hq => (h.2.2.2.1 q hq).elim fun a ha => ⟨a, ha.same hv⟩, h.2.2.2.2.moved (by rw [hv]; exact Vm.Alike.refl _)⟩
theorem GSh.moved {Z : Zt} {A : Nat → Prop} {u U : State} {H : Heap} (hvm : u.vm.Alike U.vm) (h : GSh Z A u H) : GSh Z A U H := ⟨h.1.moved hvm, h.2.1.moved hvm, h.2.2.1.moved hvm, h.2.2.2.moved hvm⟩
theorem GSh.kept {Z : Zt} {A : Nat → Prop} {U : State} {H H1 : Heap} (h : GSh Z A U H) (hq : ∀ a : Nat, a < H.size → ¬ A a → H1[a]? = H[a]?) : GSh Z A U H1 := ⟨h.1.kept hq, h.2.1.kept hq, h.2.2.1.kept hq, h.2.2.2.kept hq⟩
theorem GSh.narrow {Z : Zt} {A B : Nat → Prop} {U : State} {H : Heap} (h : GSh Z A U H) (hAB : ∀ q, B q → A q) : GSh Z B U H := ⟨h.1.narrow hAB, h.2.1.narrow hAB, h.2.2.1.narrow hAB, h.2.2.2.narrow hAB⟩
def GS (Z : Zt) (A : Nat → Prop) (U : State) (H : Heap) : Prop := GSv Z U ∧ GSh Z A U H
/-! contracts in one shape, and their calls -/
def PreC (Z : Zt) (wc : va_W) (sz : Nat) (ro : Heap → Prop) (U : State) : Prop := U.heap.size = sz ∧ va_P Z.1 classes wc U.heap ∧ zK Z U ∧ va_D (fun _ => True) wc ∧ GS Z (va_A wc sz) U U.heap ∧ ro U.heap
def QC (Z : Zt) (wc : va_W) (sz : Nat) (post : Option Value → va_W → Prop) : Array Value → State → Outcome → State → Prop := fun _ st oc t => (∃ (v : Option Value) (w1 : va_W), oc = .returned v ∧ post v w1 ∧ va_P Z.1 classes w1 t.heap ∧ va_D (va_A wc sz) w1) ∧ va_F (va_A wc sz) st t
/-- method y: from a heap that holds wc and 'ro', at most mc cells of ms slots new; its answer and what its world has become: 'post' -/
def MC (l : Launch) (y : MethodName) (b : ByteArray) (nL : Nat) (ret : Option FieldType) (fr lo mc ms : Nat) (Z : Zt) (wc : va_W) (ro : Heap → Prop) (as : List Value) (post : Option Value → va_W → Prop) : Prop :=
  ∀ sz : Nat, Met l y (Cond.code y b nL ret :: TB) { frames := fr, cells := mc, slots := ms, locals := lo } (va_Pc as (PreC Z wc sz ro)) (QC Z wc sz post) mc ms (va_A wc sz)
theorem zK.moved {Z : Zt} {u U : State} (hvm : u.vm.Alike U.vm) (h : zK Z u) : zK Z U := va_K.moved hvm h
theorem preC_blind {Z : Zt} {wc : va_W} {sz : Nat} {ro : Heap → Prop} {as : List Value} : FrameBlind (va_Pc as (PreC Z wc sz ro)) := by
  intro a U g mk q
  obtain ⟨q0, q1, qP, qK, qD, qg, qr⟩ := q
  exact ⟨q0, q1, qP, va_K.moved (u := U) (U := U.calling g mk a) (Vm.Alike.refl U.vm) qK, qD, ⟨qg.1.same (u := U) (U := U.calling g mk a) rfl, qg.2.moved (u := U) (U := U.calling g mk a) (Vm.Alike.refl U.vm)⟩, qr⟩
theorem TB_goodIn {y : MethodName} {b : ByteArray} {nL : Nat} {ret : Option FieldType} (h : Cond.code y b nL ret ∈ TB) : GoodIn TB (Cond.code y b nL ret :: TB) := by
  intro w hw
  have hw' : w ∈ TB := by
    rcases List.mem_cons.mp hw with q | q
    · rw [q]; exact h
    · exact q
  exact ⟨hw', good_of_word (TB_good hw')⟩
/-- a cell that is there, and isn't of the callee's world -/
def RO (Z : Zt) (wc : va_W) (q : Nat × va_E) (H : Heap) : Prop := zat Z q H ∧ ¬ va_A wc H.size q.1
theorem pre_P {Z : Zt} {wc wr : va_W} {H : Heap} (h : va_P Z.1 classes (wc ++ wr) H) : va_P Z.1 classes wc H := fun k q hk => h k q (by rw [List.getElem?_append_left (List.getElem?_eq_some_iff.mp hk).1]; exact hk)
theorem suf_P {Z : Zt} {wc wr : va_W} {H : Heap} (h : va_P Z.1 classes (wc ++ wr) H) : va_P Z.1 classes wr H := fun k q hk => h (wc.length + k) q (by rw [List.getElem?_append_right (by omega), Nat.add_sub_cancel_left]; exact hk)
theorem pre_at {wc wr : va_W} {k : Nat} {q : Nat × va_E} (hk : wc[k]? = some q) : (wc ++ wr)[k]? = some q := by rw [List.getElem?_append_left (List.getElem?_eq_some_iff.mp hk).1]; exact hk
theorem suf_at {wc wr : va_W} {k : Nat} {q : Nat × va_E} (hk : wr[k]? = some q) : (wc ++ wr)[wc.length + k]? = some q := by rw [List.getElem?_append_right (by omega), Nat.add_sub_cancel_left]; exact hk
theorem pre_D {A : Nat → Prop} {wc wr : va_W} (h : va_D A (wc ++ wr)) : va_D A wc := ⟨fun i j p q hi hj e => h.1 i j p q (pre_at hi) (pre_at hj) e, fun k q hk => h.2 k q (pre_at hk)⟩
theorem suf_D {A : Nat → Prop} {wc wr : va_W} (h : va_D A (wc ++ wr)) : va_D A wr := ⟨fun i j p q hi hj e => by have := h.1 _ _ p q (suf_at (wc := wc) hi) (suf_at (wc := wc) hj) e; omega, fun k q hk => h.2 _ q (suf_at hk)⟩
theorem suf_not {Z : Zt} {A : Nat → Prop} {wc wr : va_W} {H : Heap} (hD : va_D A (wc ++ wr)) (hP : va_P Z.1 classes (wc ++ wr) H) {k : Nat} {q : Nat × va_E} (hk : wr[k]? = some q) : q.1 < H.size ∧ ¬ va_A wc H.size q.1 := by
  have hl := (hP _ q (suf_at (wc := wc) hk)).lt
  refine ⟨hl, fun h => ?_⟩
  rcases h with ⟨i, e, h⟩ | h
  · have h1 := hD.1 _ _ _ _ (suf_at (wc := wc) hk) (pre_at (wr := wr) h) rfl
    have h2 := (List.getElem?_eq_some_iff.mp h).1
    omega
  · omega
theorem pre_F {Z : Zt} {A : Nat → Prop} {H0 H : Heap} {wc wr : va_W} {locs : List Loc} (hW : Wd Z A H0 (wc ++ wr) H locs) (hA : ∀ q, H0.size ≤ q → A q) : ∀ q, va_A wc H.size q → A q := by
  intro q h
  rcases h with ⟨k, e, h⟩ | h
  · exact hW.2.1.2 k (q, e) (pre_at h)
  · exact hA q (Nat.le_trans hW.2.2.1 h)
theorem RO.pass {Z : Zt} {A : Nat → Prop} {H0 H : Heap} {w0 wc wr : va_W} {locs : List Loc} {q : Nat × va_E} (h : RO Z w0 q H0) (hAe : A = va_A w0 H0.size) (hW : Wd Z A H0 (wc ++ wr) H locs) : RO Z wc q H := by
  have hn : ¬ A q.1 := by rw [hAe]; exact h.2
  refine ⟨hW.old h.1 hn, fun g => ?_⟩
  rcases g with ⟨k, e, g⟩ | g
  · exact hn (hW.2.1.2 k (q.1, e) (pre_at g))
  · have := h.1.lt
    have := hW.2.2.1
    omega
theorem RO.loc {Z : Zt} {A : Nat → Prop} {H0 H : Heap} {wc wr : va_W} {locs : List Loc} {q : Nat × va_E} (hW : Wd Z A H0 (wc ++ wr) H locs) (k : Nat) (hk : wr[k]? = some q) : RO Z wc q H :=
  ⟨suf_P hW.1 k q hk, (suf_not hW.2.1 hW.1 hk).2⟩
theorem RO.nil {Z : Zt} {H : Heap} {q : Nat × va_E} (h : zat Z q H) : RO Z [] q H := ⟨h, fun g => by
  rcases g with ⟨k, e, g⟩ | g
  · simp at g
  · have := h.lt; omega⟩
theorem RO.here {Z : Zt} {A : Nat → Prop} {H0 H : Heap} {w0 ws : va_W} {locs : List Loc} {q : Nat × va_E} (h : RO Z w0 q H0) (hAe : A = va_A w0 H0.size) (hW : Wd Z A H0 ws H locs) : zat Z q H := hW.old h.1 (by rw [hAe]; exact h.2)
section Cl
variable {p : Program} {l : Launch} {e : Env} {R : Room} {s : State} {m : MethodId} {args : Array Value} {below : List Frame} {meth : Method} {c : Code} {H : Heap} {locs : List Loc} {cells slots : Nat} {Q : State → Prop}
variable {cc : ByteArray} {pc : Nat} {ls : Array Slot} {rest st0 : List Value} {Z : Zt} {A : Nat → Prop} {a : Array Value} {wc wr : va_W} {H0 : Heap} {own : String}
variable {post : Option Value → va_W → Prop} {ro : Heap → Prop} {mc ms fr lo nL maxL idx : Nat} {y : MethodName} {bytes : ByteArray} {ret : Option FieldType} {As : List Value} {b : Nat}
theorem cr_P (hr : va_Run p l e R s m args below meth c H locs cells slots mc ms (F0 m pc ls st0) rest (QC Z wc H.size post a) (va_A wc H.size)) (hW : Wd Z A H0 (wc ++ wr) H locs) (hA : ∀ q, H0.size ≤ q → A q)
    (kk : ∀ (v : Option Value) (w1 : va_W) (H1 : Heap) (locs1 : List Loc), post v w1 → Wd Z A H0 (w1 ++ wr) H1 locs1 → H.size ≤ H1.size → (∀ q : Nat, q < H.size → ¬ va_A wc H.size q → H1[q]? = H[q]?) → va_D (va_A wc H.size) w1 → W p l e R s m args below meth c H1 locs1 (cells + mc) (slots + ms) Q (F0 m (pc + 3) ls (v.toList ++ rest))) : W p l e R s m args below meth c H locs cells slots Q (F0 m pc ls st0) := by
  intro T hT X
  obtain ⟨v, st₀, t, T', L, h0, X', hL, e1, e2, ⟨⟨v', w1, hv, hp, hP1, hD1⟩, hz, hk⟩, st⟩ := hr T hT X
  cases hv
  rw [h0] at hz hk
  have hF := pre_F hW hA
  have k2 : ∀ q : Nat, q < H.size → ¬ va_A wc H.size q → T'.heap[q]? = H[q]? := fun q h1 h2 => by rw [e1]; exact hk q h1 h2
  have k1 : H.size ≤ T'.heap.size := by rw [e1]; exact hz
  have hWd : Wd Z A H0 (w1 ++ wr) T'.heap (locs ++ L) := by
    refine ⟨va_P.app (by rw [e1]; exact hP1) (fun k q hq => ?_), va_D.app (hD1.weaken (fun k q _ h => hF q.1 h)) (suf_D hW.2.1) (fun i j x y hx hy hxy => ?_), Nat.le_trans hW.2.2.1 k1, fun q h1 h2 => ?_, fun q hq => ?_⟩
    · obtain ⟨g1, g2⟩ := suf_not hW.2.1 hW.1 hq
      exact (suf_P hW.1 k q hq).kept (k2 q.1 g1 g2)
    · exact (suf_not hW.2.1 hW.1 hy).2 (by rw [← hxy]; exact hD1.2 i x hx)
    · rw [k2 q (Nat.lt_of_lt_of_le h1 hW.2.2.1) (fun z => h2 (hF q z))]
      exact hW.2.2.2.1 q h1 h2
    · rcases List.mem_append.mp hq with h | h
      · exact hW.2.2.2.2 q h
      · exact hF _ (hL q h)
  obtain ⟨t2, a1, b1⟩ := kk v w1 T'.heap (locs ++ L) hp hWd k1 k2 hD1 T' rfl X'
  exact ⟨t2, st t2 a1, b1⟩
theorem gs_at (hG : GS Z A s s.heap) (hH0 : H0 = s.heap) (hW : Wd Z A H0 (wc ++ wr) H locs) (hA : ∀ q, H0.size ≤ q → A q) {U : State} (hU : U.heap = H) (hWm : s.WarmedH U.vm) : GS Z (va_A wc H.size) U U.heap := by
  subst hH0
  rw [hU]
  exact ⟨hG.1.warm hWm, ((hG.2.moved hWm.alike).kept (fun a h1 h2 => hW.2.2.2.1 a h1 h2)).narrow (pre_F hW hA)⟩
theorem callB_TB (hts : ∀ w ∈ TB, w.before args s = true) (hc : Cond.code y bytes maxL ret ∈ TB) (hi : Cond.initialized y.cls ∈ TB) (hl : Cond.methodLink own idx y ∈ TB) {n : Nat} (hd : y.cls ≠ "java/lang/invoke/MethodHandle" ∧ y.cls ≠ "java/lang/invoke/VarHandle" ∧ (parseMethodDescriptor y.desc).map (fun d => d.parameters.length) = some n) (hR : fr + 1 ≤ R.frames ∧ 8 + (maxL + 11) + lo ≤ R.locals) :
    CallB R s args own idx y bytes maxL ret (Cond.code y bytes maxL ret :: TB) { frames := fr, cells := mc, slots := ms, locals := lo } mc ms n :=
  callB_of (rm := { frames := fr, cells := mc, slots := ms, locals := lo }) n hts (TB_goodIn hc) rfl rfl rfl (hts _ hi) (hts _ hl) hd hR
theorem c_virt {nA : Nat} (hx : p.tables.exec = Jvm.exec) (hb : c.code = cc) (hml : c.maxLocals = nL) (hown : s.vm.findClass own = some m.cls) (hts : ∀ w ∈ TB, w.before args s = true) (hK : zK Z s) (hG : GS Z A s s.heap) (hH0 : H0 = s.heap) (hA : ∀ q, H0.size ≤ q → A q) {nl : Nat} {lv : List (Nat × Value)} (hl : lv_has ls nL lv)
    (hM : MC l y bytes maxL ret fr lo mc ms Z wc ro (.ref b :: As) post) (hW : Wd Z A H0 (wc ++ wr) H locs) (hro : ro H)
    {ci N : Nat} {C : String} {T : u_T} {fs : List Value} (hrec : zat Z (b, .inr (ci, fs)) H) (hci : classes[ci]? = some (C, T, N)) (hC : y.cls = C)
    (w1 : Cond.methodLink own idx y ∈ TB) (w2 : Cond.instanceMethod y ∈ TB) (w3 : Cond.selects C y y ∈ TB) (w4 : Cond.initialized C ∈ TB) (w5 : Cond.code y bytes maxL ret ∈ TB)
    (hd : y.cls ≠ "java/lang/invoke/MethodHandle" ∧ y.cls ≠ "java/lang/invoke/VarHandle" ∧ (parseMethodDescriptor y.desc).map (fun d => d.parameters.length) = some nA) (hnA : As.length = nA)
    (hR : fr + 1 ≤ R.frames ∧ 8 + (maxL + 11) + lo ≤ R.locals) (hcs : cells + mc ≤ R.cells ∧ slots + ms ≤ R.slots) (hst : st0 = As.reverse ++ .ref b :: rest) (hrm : (rest.map fun v => v.category).sum ≤ 8) (hdg : decode cc pc = .ok (.invokevirtual idx, 3))
    (kk : ∀ (v : Option Value) (w1 : va_W) (H1 : Heap) (locs1 : List Loc), post v w1 → Wd Z A H0 (w1 ++ wr) H1 locs1 → H.size ≤ H1.size → (∀ q : Nat, q < H.size → ¬ va_A wc H.size q → H1[q]? = H[q]?) → va_D (va_A wc H.size) w1 → W p l e R s m args below meth c H1 locs1 (cells + mc) (slots + ms) Q (F0 m (pc + 3) ls (v.toList ++ rest))) : W p l e R s m args below meth c H locs cells slots Q (F0 m pc ls st0) := by
  subst hC
  refine cr_P (va_runV (C := y.cls) (b := b) (As := As) ⟨hx, hb, hml, hown, hts⟩ (hM H.size) ⟨callB_TB hts w5 w4 w1 hd hR, hts _ w2, hts _ w3⟩ ⟨preC_blind, ?_, fun U hU hWm => ⟨rfl, by rw [hU], by rw [hU]; exact pre_P hW.1, zK.moved hWm.alike hK, (pre_D hW.2.1).weaken (fun _ _ _ _ => trivial), gs_at hG hH0 hW hA hU hWm, by rw [hU]; exact hro⟩⟩ rfl hnA hl.1 hst (lv_room hrm) hdg hcs) hW hA kk
  exact va_recv (q0 := 0) (ci := ci) hK (zat_one hrec) hci rfl
theorem c_stat {nA : Nat} (hx : p.tables.exec = Jvm.exec) (hb : c.code = cc) (hml : c.maxLocals = nL) (hown : s.vm.findClass own = some m.cls) (hts : ∀ w ∈ TB, w.before args s = true) (hK : zK Z s) (hG : GS Z A s s.heap) (hH0 : H0 = s.heap) (hA : ∀ q, H0.size ≤ q → A q) {lv : List (Nat × Value)} (hl : lv_has ls nL lv)
    (hM : MC l y bytes maxL ret fr lo mc ms Z wc ro As post) (hW : Wd Z A H0 (wc ++ wr) H locs) (hro : ro H)
    (w1 : Cond.methodLink own idx y ∈ TB) (w2 : Cond.static y ∈ TB) (w4 : Cond.initialized y.cls ∈ TB) (w5 : Cond.code y bytes maxL ret ∈ TB)
    (hd : y.cls ≠ "java/lang/invoke/MethodHandle" ∧ y.cls ≠ "java/lang/invoke/VarHandle" ∧ (parseMethodDescriptor y.desc).map (fun d => d.parameters.length) = some nA) (hnA : As.length = nA)
    (hR : fr + 1 ≤ R.frames ∧ 8 + (maxL + 11) + lo ≤ R.locals) (hcs : cells + mc ≤ R.cells ∧ slots + ms ≤ R.slots) (hst : st0 = As.reverse ++ rest) (hrm : (rest.map fun v => v.category).sum ≤ 8) (hdg : decode cc pc = .ok (.invokestatic idx, 3))
    (kk : ∀ (v : Option Value) (w1 : va_W) (H1 : Heap) (locs1 : List Loc), post v w1 → Wd Z A H0 (w1 ++ wr) H1 locs1 → H.size ≤ H1.size → (∀ q : Nat, q < H.size → ¬ va_A wc H.size q → H1[q]? = H[q]?) → va_D (va_A wc H.size) w1 → W p l e R s m args below meth c H1 locs1 (cells + mc) (slots + ms) Q (F0 m (pc + 3) ls (v.toList ++ rest))) : W p l e R s m args below meth c H locs cells slots Q (F0 m pc ls st0) :=
  cr_P (va_runS (As := As) ⟨hx, hb, hml, hown, hts⟩ (hM H.size) ⟨callB_TB hts w5 w4 w1 hd hR, hts _ w2⟩ ⟨preC_blind, fun U hU hWm => ⟨rfl, by rw [hU], by rw [hU]; exact pre_P hW.1, zK.moved hWm.alike hK, (pre_D hW.2.1).weaken (fun _ _ _ _ => trivial), gs_at hG hH0 hW hA hU hWm, by rw [hU]; exact hro⟩⟩ rfl hnA hl.1 hst (lv_room hrm) hdg hcs) hW hA kk
theorem c_spec {nA : Nat} (hx : p.tables.exec = Jvm.exec) (hb : c.code = cc) (hml : c.maxLocals = nL) (hown : s.vm.findClass own = some m.cls) (hts : ∀ w ∈ TB, w.before args s = true) (hK : zK Z s) (hG : GS Z A s s.heap) (hH0 : H0 = s.heap) (hA : ∀ q, H0.size ≤ q → A q) {lv : List (Nat × Value)} (hl : lv_has ls nL lv)
    (hM : MC l y bytes maxL none fr lo mc ms Z wc ro (.ref b :: As) post) (hW : Wd Z A H0 (wc ++ wr) H locs) (hro : ro H)
    (w1 : Cond.methodLink own idx y ∈ TB) (w2 : Cond.instanceMethod y ∈ TB) (w4 : Cond.initialized y.cls ∈ TB) (w5 : Cond.code y bytes maxL none ∈ TB) (hyn : y.name = "<init>")
    (hd : y.cls ≠ "java/lang/invoke/MethodHandle" ∧ y.cls ≠ "java/lang/invoke/VarHandle" ∧ (parseMethodDescriptor y.desc).map (fun d => d.parameters.length) = some nA) (hnA : As.length = nA)
    (hR : fr + 1 ≤ R.frames ∧ 8 + (maxL + 11) + lo ≤ R.locals) (hcs : cells + mc ≤ R.cells ∧ slots + ms ≤ R.slots) (hst : st0 = As.reverse ++ .ref b :: rest) (hrm : (rest.map fun v => v.category).sum ≤ 8) (hdg : decode cc pc = .ok (.invokespecial idx, 3))
    (kk : ∀ (v : Option Value) (w1 : va_W) (H1 : Heap) (locs1 : List Loc), post v w1 → Wd Z A H0 (w1 ++ wr) H1 locs1 → H.size ≤ H1.size → (∀ q : Nat, q < H.size → ¬ va_A wc H.size q → H1[q]? = H[q]?) → va_D (va_A wc H.size) w1 → W p l e R s m args below meth c H1 locs1 (cells + mc) (slots + ms) Q (F0 m (pc + 3) ls (v.toList ++ rest))) : W p l e R s m args below meth c H locs cells slots Q (F0 m pc ls st0) :=
  cr_P (va_runI (b := b) (As := As) ⟨hx, hb, hml, hown, hts⟩ (hM H.size) ⟨callB_TB hts w5 w4 w1 hd hR, hyn, hts _ w2⟩ ⟨preC_blind, fun U hU hWm => ⟨rfl, by rw [hU], by rw [hU]; exact pre_P hW.1, zK.moved hWm.alike hK, (pre_D hW.2.1).weaken (fun _ _ _ _ => trivial), gs_at hG hH0 hW hA hU hWm, by rw [hU]; exact hro⟩⟩ rfl hnA hl.1 hst (lv_room hrm) hdg hcs) hW hA kk
end Cl
/-- a contract out of a walk of the body -/
theorem mc_of {l : Launch} {y : MethodName} {b : ByteArray} {nL : Nat} {ret : Option FieldType} {fr lo mc ms : Nat} {Z : Zt} {wc : va_W} {ro : Heap → Prop} {as : List Value} {post : Option Value → va_W → Prop}
    (hy : plainName y.cls = true) (hlen : (lg_sl as).length ≤ nL)
    (body : ∀ (p : Program) (e : Env) (s : State) (m : MethodId) (below : List Frame) (meth : Method) (c : Code) (ls : Array Slot) (A : Nat → Prop), p.tables.exec = Jvm.exec → c.code = b → meth.sig.returnType = ret → (∀ w ∈ TB, w.before as.toArray s = true) → s.vm.findClass y.cls = some m.cls → meth.locks = false → c.maxLocals = nL → meth.name = y.name → zK Z s → GS Z A s s.heap → Wd Z A s.heap wc s.heap [] → (∀ q, s.heap.size ≤ q → A q) → A = va_A wc s.heap.size → ro s.heap → lv_has ls nL (lv_args 0 as) → ∀ R : Room, R.frames = fr → R.cells = mc → R.slots = ms → R.locals = lo →
      W p l e R s m as.toArray below meth c s.heap [] 0 0 (MQ below (QC Z wc s.heap.size post) as.toArray s mc ms A) (F0 m 0 ls [])) : MC l y b nL ret fr lo mc ms Z wc ro as post := by
  intro sz
  refine Met.ofW (cc := b) (maxL := nL) (ret := ret) hy rfl ?_
  intro p e s m args below meth c s₁ B hml hv
  obtain ⟨rfl, hsz, hP, hK, hD0, hG, hro⟩ := hv
  subst hsz
  have hts0 := atoms_spec (ws := Cond.code y b nL ret :: TB) B.pre
  have hl := lv_entry as (n := nL) hlen
  have hin : meth.name = y.name := (name_of_methodNamed B.named B.method).1
  have k := body p e s m below meth c _ (va_A wc s.heap.size) B.exec B.bytes B.returns (fun w hw => hts0 w (List.mem_cons_of_mem _ hw)) (findClass_of_methodNamed B.named) B.notSynchronized hml hin hK hG ⟨hP, hD0.self, va_S.rf⟩ (fun q h => Or.inr h) rfl hro hl { frames := fr, cells := mc, slots := ms, locals := lo } rfl rfl rfl rfl
  rw [lg_entry_eq]
  exact k
/-! ends of a body -/
section En
variable {p : Program} {l : Launch} {e : Env} {R : Room} {s : State} {m : MethodId} {args : Array Value} {below : List Frame} {meth : Method} {c : Code} {H : Heap} {locs : List Loc} {cells slots mc ms : Nat}
variable {cc : ByteArray} {pc : Nat} {ls : Array Slot} {Z : Zt} {A : Nat → Prop} {wc ws : va_W} {post : Option Value → va_W → Prop}
theorem e_qc (hAe : A = va_A wc s.heap.size) (hW : Wd Z A s.heap ws H locs) {v : Option Value} (hp : post v ws) : ∀ t : State, t.heap = H → s.WarmedH t.vm → QC Z wc s.heap.size post args s (.returned v) t := by
  subst hAe
  intro t ht _
  exact ⟨⟨v, ws, rfl, hp, by rw [ht]; exact hW.1, hW.2.1⟩, hW.2.2.F ht⟩
theorem e_int (hx : p.tables.exec = Jvm.exec) (hb : c.code = cc) (hr : meth.sig.returnType = some .int) (hlk : meth.locks = false) (hAe : A = va_A wc s.heap.size) (hW : Wd Z A s.heap ws H locs) (hc : cells ≤ mc) (hs : slots ≤ ms) {v : Int32} (hdg : decode cc pc = .ok (.ireturn, 1)) (hp : post (some (.int v)) ws) : W p l e R s m args below meth c H locs cells slots (MQ below (QC Z wc s.heap.size post) args s mc ms A) (F0 m pc ls [.int v]) :=
  W.widen hc hs (W.iret hx hb hr (e_qc hAe hW hp) hW.2.2.2.2 hdg hlk)
theorem e_bool (hx : p.tables.exec = Jvm.exec) (hb : c.code = cc) (hr : meth.sig.returnType = some .boolean) (hlk : meth.locks = false) (hAe : A = va_A wc s.heap.size) (hW : Wd Z A s.heap ws H locs) (hc : cells ≤ mc) (hs : slots ≤ ms) {v : Int32} (hn : narrow .boolean (.int v) = .int v) (hdg : decode cc pc = .ok (.ireturn, 1)) (hp : post (some (.int v)) ws) : W p l e R s m args below meth c H locs cells slots (MQ below (QC Z wc s.heap.size post) args s mc ms A) (F0 m pc ls [.int v]) :=
  W.widen hc hs (W.zret hx hb hr hn (e_qc hAe hW hp) hW.2.2.2.2 hdg hlk)
theorem e_long (hx : p.tables.exec = Jvm.exec) (hb : c.code = cc) (hr : meth.sig.returnType = some .long) (hlk : meth.locks = false) (hAe : A = va_A wc s.heap.size) (hW : Wd Z A s.heap ws H locs) (hc : cells ≤ mc) (hs : slots ≤ ms) {v : Int64} (hdg : decode cc pc = .ok (.lreturn, 1)) (hp : post (some (.long v)) ws) : W p l e R s m args below meth c H locs cells slots (MQ below (QC Z wc s.heap.size post) args s mc ms A) (F0 m pc ls [.long v]) :=
  W.widen hc hs (W.lret hx hb hr (e_qc hAe hW hp) hW.2.2.2.2 hdg hlk)
theorem e_ref (hx : p.tables.exec = Jvm.exec) (hb : c.code = cc) {rt : FieldType} (hr : meth.sig.returnType = some rt) (hrt : (∃ n, rt = .object n) ∨ ∃ t, rt = .array t) (hlk : meth.locks = false) (hAe : A = va_A wc s.heap.size) (hW : Wd Z A s.heap ws H locs) (hc : cells ≤ mc) (hs : slots ≤ ms) {v : Nat} (hdg : decode cc pc = .ok (.areturn, 1)) (hp : post (some (.ref v)) ws) : W p l e R s m args below meth c H locs cells slots (MQ below (QC Z wc s.heap.size post) args s mc ms A) (F0 m pc ls [.ref v]) :=
  W.widen hc hs (W.aret hx hb hr hrt (Or.inr ⟨_, rfl⟩) (e_qc hAe hW hp) hW.2.2.2.2 hdg hlk)
theorem e_void (hx : p.tables.exec = Jvm.exec) (hb : c.code = cc) (hr : meth.sig.returnType = none) (hlk : meth.locks = false) (hAe : A = va_A wc s.heap.size) (hW : Wd Z A s.heap ws H locs) (hc : cells ≤ mc) (hs : slots ≤ ms) (hdg : decode cc pc = .ok (.return_, 1)) (hp : post none ws) : W p l e R s m args below meth c H locs cells slots (MQ below (QC Z wc s.heap.size post) args s mc ms A) (F0 m pc ls []) :=
  W.widen hc hs (W.vret hx hb hr (e_qc hAe hW hp) hW.2.2.2.2 hdg hlk)
end En
