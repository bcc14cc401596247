section
-- ===== PART A: goes FIRST, ahead of the names: the tables' words, and 'selects' of the private methods out of them =====
/-- a private method of a class that the tables say can be made, by its rows of tables_1 -/
def lw_okq (q : MethodName × Nat) : Prop := (q.1.cls ≠ "java/lang/invoke/MethodHandle" ∧ q.1.cls ≠ "java/lang/invoke/VarHandle") ∧ Cond.instantiable q.1.cls q.2 ∈ tables_1 ∧ Cond.privateMethod q.1 ∈ tables_1 ∧ Cond.instanceMethod q.1 ∈ tables_1
theorem lw_p0 : lw_okq (⟨"java/lang/Throwable", "fillInStackTrace", "(I)Ljava/lang/Throwable;"⟩, 6) := ⟨⟨by decide +kernel, by decide +kernel⟩, List.mem_of_getElem? (i := 172) (by decide +kernel), List.mem_of_getElem? (i := 170) (by decide +kernel), List.mem_of_getElem? (i := 171) (by decide +kernel)⟩
theorem lw_p1 : lw_okq (⟨"VectorBench", "needRoom", "(I)V"⟩, 4) := ⟨⟨by decide +kernel, by decide +kernel⟩, List.mem_of_getElem? (i := 27) (by decide +kernel), List.mem_of_getElem? (i := 202) (by decide +kernel), List.mem_of_getElem? (i := 203) (by decide +kernel)⟩
theorem lw_p2 : lw_okq (⟨"VectorBench", "keep", "(LVectorBench$Vector;I)I"⟩, 4) := ⟨⟨by decide +kernel, by decide +kernel⟩, List.mem_of_getElem? (i := 27) (by decide +kernel), List.mem_of_getElem? (i := 262) (by decide +kernel), List.mem_of_getElem? (i := 263) (by decide +kernel)⟩
theorem lw_p3 : lw_okq (⟨"java/util/ArrayList", "add", "(Ljava/lang/Object;[Ljava/lang/Object;I)V"⟩, 3) := ⟨⟨by decide +kernel, by decide +kernel⟩, List.mem_of_getElem? (i := 72) (by decide +kernel), List.mem_of_getElem? (i := 270) (by decide +kernel), List.mem_of_getElem? (i := 271) (by decide +kernel)⟩
theorem lw_p4 : lw_okq (⟨"java/util/ArrayList", "grow", "()[Ljava/lang/Object;"⟩, 3) := ⟨⟨by decide +kernel, by decide +kernel⟩, List.mem_of_getElem? (i := 72) (by decide +kernel), List.mem_of_getElem? (i := 274) (by decide +kernel), List.mem_of_getElem? (i := 275) (by decide +kernel)⟩
theorem lw_p5 : lw_okq (⟨"java/util/ArrayList", "grow", "(I)[Ljava/lang/Object;"⟩, 3) := ⟨⟨by decide +kernel, by decide +kernel⟩, List.mem_of_getElem? (i := 72) (by decide +kernel), List.mem_of_getElem? (i := 278) (by decide +kernel), List.mem_of_getElem? (i := 279) (by decide +kernel)⟩
theorem lw_p6 : lw_okq (⟨"VectorBench", "bitsOf", "(I)[I"⟩, 4) := ⟨⟨by decide +kernel, by decide +kernel⟩, List.mem_of_getElem? (i := 27) (by decide +kernel), List.mem_of_getElem? (i := 338) (by decide +kernel), List.mem_of_getElem? (i := 339) (by decide +kernel)⟩
theorem lw_p7 : lw_okq (⟨"VectorBench", "reckonTwo", "(I[I[I)[I"⟩, 4) := ⟨⟨by decide +kernel, by decide +kernel⟩, List.mem_of_getElem? (i := 27) (by decide +kernel), List.mem_of_getElem? (i := 404) (by decide +kernel), List.mem_of_getElem? (i := 405) (by decide +kernel)⟩
theorem lw_p8 : lw_okq (⟨"VectorBench", "reckonComparison", "(I[I[I)I"⟩, 4) := ⟨⟨by decide +kernel, by decide +kernel⟩, List.mem_of_getElem? (i := 27) (by decide +kernel), List.mem_of_getElem? (i := 677) (by decide +kernel), List.mem_of_getElem? (i := 678) (by decide +kernel)⟩
theorem lw_p9 : lw_okq (⟨"VectorBench$Circuit", "settle", "(I)V"⟩, 6) := ⟨⟨by decide +kernel, by decide +kernel⟩, List.mem_of_getElem? (i := 41) (by decide +kernel), List.mem_of_getElem? (i := 762) (by decide +kernel), List.mem_of_getElem? (i := 763) (by decide +kernel)⟩
theorem lw_p10 : lw_okq (⟨"VectorBenchModel", "add", "(ZIIIIII)I"⟩, 9) := ⟨⟨by decide +kernel, by decide +kernel⟩, List.mem_of_getElem? (i := 774) (by decide +kernel), List.mem_of_getElem? (i := 817) (by decide +kernel), List.mem_of_getElem? (i := 818) (by decide +kernel)⟩
theorem lw_p11 : lw_okq (⟨"VectorBenchModel", "is", "(I)Z"⟩, 9) := ⟨⟨by decide +kernel, by decide +kernel⟩, List.mem_of_getElem? (i := 774) (by decide +kernel), List.mem_of_getElem? (i := 834) (by decide +kernel), List.mem_of_getElem? (i := 835) (by decide +kernel)⟩
theorem lw_p12 : lw_okq (⟨"VectorBenchModel", "areAlike", "(II)Z"⟩, 9) := ⟨⟨by decide +kernel, by decide +kernel⟩, List.mem_of_getElem? (i := 774) (by decide +kernel), List.mem_of_getElem? (i := 842) (by decide +kernel), List.mem_of_getElem? (i := 843) (by decide +kernel)⟩
theorem lw_p13 : lw_okq (⟨"VectorBenchModel", "reckonAll", "()V"⟩, 9) := ⟨⟨by decide +kernel, by decide +kernel⟩, List.mem_of_getElem? (i := 774) (by decide +kernel), List.mem_of_getElem? (i := 877) (by decide +kernel), List.mem_of_getElem? (i := 878) (by decide +kernel)⟩
theorem lw_p14 : lw_okq (⟨"VectorBenchModel", "reckon", "(I)J"⟩, 9) := ⟨⟨by decide +kernel, by decide +kernel⟩, List.mem_of_getElem? (i := 774) (by decide +kernel), List.mem_of_getElem? (i := 881) (by decide +kernel), List.mem_of_getElem? (i := 882) (by decide +kernel)⟩
def lw_privs_1 : List (MethodName × Nat) := [(⟨"java/lang/Throwable", "fillInStackTrace", "(I)Ljava/lang/Throwable;"⟩, 6), (⟨"VectorBench", "needRoom", "(I)V"⟩, 4), (⟨"VectorBench", "keep", "(LVectorBench$Vector;I)I"⟩, 4), (⟨"java/util/ArrayList", "add", "(Ljava/lang/Object;[Ljava/lang/Object;I)V"⟩, 3), (⟨"java/util/ArrayList", "grow", "()[Ljava/lang/Object;"⟩, 3), (⟨"java/util/ArrayList", "grow", "(I)[Ljava/lang/Object;"⟩, 3), (⟨"VectorBench", "bitsOf", "(I)[I"⟩, 4), (⟨"VectorBench", "reckonTwo", "(I[I[I)[I"⟩, 4), (⟨"VectorBench", "reckonComparison", "(I[I[I)I"⟩, 4), (⟨"VectorBench$Circuit", "settle", "(I)V"⟩, 6), (⟨"VectorBenchModel", "add", "(ZIIIIII)I"⟩, 9), (⟨"VectorBenchModel", "is", "(I)Z"⟩, 9), (⟨"VectorBenchModel", "areAlike", "(II)Z"⟩, 9), (⟨"VectorBenchModel", "reckonAll", "()V"⟩, 9), (⟨"VectorBenchModel", "reckon", "(I)J"⟩, 9)]
theorem lw_r1 : ∀ q ∈ lw_privs_1, lw_okq q := List.forall_mem_cons.mpr ⟨lw_p0, List.forall_mem_cons.mpr ⟨lw_p1, List.forall_mem_cons.mpr ⟨lw_p2, List.forall_mem_cons.mpr ⟨lw_p3, List.forall_mem_cons.mpr ⟨lw_p4, List.forall_mem_cons.mpr ⟨lw_p5, List.forall_mem_cons.mpr ⟨lw_p6, List.forall_mem_cons.mpr ⟨lw_p7, List.forall_mem_cons.mpr ⟨lw_p8, List.forall_mem_cons.mpr ⟨lw_p9, List.forall_mem_cons.mpr ⟨lw_p10, List.forall_mem_cons.mpr ⟨lw_p11, List.forall_mem_cons.mpr ⟨lw_p12, List.forall_mem_cons.mpr ⟨lw_p13, List.forall_mem_cons.mpr ⟨lw_p14, fun _ h => absurd h List.not_mem_nil⟩⟩⟩⟩⟩⟩⟩⟩⟩⟩⟩⟩⟩⟩⟩
def lw_privs : List (MethodName × Nat) := lw_privs_1
def lw_tbl : List Cond := k2_sels lw_privs ++ tables_1
theorem lw_privs_ok : ∀ q ∈ lw_privs, lw_okq q := lw_r1
/-- the words that every contract here stands on: all good words of the tables -/
def TB : List Cond := lw_tbl.filter goodWord
theorem TB_good {w : Cond} (h : w ∈ TB) : goodWord w = true := (List.mem_filter.mp h).2
theorem TB_tbl {w : Cond} (h : w ∈ TB) : w ∈ lw_tbl := (List.mem_filter.mp h).1
theorem TB_of {w : Cond} (k : Nat) (h : tables_1[k]? = some w) (g : goodWord w = true) : w ∈ TB := List.mem_filter.mpr ⟨List.mem_append_right _ (List.mem_of_getElem? h), g⟩
theorem TB_sel {w : Cond} (k : Nat) (h : (k2_sels lw_privs)[k]? = some w) (g : goodWord w = true) : w ∈ TB := List.mem_filter.mpr ⟨List.mem_append_left _ (List.mem_of_getElem? h), g⟩
end
section
/-! ===== BEGIN words of one list among another's, by their places ===== -/
theorem goodIn_r {big : List Cond} (ws : List Cond) (ps : List Nat) (hp : ws = ps.filterMap (fun i => big[i]?)) (h : ws.all goodWord = true) : GoodIn big ws := by
  intro w hw
  have h1 := List.all_eq_true.mp h w hw
  rw [hp] at hw
  obtain ⟨i, -, hi⟩ := List.mem_filterMap.mp hw
  have hm : w ∈ big := by first | exact List.mem_of_getElem? hi | exact List.getElem?_mem hi
  exact ⟨hm, good_of_word h1⟩
theorem goodIn_app {big a b : List Cond} (ha : GoodIn big a) (hb : GoodIn big b) : GoodIn big (a ++ b) := fun w h => (List.mem_append.mp h).elim (ha w) (hb w)
theorem goodIn_ca {big a b : List Cond} {c : Cond} (ha : GoodIn big (c :: a)) (hb : GoodIn big b) : GoodIn big (c :: (a ++ b)) := fun w h => (List.mem_cons.mp h).elim (fun e => ha w (List.mem_cons.mpr (Or.inl e))) (fun h => (List.mem_append.mp h).elim (fun h => ha w (List.mem_cons.mpr (Or.inr h))) (hb w))
theorem goodIn_sub {big ws : List Cond} (hm : ∀ w ∈ ws, w ∈ big) (h : ws.all goodWord = true) : GoodIn big ws := fun w hw => ⟨hm w hw, good_of_word (List.all_eq_true.mp h w hw)⟩
/-! ===== END ===== -/

/-! ===== BEGIN exceptions that leave a method, and their catching by the caller (launches without stack traces) ===== -/
section VXA
/-! The laws vx_back, vx_callV, vx_callS, vx_callSW, vx_throw0, vx_throwS follow proofs of the library, with one case more: JvmDerived/Free/Laws.lean (Back.of_free), Shelf42/LK1.lean (callV, callS), Shelf/KitTraced.lean (throwNew0V, throwNewS). -/
/-- where a method has thrown q: the class by its name, the cell, what was written, the world -/
def vx_T (XC : String → State → State → Prop) (st : State) (q : Addr) (t : State) (mc ms : Nat) (free : Addr → Prop) : Prop :=
  ∃ (E : String) (ce : Cell) (L : List Loc), XC E st t ∧ t.heap[q]? = some ce ∧ ce.vm = .none ∧ st.vm.findClass E = some ce.cls ∧ st.WarmedH t.vm ∧ st.sameButNew ({ t with vm := st.vm } : State) L mc ms ∧ ∀ z ∈ L, free z.base
def vx_Q (Qc : Array Value → State → Outcome → State → Prop) (XC : String → State → State → Prop) (mc ms : Nat) (free : Addr → Prop) : Array Value → State → Outcome → State → Prop := fun a st o t =>
  (Qc a st o t ∧ ∃ L, FrameEnd st o t L mc ms ∧ ∀ q ∈ L, free q.base) ∨ ∃ q, o = .threw q ∧ vx_T XC st q t mc ms free
/-- a callee that returns or throws -/
def vx_Met (l : Launch) (y : MethodName) (ws : List Cond) (rm : Room) (Pc : Array Value → State → Prop) (Qc : Array Value → State → Outcome → State → Prop) (XC : String → State → State → Prop) (mc ms : Nat) (free : Addr → Prop) : Prop :=
  MetFree l y (headSpec ws rm) Pc (fun _ _ _ _ _ => True) (vx_Q Qc XC mc ms free)
def vx_Post (XC : String → State → State → Prop) (mc ms : Nat) (free : Addr → Prop) : Pt → Array Value → Addr → Pt → Prop := fun A a q B =>
  ∃ (g : JFrame) (mk : MethodId) (t : State) (L : List Loc) (E : String) (ce : Cell), B.U.heap = t.heap ∧ B.U.vm = t.vm ∧ XC E (A.U.calling g mk a) t ∧ t.heap[q]? = some ce ∧ ce.vm = .none ∧ A.U.vm.findClass E = some ce.cls ∧ B.locs = A.locs ++ L ∧ (∀ z ∈ L, free z.base) ∧ B.cells = A.cells + mc ∧ B.slots = A.slots + ms
def vx_Back (l : Launch) (R : Room) (p : Program) (e : Env) (below : List Frame) (s : State) (sargs : Array Value) (y : MethodName) (len W9 : Nat)
    (Pre : Pt → Array Value → Prop) (Post : Pt → Array Value → Option Value → Pt → Prop) (PostX : Pt → Array Value → Addr → Pt → Prop) : Prop :=
  ∀ (m : MethodId) (meth : Method) (c : Code) (A : Pt) (g : JFrame) (ig : Instr) (mk : MethodId) (a : Array Value),
    Stand p l e R s m sargs below meth c A.U A.locs A.cells A.slots → g.method = m → g.locals.size = c.maxLocals → decode c.code g.pc = .ok (ig, len) →
    2 * g.monitorRoom + (g.stack.map fun v => v.category).sum ≤ W9 → A.U.methodNamed? y = some mk → Pre A a →
    (∃ (v : Option Value) (B : Pt), Stand p l e R s m sargs below meth c B.U B.locs B.cells B.slots ∧ Post A a v B ∧
      Steps p.tables e below (doInvoke e (A.U.setTop g) [] mk a).1 (B.U.setTop { g with pc := g.pc + len, stack := v.toList ++ g.stack })) ∨
    (∃ (q : Addr) (B : Pt), Stand p l e R s m sargs below meth c B.U B.locs B.cells B.slots ∧ PostX A a q B ∧
      Steps p.tables e below (doInvoke e (A.U.setTop g) [] mk a).1 ((B.U.setTop g).pushFrame (.throwing q)))
section Payer
variable {l : Launch} {R : Room} {p : Program} {e : Env} {below : List Frame} {s : State} {sargs : Array Value} {y : MethodName} {len W9 : Nat}
theorem vx_back {ws : List Cond} {rm : Room} {Pc : Array Value → State → Prop} {Qc : Array Value → State → Outcome → State → Prop} {XC : String → State → State → Prop} {mc ms : Nat} {free : Addr → Prop} {bytes : ByteArray} {maxL : Nat} {ret : Option FieldType}
    (hM : vx_Met l y ws rm Pc Qc XC mc ms free) (hblind : FrameBlind Pc) (hrc : rm.cells = mc) (hrs : rm.slots = ms)
    (hframes : rm.frames + 1 ≤ R.frames) (hlocals : W9 + (maxL + 11) + rm.locals ≤ R.locals)
    (hws : ∀ w ∈ ws, ∀ a' U, s.WarmedH U.vm → w.before a' U = true) (hcode : Cond.code y bytes maxL ret ∈ ws) (hinit : ∀ a' U, s.WarmedH U.vm → (Cond.initialized y.cls).before a' U = true) :
    vx_Back l R p e below s sargs y len W9 (PreOf R mc ms Pc) (PostOf Qc mc ms free) (vx_Post XC mc ms free) := by
  intro m meth c A g ig mk a X hg hsize hdg hW hn hp
  have h1 : (headSpec ws rm).pre.before a A.U = true := atoms_intro fun w hw => hws w hw _ _ X.warmed
  have h2 : (Cond.code y bytes maxL ret).before a A.U = true := hws _ hcode _ _ X.warmed
  have h3 : (Cond.initialized y.cls).before a A.U = true := hinit _ _ X.warmed
  have h4 : A.cells + (headSpec ws rm).room.cells ≤ R.cells := by rw [show (headSpec ws rm).room.cells = mc from hrc]; exact hp.1
  have h5 : A.slots + (headSpec ws rm).room.slots ≤ R.slots := by rw [show (headSpec ws rm).room.slots = ms from hrs]; exact hp.2.1
  have hPc : Pc a (A.U.calling g mk a) := hblind _ _ _ _ hp.2.2
  obtain ⟨U, Ls, c0, s0⟩ := A
  dsimp only [Pt.U, Pt.locs, Pt.cells, Pt.slots] at h1 h2 h3 h4 h5 X hn hPc ⊢
  obtain ⟨methY, cY, hmY, hcY, -, hlY, -, -, -, -⟩ := Cond.code_spec hn h2
  obtain ⟨kY, hkY, -⟩ := className_of_methodNamed hn
  have hinitY : kY.init = .initialized := Cond.initialized_spec (findClass_of_methodNamed hn) hkY h3
  have h : At U g.method c below := by rw [hg]; exact X.here
  have hlocals9 : W9 + (maxL + 11) + (headSpec ws rm).room.locals ≤ R.locals := hlocals
  have happ : (headSpec ws rm).appliesLoose y e.platform (U.calling g mk a) = true :=
    Spec.appliesLoose_calling (g := g) h hdg hn hkY hinitY
      (X.room_calling (g := g) (R' := (headSpec ws rm).room) hsize hmY hcY hframes (by rw [hlY]; omega) h4 h5) h1
  obtain ⟨mid, hmid⟩ := h.above
  have hfr : (U.setTop g).frames = (.java g :: mid) ++ below := by rw [State.frames_setTop' g h.top, hmid]; rfl
  obtain ⟨o, s₂, hsteps, -, hend, hq⟩ := Steps.callFree hM p X.admits X.cas X.clock (acts := []) hfr happ hPc trivial
  have hq' : vx_Q Qc XC mc ms free a (U.calling g mk a) o s₂ := hq
  rw [State.frames_setTop' g h.top] at hend
  obtain ⟨g₀, hg0⟩ := Option.isSome_iff_exists.mp h.top
  obtain ⟨r, hr⟩ := State.topJava?_eq_some.mp hg0
  have hr' : (({ U with heap := s₂.heap, slotsUsed := s₂.slotsUsed } : State).setVm s₂.vm).frames = .java g₀ :: r := hr
  rcases hq' with ⟨hqc, L, hfe, hL⟩ | ⟨q, rfl, E, ce, L, hx, hce, hcv, hcl, hW₂, hsm, hL⟩
  · obtain ⟨⟨v, rfl⟩, hW₂, e2, q2, q3, q4, q5, q6⟩ := id hfe
    have e3 : s₂ = ({ (U.calling g mk a).setFrames s₂.frames with heap := s₂.heap, slotsUsed := s₂.slotsUsed } : State).setVm s₂.vm := by
      have : s₂ = ({ s₂ with vm := (U.calling g mk a).vm } : State).setVm s₂.vm := rfl
      rw [e2] at this
      exact this
    obtain ⟨c₂, i₂, len₂, hc₂, hd₂, hf₂⟩ := hend
    have hW' : U.WarmedH s₂.vm := hW₂
    have hcc : c₂ = c := by
      have h1 : s₂.code? g.method = U.code? g.method := by
        rw [State.code?_eq, State.code?_eq, hW'.alike.method?]
      exact Option.some.inj (hc₂.symm.trans (h1.trans h.code))
    subst hcc
    have hlen : len₂ = len := by rw [hdg] at hd₂; cases hd₂; rfl
    subst hlen
    have hs₂ : s₂ = (({ U with heap := s₂.heap, slotsUsed := s₂.slotsUsed } : State).setVm s₂.vm).setTop { g with pc := g.pc + len₂, stack := v.toList ++ g.stack } := by
      refine e3.trans ?_
      rw [hf₂, State.calling_eq h.top, State.setFrames_setFrames, State.setTop_of_frames _ hr', hr]
      rfl
    have hsame : U.sameButNew ({ U with heap := s₂.heap, slotsUsed := s₂.slotsUsed } : State) L mc ms := by
      refine ⟨?_, q2, q3, q4, q5, q6⟩
      obtain ⟨t, ht, -⟩ := State.frames_cons hr
      show ({ U with heap := s₂.heap, slotsUsed := s₂.slotsUsed } : State) = { U.setFrames U.frames with heap := s₂.heap, slotsUsed := s₂.slotsUsed }
      rw [State.setFrames_self ht]
    subst hg
    refine Or.inl ⟨v, ⟨(({ U with heap := s₂.heap, slotsUsed := s₂.slotsUsed } : State).setVm s₂.vm), Ls ++ L, c0 + mc, s0 + ms⟩,
      ⟨X.admits, X.cas, X.clock, X.frames, X.room, X.hears, X.method, X.code, (X.here.setHeapUsed s₂.heap s₂.slotsUsed).setVm hW'.alike, X.tail, State.WarmedH.trans X.warmed hW', X.limits, X.bytes, X.same.trans (hsame.setVm s.vm)⟩,
      ⟨g, mk, s₂, L, rfl, rfl, hqc, rfl, hL, rfl, rfl⟩, ?_⟩
    show Steps p.tables e below _ ((({ U with heap := s₂.heap, slotsUsed := s₂.slotsUsed } : State).setVm s₂.vm).setTop { g with pc := g.pc + len₂, stack := v.toList ++ g.stack })
    rw [← hs₂]
    exact hsteps
  · obtain ⟨e2, q2, q3, q4, q5, q6⟩ := id hsm
    have e3 : s₂ = ({ (U.calling g mk a).setFrames s₂.frames with heap := s₂.heap, slotsUsed := s₂.slotsUsed } : State).setVm s₂.vm := by
      have : s₂ = ({ s₂ with vm := (U.calling g mk a).vm } : State).setVm s₂.vm := rfl
      rw [e2] at this
      exact this
    have hf₂ : s₂.frames = .throwing q :: .java g :: U.frames.tail := hend
    have hW' : U.WarmedH s₂.vm := hW₂
    have hs₂ : s₂ = ((({ U with heap := s₂.heap, slotsUsed := s₂.slotsUsed } : State).setVm s₂.vm).setTop g).pushFrame (.throwing q) := by
      refine e3.trans ?_
      rw [hf₂, State.calling_eq h.top, State.setFrames_setFrames, State.pushFrame, State.frames_setTop _ hr', State.setTop_of_frames _ hr', State.setFrames_setFrames, hr]
      rfl
    have hsame : U.sameButNew ({ U with heap := s₂.heap, slotsUsed := s₂.slotsUsed } : State) L mc ms := by
      refine ⟨?_, q2, q3, q4, q5, q6⟩
      obtain ⟨t, ht, -⟩ := State.frames_cons hr
      show ({ U with heap := s₂.heap, slotsUsed := s₂.slotsUsed } : State) = { U.setFrames U.frames with heap := s₂.heap, slotsUsed := s₂.slotsUsed }
      rw [State.setFrames_self ht]
    subst hg
    refine Or.inr ⟨q, ⟨(({ U with heap := s₂.heap, slotsUsed := s₂.slotsUsed } : State).setVm s₂.vm), Ls ++ L, c0 + mc, s0 + ms⟩,
      ⟨X.admits, X.cas, X.clock, X.frames, X.room, X.hears, X.method, X.code, (X.here.setHeapUsed s₂.heap s₂.slotsUsed).setVm hW'.alike, X.tail, State.WarmedH.trans X.warmed hW', X.limits, X.bytes, X.same.trans (hsame.setVm s.vm)⟩,
      ⟨g, mk, s₂, L, E, ce, rfl, rfl, hx, hce, hcv, hcl, rfl, hL, rfl, rfl⟩, ?_⟩
    show Steps p.tables e below _ (((({ U with heap := s₂.heap, slotsUsed := s₂.slotsUsed } : State).setVm s₂.vm).setTop g).pushFrame (.throwing q))
    rw [← hs₂]
    exact hsteps
end Payer
section Calls
variable {p : Program} {l : Launch} {e : Env} {R : Room} {s : State} {m : MethodId} {args : Array Value} {below : List Frame} {meth : Method} {c : Code} {T : State} {locs : List Loc} {cells slots : Nat}
theorem vx_callV (X : Stand p l e R s m args below meth c T locs cells slots) (hexec : p.tables.exec = Jvm.exec) {own C : String} {index : Nat} {y : MethodName} {bytes : ByteArray} {maxL : Nat} {ret : Option FieldType}
    (hown : s.vm.findClass own = some m.cls) (hlink : (Cond.methodLink own index y).before args s = true) (hinst : (Cond.instanceMethod y).before args s = true) (hsel : (Cond.selects C y y).before args s = true)
    (hcode : (Cond.code y bytes maxL ret).before args s = true) (hy : y.cls ≠ "java/lang/invoke/MethodHandle" ∧ y.cls ≠ "java/lang/invoke/VarHandle")
    {W9 : Nat} {Pre : Pt → Array Value → Prop} {Post : Pt → Array Value → Option Value → Pt → Prop} {PostX : Pt → Array Value → Addr → Pt → Prop} (hK : vx_Back l R p e below s args y 3 W9 Pre Post PostX)
    {b : Addr} {cellB : Cell} (hcell : T.heap[b]? = some cellB) (hobj : cellB.vm.isStatics = false) (hcls : s.vm.findClass C = some cellB.cls)
    {g : JFrame} (hg : g.method = m) (hsize : g.locals.size = c.maxLocals) {argsL rest : List Value} (hlen : ∀ sig, parseMethodDescriptor y.desc = some sig → argsL.length = sig.parameters.length)
    (hstack : g.stack = argsL.reverse ++ .ref b :: rest) (hW : 2 * g.monitorRoom + (rest.map fun v => v.category).sum ≤ W9) (hdg : decode c.code g.pc = .ok (.invokevirtual index, 3))
    (hpre : ∀ vm₁, s.WarmedH vm₁ → Pre ⟨T.setVm vm₁, locs, cells, slots⟩ (Value.ref b :: argsL).toArray) :
    (∃ (v : Option Value) (vm₁ : Vm) (B : Pt), s.WarmedH vm₁ ∧ Stand p l e R s m args below meth c B.U B.locs B.cells B.slots ∧ Post ⟨T.setVm vm₁, locs, cells, slots⟩ (Value.ref b :: argsL).toArray v B ∧
      ∀ target, Steps p.tables e below (B.U.setTop { g with pc := g.pc + 3, stack := v.toList ++ rest }) target → Steps p.tables e below (T.setTop g) target) ∨
    (∃ (q : Addr) (vm₁ : Vm) (B : Pt), s.WarmedH vm₁ ∧ Stand p l e R s m args below meth c B.U B.locs B.cells B.slots ∧ PostX ⟨T.setVm vm₁, locs, cells, slots⟩ (Value.ref b :: argsL).toArray q B ∧
      Steps p.tables e below (T.setTop g) ((B.U.setTop { g with stack := rest }).pushFrame (.throwing q))) := by
  obtain ⟨mk, methM, hnamed, hmethM, hstM, habM⟩ := Cond.instanceMethod_spec hinst
  obtain ⟨methM', cM, hmethM', -, -, -, -, -, -, hsigM⟩ := Cond.code_spec hnamed hcode
  cases hmethM.symm.trans hmethM'
  obtain ⟨c2, r2, m2, q1, q2, q3, q4, kP, hkP, hkPi⟩ := Cond.selects_spec hsel
  cases hcls.symm.trans q1
  cases (State.methodFound?_of_named hnamed hy).symm.trans q2
  cases hnamed.symm.trans q3
  have hselP : selectMethod e.platform s.vm cellB.cls mk = .method mk := by rw [Launch.admits_selectMethod X.admits]; exact q4
  obtain ⟨vm₁, X₁, hstep₁⟩ := X.invokevirtual hexec hown hlink hnamed hmethM hstM hkP hkPi hy (a := b) (cell := cellB) hcell
    (fun z h => by rw [h] at hobj; cases hobj) hselP hmethM habM hkP hkPi (g := g) hg (argsL := argsL) (rest := rest) (hlen _ hsigM) hstack hdg
  rcases hK m meth c ⟨T.setVm vm₁, locs, cells, slots⟩ { g with stack := rest } (.invokevirtual index) mk (Value.ref b :: argsL).toArray X₁ hg hsize hdg hW (X₁.named hnamed) (hpre vm₁ X₁.warmed) with ⟨v, B, X', hpost, hsteps⟩ | ⟨q, B, X', hpost, hsteps⟩
  · exact Or.inl ⟨v, vm₁, B, X₁.warmed, X', hpost, fun target h => hstep₁ _ fun acts => by rw [doInvoke_state]; exact hsteps.trans h⟩
  · exact Or.inr ⟨q, vm₁, B, X₁.warmed, X', hpost, hstep₁ _ fun acts => by rw [doInvoke_state]; exact hsteps⟩
theorem vx_callS (X : Stand p l e R s m args below meth c T locs cells slots) (hexec : p.tables.exec = Jvm.exec) {own : String} {index : Nat} {y : MethodName} {bytes : ByteArray} {maxL : Nat} {ret : Option FieldType}
    (hown : s.vm.findClass own = some m.cls) (hlink : (Cond.methodLink own index y).before args s = true) (hstat : (Cond.static y).before args s = true) (hinit : (Cond.initialized y.cls).before args s = true)
    (hcode : (Cond.code y bytes maxL ret).before args s = true) (hy : y.cls ≠ "java/lang/invoke/MethodHandle" ∧ y.cls ≠ "java/lang/invoke/VarHandle")
    {W9 : Nat} {Pre : Pt → Array Value → Prop} {Post : Pt → Array Value → Option Value → Pt → Prop} {PostX : Pt → Array Value → Addr → Pt → Prop} (hK : vx_Back l R p e below s args y 3 W9 Pre Post PostX)
    {g : JFrame} (hg : g.method = m) (hsize : g.locals.size = c.maxLocals) {argsL rest : List Value} (hlen : ∀ sig, parseMethodDescriptor y.desc = some sig → argsL.length = sig.parameters.length)
    (hstack : g.stack = argsL.reverse ++ rest) (hW : 2 * g.monitorRoom + (rest.map fun v => v.category).sum ≤ W9) (hdg : decode c.code g.pc = .ok (.invokestatic index, 3))
    (hpre : ∀ vm₁, s.WarmedH vm₁ → Pre ⟨T.setVm vm₁, locs, cells, slots⟩ argsL.toArray) :
    (∃ (v : Option Value) (vm₁ : Vm) (B : Pt), s.WarmedH vm₁ ∧ Stand p l e R s m args below meth c B.U B.locs B.cells B.slots ∧ Post ⟨T.setVm vm₁, locs, cells, slots⟩ argsL.toArray v B ∧
      ∀ target, Steps p.tables e below (B.U.setTop { g with pc := g.pc + 3, stack := v.toList ++ rest }) target → Steps p.tables e below (T.setTop g) target) ∨
    (∃ (q : Addr) (vm₁ : Vm) (B : Pt), s.WarmedH vm₁ ∧ Stand p l e R s m args below meth c B.U B.locs B.cells B.slots ∧ PostX ⟨T.setVm vm₁, locs, cells, slots⟩ argsL.toArray q B ∧
      Steps p.tables e below (T.setTop g) ((B.U.setTop { g with stack := rest }).pushFrame (.throwing q))) := by
  obtain ⟨mk, hnamed⟩ := Cond.code_named hcode
  obtain ⟨methM, cM, hmethM, -, -, -, -, -, -, hsigM⟩ := Cond.code_spec hnamed hcode
  have hstatic : methM.isStatic = true := Cond.static_spec hnamed hmethM hstat
  obtain ⟨kP, hkP, -⟩ := className_of_methodNamed hnamed
  have hinitP : kP.init = .initialized := Cond.initialized_spec (findClass_of_methodNamed hnamed) hkP hinit
  obtain ⟨vm₁, X₁, hstep₁⟩ := X.invokestatic hexec hown hlink hnamed hmethM hstatic hkP hinitP hy (g := g) hg (argsL := argsL) (rest := rest) (hlen _ hsigM) hstack hdg
  rcases hK m meth c ⟨T.setVm vm₁, locs, cells, slots⟩ { g with stack := rest } (.invokestatic index) mk argsL.toArray X₁ hg hsize hdg hW (X₁.named hnamed) (hpre vm₁ X₁.warmed) with ⟨v, B, X', hpost, hsteps⟩ | ⟨q, B, X', hpost, hsteps⟩
  · exact Or.inl ⟨v, vm₁, B, X₁.warmed, X', hpost, fun target h => hstep₁ _ fun acts => by rw [doInvoke_state]; exact hsteps.trans h⟩
  · exact Or.inr ⟨q, vm₁, B, X₁.warmed, X', hpost, hstep₁ _ fun acts => by rw [doInvoke_state]; exact hsteps⟩
end Calls
theorem vx_cls {s : State} {T : State} {vm₁ : Vm} {E : String} {k : ClassId} (hW : s.WarmedH vm₁) (h : (T.setVm vm₁).vm.findClass E = some k) : s.vm.findClass E = some k := by
  have h1 : vm₁.findClass E = some k := h
  rw [hW.alike.findClass] at h1
  exact h1
/-- the method's frame g, with q thrown over it -/
def vx_W (p : Program) (l : Launch) (e : Env) (R : Room) (s : State) (m : MethodId) (args : Array Value) (below : List Frame) (meth : Method) (c : Code) (H : Heap) (locs : List Loc) (cells slots : Nat) (Q : State → Prop) (g : JFrame) (q : Addr) : Prop :=
  ∀ T : State, T.heap = H → Stand p l e R s m args below meth c T locs cells slots → ∃ t, Steps p.tables e below ((T.setTop g).pushFrame (.throwing q)) t ∧ Q t
def vx_Run (p : Program) (l : Launch) (e : Env) (R : Room) (s : State) (m : MethodId) (args : Array Value) (below : List Frame) (meth : Method) (c : Code) (H : Heap) (locs : List Loc) (cells slots mc ms : Nat) (g : JFrame) (rest : List Value) (Qa : State → Outcome → State → Prop) (XC : String → State → State → Prop) (free : Addr → Prop) : Prop :=
  ∀ T : State, T.heap = H → Stand p l e R s m args below meth c T locs cells slots →
    (∃ (v : Option Value) (st₀ t T' : State) (L : List Loc), st₀.heap = H ∧ Stand p l e R s m args below meth c T' (locs ++ L) (cells + mc) (slots + ms) ∧ (∀ q ∈ L, free q.base) ∧ T'.heap = t.heap ∧ T'.vm = t.vm ∧ Qa st₀ (.returned v) t ∧
      Goes p e below T g T' { g with pc := g.pc + 3, stack := v.toList ++ rest }) ∨
    (∃ (q : Addr) (st₀ t T' : State) (L : List Loc) (E : String) (ce : Cell), st₀.heap = H ∧ Stand p l e R s m args below meth c T' (locs ++ L) (cells + mc) (slots + ms) ∧ (∀ z ∈ L, free z.base) ∧ T'.heap = t.heap ∧ T'.vm = t.vm ∧ XC E st₀ t ∧ t.heap[q]? = some ce ∧ ce.vm = .none ∧ s.vm.findClass E = some ce.cls ∧
      Steps p.tables e below (T.setTop g) ((T'.setTop { g with stack := rest }).pushFrame (.throwing q)))
def vx_X {S : Type} (px : S → Prop) (B : String → S → State → Prop) (A : Nat → Prop) : String → State → State → Prop := fun E st t => ∃ u : S, px u ∧ B E u t ∧ va_F A st t
section Runs
variable {p : Program} {l : Launch} {e : Env} {R : Room} {s : State} {m : MethodId} {args : Array Value} {below : List Frame} {meth : Method} {c : Code} {H : Heap} {locs : List Loc} {cells slots : Nat}
variable {y : MethodName} {bytes cc : ByteArray} {maxL nL mc ms n index : Nat} {ret : Option FieldType} {ws : List Cond} {rm : Room} {Pc : Array Value → State → Prop} {Qc : Array Value → State → Outcome → State → Prop} {XC : String → State → State → Prop} {free : Addr → Prop} {Ts : List Cond} {own C : String} {b : Addr} {As rest : List Value} {g : JFrame}
theorem vx_callBack (cb : CallB R s args own index y bytes maxL ret ws rm mc ms n) (hM : vx_Met l y ws rm Pc Qc XC mc ms free) (hbl : FrameBlind Pc) : vx_Back l R p e below s args y 3 8 (PreOf R mc ms Pc) (PostOf Qc mc ms free) (vx_Post XC mc ms free) := by
  obtain ⟨hrc, hrs, hfr, hlo, hws, hcw, -, hini, -⟩ := cb
  exact vx_back (bytes := bytes) (maxL := maxL) (ret := ret) hM hbl hrc hrs hfr hlo hws hcw (fun a' U hW => word_at hW (Or.inl (by first | rfl | simp [Cond.onTables, Cond.keeps, Cond.steady])) hini)
theorem vx_runV (S : CallFix p m c cc nL s args Ts own) (hM : vx_Met l y ws rm Pc Qc XC mc ms free) (cw : CallW R s args own C index y bytes maxL ret ws rm mc ms n) (hp : PreV s H C b Pc As)
    (hg : g.method = m) (hn : As.length = n) (hsize : g.locals.size = nL) (hstack : g.stack = As.reverse ++ .ref b :: rest) (hW : 2 * g.monitorRoom + (rest.map fun v => v.category).sum ≤ 8) (hdg : decode cc g.pc = .ok (.invokevirtual index, 3)) (hf : cells + mc ≤ R.cells ∧ slots + ms ≤ R.slots) :
    vx_Run p l e R s m args below meth c H locs cells slots mc ms g rest (Qc (Value.ref b :: As).toArray) XC free := by
  have hK : vx_Back l R p e below s args y 3 8 (PreOf R mc ms Pc) (PostOf Qc mc ms free) (vx_Post XC mc ms free) := vx_callBack cw.1 hM hp.1
  obtain ⟨⟨-, -, -, -, -, -, hcode, -, hy, hlen, hl⟩, hin, hse⟩ := cw
  obtain ⟨hx, hb, hml, ho, -⟩ := S
  obtain ⟨-, ⟨cellB, hcB, hoB, hclB⟩, hPc⟩ := hp
  intro T hT X
  rcases vx_callV X hx (C := C) (bytes := bytes) (maxL := maxL) (ret := ret) ho hl hin hse hcode hy hK (by rw [hT]; exact hcB) hoB hclB hg (hsize.trans hml.symm) (argsL := As) (rest := rest) (fun sig h => hn.trans (hlen sig h)) hstack hW (by rw [hb]; exact hdg)
    (fun vm₁ hW₁ => ⟨hf.1, hf.2, hPc (T.setVm vm₁) hT hW₁⟩) with ⟨v, vm₁, ⟨U', l2, c2, s2⟩, hW₁, X', ⟨g', mk, t, L, e1, e2, hq, h1, hL, h2, h3⟩, st⟩ | ⟨q, vm₁, ⟨U', l2, c2, s2⟩, hW₁, X', ⟨g', mk, t, L, E, ce, e1, e2, hq, hce, hcv, hcl, h1, hL, h2, h3⟩, st⟩
  · dsimp only [Pt.U, Pt.locs, Pt.cells, Pt.slots] at X' e1 e2 h1 h2 h3 st
    subst h1; subst h2; subst h3
    exact Or.inl ⟨v, (T.setVm vm₁).calling g' mk (Value.ref b :: As).toArray, t, U', L, hT, X', hL, e1, e2, hq, st⟩
  · dsimp only [Pt.U, Pt.locs, Pt.cells, Pt.slots] at X' e1 e2 h1 h2 h3 st hcl
    subst h1; subst h2; subst h3
    exact Or.inr ⟨q, (T.setVm vm₁).calling g' mk (Value.ref b :: As).toArray, t, U', L, E, ce, hT, X', hL, e1, e2, hq, hce, hcv, vx_cls hW₁ hcl, st⟩
theorem vx_runS (S : CallFix p m c cc nL s args Ts own) (hM : vx_Met l y ws rm Pc Qc XC mc ms free) (cw : CallB R s args own index y bytes maxL ret ws rm mc ms n ∧ (Cond.static y).before args s = true) (hp : PreS s H Pc As)
    (hg : g.method = m) (hn : As.length = n) (hsize : g.locals.size = nL) (hstack : g.stack = As.reverse ++ rest) (hW : 2 * g.monitorRoom + (rest.map fun v => v.category).sum ≤ 8) (hdg : decode cc g.pc = .ok (.invokestatic index, 3)) (hf : cells + mc ≤ R.cells ∧ slots + ms ≤ R.slots) :
    vx_Run p l e R s m args below meth c H locs cells slots mc ms g rest (Qc As.toArray) XC free := by
  have hK : vx_Back l R p e below s args y 3 8 (PreOf R mc ms Pc) (PostOf Qc mc ms free) (vx_Post XC mc ms free) := vx_callBack cw.1 hM hp.1
  obtain ⟨⟨-, -, -, -, -, -, hcode, hini, hy, hlen, hl⟩, hstt⟩ := cw
  obtain ⟨hx, hb, hml, ho, -⟩ := S
  intro T hT X
  rcases vx_callS X hx (bytes := bytes) (maxL := maxL) (ret := ret) ho hl hstt hini hcode hy hK hg (hsize.trans hml.symm) (argsL := As) (rest := rest) (fun sig h => hn.trans (hlen sig h)) hstack hW (by rw [hb]; exact hdg)
    (fun vm₁ hW₁ => ⟨hf.1, hf.2, hp.2 (T.setVm vm₁) hT hW₁⟩) with ⟨v, vm₁, ⟨U', l2, c2, s2⟩, hW₁, X', ⟨g', mk, t, L, e1, e2, hq, h1, hL, h2, h3⟩, st⟩ | ⟨q, vm₁, ⟨U', l2, c2, s2⟩, hW₁, X', ⟨g', mk, t, L, E, ce, e1, e2, hq, hce, hcv, hcl, h1, hL, h2, h3⟩, st⟩
  · dsimp only [Pt.U, Pt.locs, Pt.cells, Pt.slots] at X' e1 e2 h1 h2 h3 st
    subst h1; subst h2; subst h3
    exact Or.inl ⟨v, (T.setVm vm₁).calling g' mk As.toArray, t, U', L, hT, X', hL, e1, e2, hq, st⟩
  · dsimp only [Pt.U, Pt.locs, Pt.cells, Pt.slots] at X' e1 e2 h1 h2 h3 st hcl
    subst h1; subst h2; subst h3
    exact Or.inr ⟨q, (T.setVm vm₁).calling g' mk As.toArray, t, U', L, E, ce, hT, X', hL, e1, e2, hq, hce, hcv, vx_cls hW₁ hcl, st⟩
end Runs
section Rows
variable {p : Program} {l : Launch} {e : Env} {R : Room} {s : State} {m : MethodId} {args : Array Value} {below : List Frame} {meth : Method} {c : Code} {H : Heap} {locs : List Loc} {cells slots : Nat} {Q : State → Prop}
variable {mc ms : Nat} {free : Addr → Prop} {A0 A1 : Nat → Prop} {H0 : Heap} {a : Array Value} {pc : Nat} {ls : Array Slot} {st0 rest : List Value}
theorem vx_keep {st₀ t T' : State} {L : List Loc} (h0 : st₀.heap = H) (e1 : T'.heap = t.heap) (hS : va_S A0 H0 H locs) (hA : ∀ q, q < H.size → A1 q → A0 q) (hf : ∀ q, free q → A0 q) (hL : ∀ q ∈ L, free q.base) (hF : va_F A1 st₀ t) :
    H.size ≤ T'.heap.size ∧ (∀ q : Nat, q < H.size → ¬ A1 q → T'.heap[q]? = H[q]?) ∧ va_S A0 H0 T'.heap (locs ++ L) := by
  obtain ⟨hz, hk⟩ := hF
  rw [h0] at hz hk
  exact ⟨by rw [e1]; exact hz, fun q h1 h2 => by rw [e1]; exact hk q h1 h2,
    ⟨Nat.le_trans hS.1 (by rw [e1]; exact hz), fun q h1 h2 => by rw [e1, hk q (Nat.lt_of_lt_of_le h1 hS.1) (fun z => h2 (hA q (Nat.lt_of_lt_of_le h1 hS.1) z))]; exact hS.2.1 q h1 h2, fun q hq => by
      rcases List.mem_append.mp hq with h | h
      · exact hS.2.2 q h
      · exact hf _ (hL q h)⟩⟩
theorem vx_calli {S SX : Type} {post : Int32 → S → Prop} {px : SX → Prop} {B : S → State → Prop} {BX : String → SX → State → Prop} {AX : Nat → Prop} (hr : vx_Run p l e R s m args below meth c H locs cells slots mc ms (F0 m pc ls st0) rest (va_Qi post B A1 a) (vx_X px BX AX) free) (hS : va_S A0 H0 H locs) (hA : ∀ q, q < H.size → A1 q → A0 q) (hf : ∀ q, free q → A0 q) (hAX : ∀ q, q < H.size → AX q → A0 q)
    (kx : ∀ (E : String) (ce : Cell) (q9 : Addr) (u : SX) (t : State) (H1 : Heap) (locs1 : List Loc), t.heap = H1 → s.vm.Alike t.vm → px u → BX E u t → H.size ≤ H1.size → (∀ q : Nat, q < H.size → ¬ AX q → H1[q]? = H[q]?) → va_S A0 H0 H1 locs1 → H1[q9]? = some ce → ce.vm = .none → s.vm.findClass E = some ce.cls → vx_W p l e R s m args below meth c H1 locs1 (cells + mc) (slots + ms) Q (F0 m pc ls rest) q9)
    (kk : ∀ (r : Int32) (u : S) (t : State) (H1 : Heap) (locs1 : List Loc), t.heap = H1 → s.vm.Alike t.vm → post r u → B u t → H.size ≤ H1.size → (∀ q : Nat, q < H.size → ¬ A1 q → H1[q]? = H[q]?) → va_S A0 H0 H1 locs1 → W p l e R s m args below meth c H1 locs1 (cells + mc) (slots + ms) Q (F0 m (pc + 3) ls (.int r :: rest))) : W p l e R s m args below meth c H locs cells slots Q (F0 m pc ls st0) := by
  intro T hT X
  rcases hr T hT X with ⟨v, st₀, t, T', L, h0, X', hL, e1, e2, ⟨⟨r, u, hv, hp, hb⟩, hF⟩, st⟩ | ⟨q, st₀, t, T', L, E, ce, h0, X', hL, e1, e2, ⟨u, hp, hb, hF⟩, hce, hcv, hcl, st⟩
  · cases hv
    obtain ⟨k1, k2, k3⟩ := vx_keep h0 e1 hS hA hf hL hF
    obtain ⟨t2, a1, b1⟩ := kk r u t T'.heap (locs ++ L) e1.symm (by rw [← e2]; exact X'.warmed.alike) hp hb k1 k2 k3 T' rfl X'
    exact ⟨t2, st t2 a1, b1⟩
  · obtain ⟨k1, k2, k3⟩ := vx_keep h0 e1 hS hAX hf hL hF
    obtain ⟨t2, a1, b1⟩ := kx E ce q u t T'.heap (locs ++ L) e1.symm (by rw [← e2]; exact X'.warmed.alike) hp hb k1 k2 k3 (by rw [e1]; exact hce) hcv hcl T' rfl X'
    exact ⟨t2, st.trans a1, b1⟩
theorem vx_calll {S SX : Type} {post : Int64 → S → Prop} {px : SX → Prop} {B : S → State → Prop} {BX : String → SX → State → Prop} {AX : Nat → Prop} (hr : vx_Run p l e R s m args below meth c H locs cells slots mc ms (F0 m pc ls st0) rest (va_Ql post B A1 a) (vx_X px BX AX) free) (hS : va_S A0 H0 H locs) (hA : ∀ q, q < H.size → A1 q → A0 q) (hf : ∀ q, free q → A0 q) (hAX : ∀ q, q < H.size → AX q → A0 q)
    (kx : ∀ (E : String) (ce : Cell) (q9 : Addr) (u : SX) (t : State) (H1 : Heap) (locs1 : List Loc), t.heap = H1 → s.vm.Alike t.vm → px u → BX E u t → H.size ≤ H1.size → (∀ q : Nat, q < H.size → ¬ AX q → H1[q]? = H[q]?) → va_S A0 H0 H1 locs1 → H1[q9]? = some ce → ce.vm = .none → s.vm.findClass E = some ce.cls → vx_W p l e R s m args below meth c H1 locs1 (cells + mc) (slots + ms) Q (F0 m pc ls rest) q9)
    (kk : ∀ (r : Int64) (u : S) (t : State) (H1 : Heap) (locs1 : List Loc), t.heap = H1 → s.vm.Alike t.vm → post r u → B u t → H.size ≤ H1.size → (∀ q : Nat, q < H.size → ¬ A1 q → H1[q]? = H[q]?) → va_S A0 H0 H1 locs1 → W p l e R s m args below meth c H1 locs1 (cells + mc) (slots + ms) Q (F0 m (pc + 3) ls (.long r :: rest))) : W p l e R s m args below meth c H locs cells slots Q (F0 m pc ls st0) := by
  intro T hT X
  rcases hr T hT X with ⟨v, st₀, t, T', L, h0, X', hL, e1, e2, ⟨⟨r, u, hv, hp, hb⟩, hF⟩, st⟩ | ⟨q, st₀, t, T', L, E, ce, h0, X', hL, e1, e2, ⟨u, hp, hb, hF⟩, hce, hcv, hcl, st⟩
  · cases hv
    obtain ⟨k1, k2, k3⟩ := vx_keep h0 e1 hS hA hf hL hF
    obtain ⟨t2, a1, b1⟩ := kk r u t T'.heap (locs ++ L) e1.symm (by rw [← e2]; exact X'.warmed.alike) hp hb k1 k2 k3 T' rfl X'
    exact ⟨t2, st t2 a1, b1⟩
  · obtain ⟨k1, k2, k3⟩ := vx_keep h0 e1 hS hAX hf hL hF
    obtain ⟨t2, a1, b1⟩ := kx E ce q u t T'.heap (locs ++ L) e1.symm (by rw [← e2]; exact X'.warmed.alike) hp hb k1 k2 k3 (by rw [e1]; exact hce) hcv hcl T' rfl X'
    exact ⟨t2, st.trans a1, b1⟩
theorem vx_callf {S SX : Type} {post : UInt32 → S → Prop} {px : SX → Prop} {B : S → State → Prop} {BX : String → SX → State → Prop} {AX : Nat → Prop} (hr : vx_Run p l e R s m args below meth c H locs cells slots mc ms (F0 m pc ls st0) rest (va_Qf post B A1 a) (vx_X px BX AX) free) (hS : va_S A0 H0 H locs) (hA : ∀ q, q < H.size → A1 q → A0 q) (hf : ∀ q, free q → A0 q) (hAX : ∀ q, q < H.size → AX q → A0 q)
    (kx : ∀ (E : String) (ce : Cell) (q9 : Addr) (u : SX) (t : State) (H1 : Heap) (locs1 : List Loc), t.heap = H1 → s.vm.Alike t.vm → px u → BX E u t → H.size ≤ H1.size → (∀ q : Nat, q < H.size → ¬ AX q → H1[q]? = H[q]?) → va_S A0 H0 H1 locs1 → H1[q9]? = some ce → ce.vm = .none → s.vm.findClass E = some ce.cls → vx_W p l e R s m args below meth c H1 locs1 (cells + mc) (slots + ms) Q (F0 m pc ls rest) q9)
    (kk : ∀ (r : UInt32) (u : S) (t : State) (H1 : Heap) (locs1 : List Loc), t.heap = H1 → s.vm.Alike t.vm → post r u → B u t → H.size ≤ H1.size → (∀ q : Nat, q < H.size → ¬ A1 q → H1[q]? = H[q]?) → va_S A0 H0 H1 locs1 → W p l e R s m args below meth c H1 locs1 (cells + mc) (slots + ms) Q (F0 m (pc + 3) ls (.float r :: rest))) : W p l e R s m args below meth c H locs cells slots Q (F0 m pc ls st0) := by
  intro T hT X
  rcases hr T hT X with ⟨v, st₀, t, T', L, h0, X', hL, e1, e2, ⟨⟨r, u, hv, hp, hb⟩, hF⟩, st⟩ | ⟨q, st₀, t, T', L, E, ce, h0, X', hL, e1, e2, ⟨u, hp, hb, hF⟩, hce, hcv, hcl, st⟩
  · cases hv
    obtain ⟨k1, k2, k3⟩ := vx_keep h0 e1 hS hA hf hL hF
    obtain ⟨t2, a1, b1⟩ := kk r u t T'.heap (locs ++ L) e1.symm (by rw [← e2]; exact X'.warmed.alike) hp hb k1 k2 k3 T' rfl X'
    exact ⟨t2, st t2 a1, b1⟩
  · obtain ⟨k1, k2, k3⟩ := vx_keep h0 e1 hS hAX hf hL hF
    obtain ⟨t2, a1, b1⟩ := kx E ce q u t T'.heap (locs ++ L) e1.symm (by rw [← e2]; exact X'.warmed.alike) hp hb k1 k2 k3 (by rw [e1]; exact hce) hcv hcl T' rfl X'
    exact ⟨t2, st.trans a1, b1⟩
theorem vx_calld {S SX : Type} {post : UInt64 → S → Prop} {px : SX → Prop} {B : S → State → Prop} {BX : String → SX → State → Prop} {AX : Nat → Prop} (hr : vx_Run p l e R s m args below meth c H locs cells slots mc ms (F0 m pc ls st0) rest (va_Qd post B A1 a) (vx_X px BX AX) free) (hS : va_S A0 H0 H locs) (hA : ∀ q, q < H.size → A1 q → A0 q) (hf : ∀ q, free q → A0 q) (hAX : ∀ q, q < H.size → AX q → A0 q)
    (kx : ∀ (E : String) (ce : Cell) (q9 : Addr) (u : SX) (t : State) (H1 : Heap) (locs1 : List Loc), t.heap = H1 → s.vm.Alike t.vm → px u → BX E u t → H.size ≤ H1.size → (∀ q : Nat, q < H.size → ¬ AX q → H1[q]? = H[q]?) → va_S A0 H0 H1 locs1 → H1[q9]? = some ce → ce.vm = .none → s.vm.findClass E = some ce.cls → vx_W p l e R s m args below meth c H1 locs1 (cells + mc) (slots + ms) Q (F0 m pc ls rest) q9)
    (kk : ∀ (r : UInt64) (u : S) (t : State) (H1 : Heap) (locs1 : List Loc), t.heap = H1 → s.vm.Alike t.vm → post r u → B u t → H.size ≤ H1.size → (∀ q : Nat, q < H.size → ¬ A1 q → H1[q]? = H[q]?) → va_S A0 H0 H1 locs1 → W p l e R s m args below meth c H1 locs1 (cells + mc) (slots + ms) Q (F0 m (pc + 3) ls (.double r :: rest))) : W p l e R s m args below meth c H locs cells slots Q (F0 m pc ls st0) := by
  intro T hT X
  rcases hr T hT X with ⟨v, st₀, t, T', L, h0, X', hL, e1, e2, ⟨⟨r, u, hv, hp, hb⟩, hF⟩, st⟩ | ⟨q, st₀, t, T', L, E, ce, h0, X', hL, e1, e2, ⟨u, hp, hb, hF⟩, hce, hcv, hcl, st⟩
  · cases hv
    obtain ⟨k1, k2, k3⟩ := vx_keep h0 e1 hS hA hf hL hF
    obtain ⟨t2, a1, b1⟩ := kk r u t T'.heap (locs ++ L) e1.symm (by rw [← e2]; exact X'.warmed.alike) hp hb k1 k2 k3 T' rfl X'
    exact ⟨t2, st t2 a1, b1⟩
  · obtain ⟨k1, k2, k3⟩ := vx_keep h0 e1 hS hAX hf hL hF
    obtain ⟨t2, a1, b1⟩ := kx E ce q u t T'.heap (locs ++ L) e1.symm (by rw [← e2]; exact X'.warmed.alike) hp hb k1 k2 k3 (by rw [e1]; exact hce) hcv hcl T' rfl X'
    exact ⟨t2, st.trans a1, b1⟩
theorem vx_callv {S SX : Type} {post : S → Prop} {px : SX → Prop} {B : S → State → Prop} {BX : String → SX → State → Prop} {AX : Nat → Prop} (hr : vx_Run p l e R s m args below meth c H locs cells slots mc ms (F0 m pc ls st0) rest (va_Qv post B A1 a) (vx_X px BX AX) free) (hS : va_S A0 H0 H locs) (hA : ∀ q, q < H.size → A1 q → A0 q) (hf : ∀ q, free q → A0 q) (hAX : ∀ q, q < H.size → AX q → A0 q)
    (kx : ∀ (E : String) (ce : Cell) (q9 : Addr) (u : SX) (t : State) (H1 : Heap) (locs1 : List Loc), t.heap = H1 → s.vm.Alike t.vm → px u → BX E u t → H.size ≤ H1.size → (∀ q : Nat, q < H.size → ¬ AX q → H1[q]? = H[q]?) → va_S A0 H0 H1 locs1 → H1[q9]? = some ce → ce.vm = .none → s.vm.findClass E = some ce.cls → vx_W p l e R s m args below meth c H1 locs1 (cells + mc) (slots + ms) Q (F0 m pc ls rest) q9)
    (kk : ∀ (u : S) (t : State) (H1 : Heap) (locs1 : List Loc), t.heap = H1 → s.vm.Alike t.vm → post u → B u t → H.size ≤ H1.size → (∀ q : Nat, q < H.size → ¬ A1 q → H1[q]? = H[q]?) → va_S A0 H0 H1 locs1 → W p l e R s m args below meth c H1 locs1 (cells + mc) (slots + ms) Q (F0 m (pc + 3) ls (rest))) : W p l e R s m args below meth c H locs cells slots Q (F0 m pc ls st0) := by
  intro T hT X
  rcases hr T hT X with ⟨v, st₀, t, T', L, h0, X', hL, e1, e2, ⟨⟨u, hv, hp, hb⟩, hF⟩, st⟩ | ⟨q, st₀, t, T', L, E, ce, h0, X', hL, e1, e2, ⟨u, hp, hb, hF⟩, hce, hcv, hcl, st⟩
  · cases hv
    obtain ⟨k1, k2, k3⟩ := vx_keep h0 e1 hS hA hf hL hF
    obtain ⟨t2, a1, b1⟩ := kk u t T'.heap (locs ++ L) e1.symm (by rw [← e2]; exact X'.warmed.alike) hp hb k1 k2 k3 T' rfl X'
    exact ⟨t2, st t2 a1, b1⟩
  · obtain ⟨k1, k2, k3⟩ := vx_keep h0 e1 hS hAX hf hL hF
    obtain ⟨t2, a1, b1⟩ := kx E ce q u t T'.heap (locs ++ L) e1.symm (by rw [← e2]; exact X'.warmed.alike) hp hb k1 k2 k3 (by rw [e1]; exact hce) hcv hcl T' rfl X'
    exact ⟨t2, st.trans a1, b1⟩
end Rows
section Ends
variable {p : Program} {l : Launch} {e : Env} {R : Room} {s : State} {m : MethodId} {args : Array Value} {below : List Frame} {meth : Method} {c : Code} {H : Heap} {locs : List Loc} {cells slots : Nat} {Q : State → Prop}
variable {mc ms : Nat} {free : Addr → Prop} {A0 A1 : Nat → Prop} {H0 : Heap} {a : Array Value} {ls : Array Slot} {st0 rest : List Value}
variable {Qc : Array Value → State → Outcome → State → Prop} {XC : String → State → State → Prop}
/-- what a body that may throw owes at its end -/
def vx_MQ (below : List Frame) (Qc : Array Value → State → Outcome → State → Prop) (XC : String → State → State → Prop) (a : Array Value) (s : State) (mc ms : Nat) (free : Addr → Prop) : State → Prop := fun t =>
  ∃ o, t.status = .running ∧ Ended t below o ∧ vx_Q Qc XC mc ms free a s o t
theorem vx_ret {g : JFrame} {mc ms : Nat} (k : W p l e R s m args below meth c H locs cells slots (MQ below Qc args s mc ms free) g) : W p l e R s m args below meth c H locs cells slots (vx_MQ below Qc XC args s mc ms free) g := by
  intro T hT X
  obtain ⟨t, a1, o, b1, b2, b3, b4⟩ := k T hT X
  exact ⟨t, a1, o, b1, b2, Or.inl ⟨b3, b4⟩⟩
/-- not caught here: it goes on to the caller -/
theorem vx_widen {g : JFrame} {q : Addr} {k n : Nat} (h1 : cells ≤ k) (h2 : slots ≤ n) (kk : vx_W p l e R s m args below meth c H locs k n Q g q) : vx_W p l e R s m args below meth c H locs cells slots Q g q := fun T hT X => kk T hT (stand_widen X h1 h2)
theorem vx_out {pc : Nat} {E : String} {ce : Cell} {q : Addr} {mc ms : Nat} (hout : ∀ x ∈ c.exceptionTable.toList, covers x pc = false) (hlocks : meth.locks = false) (hcell : H[q]? = some ce) (hv : ce.vm = .none) (hcl : s.vm.findClass E = some ce.cls)
    (hx : ∀ t : State, t.heap = H → s.vm.Alike t.vm → XC E s t) (hf : ∀ z ∈ locs, free z.base) (hc : cells ≤ mc) (hs : slots ≤ ms) :
    vx_W p l e R s m args below meth c H locs cells slots (vx_MQ below Qc XC args s mc ms free) (F0 m pc ls rest) q := by
  intro T hT X
  obtain ⟨st1, hrun, hend, hW, hsm⟩ := X.leaveThrown q (g := F0 m pc ls rest) rfl rfl rfl hout hlocks
  have hcell9 : (T.setFrames (.throwing q :: below)).heap[q]? = some ce := by
    show T.heap[q]? = some ce
    rw [hT]; exact hcell
  exact ⟨_, st1, .threw q, hrun, hend, Or.inr ⟨q, rfl, E, ce, locs, hx _ hT hW.alike, hcell9, hv, hcl, hW, hsm.mono hc hs, hf⟩⟩
theorem vx_frame {U : State} {k n : Nat} (h : s.sameButNew ({ U with vm := s.vm } : State) locs k n) : s.heap.size ≤ U.heap.size ∧ ∀ q : Nat, q < s.heap.size → (∀ z ∈ locs, z.base ≠ q) → U.heap[q]? = s.heap[q]? := by
  obtain ⟨-, h2, -, -, -, h6⟩ := h
  refine ⟨h2, fun q hq hz => ?_⟩
  obtain ⟨c9, e1, e2, e3, e4⟩ := h6 q _ (Array.getElem?_eq_getElem hq)
  have hs : c9.slots = (s.heap[q]).slots := Array.ext_getElem? fun i => e4 i fun hm => hz _ hm rfl
  have h9 : c9 = s.heap[q] := by
    rw [hs] at e2
    exact e2
  have e5 : U.heap[q]? = some c9 := e1
  rw [e5, h9, Array.getElem?_eq_getElem hq]
/-- the words of a throw but the four that speak of the heap -/
def vx_no (w : Cond) : Bool := decide (w ≠ .isRef (.static Bundle.tN "UNASSIGNED_STACK" Bundle.steD)) && decide (w ≠ .isRef (.static Bundle.tN "SUPPRESSED_SENTINEL" Bundle.listD)) && decide (w ≠ .laysStatic Bundle.tN "UNASSIGNED_STACK" Bundle.steD) && decide (w ≠ .laysStatic Bundle.tN "SUPPRESSED_SENTINEL" Bundle.listD)
def vx_at0 (own : String) (ic : Nat) (X : String) (names : List String) : List Cond := (Bundle.ownAtoms0 own ic X names).filter vx_no
def vx_atS (own : String) (ic : Nat) (X : String) (names : List String) : List Cond := (Bundle.ownAtoms own ic X names).filter vx_no
/-- a word that the tables alone decide, or a good one -/
def vx_ot (w : Cond) : Bool := w.onTables || goodWord w
theorem vx_ot_at {args a' : Array Value} {s U : State} {w : Cond} (hW : s.WarmedH U.vm) (hvm : s.vm = U.vm) (hg : vx_ot w = true) (h : w.before args s = true) : w.before a' U = true := by
  simp only [vx_ot, Bool.or_eq_true] at hg
  rcases hg with hg | hg
  · exact va_tabs hg hvm h
  · exact word_at hW (good_of_word hg) h
/-- a list's words: the good ones out of the method's own list, the others by premises of their own -/
theorem vx_hat {args : Array Value} {s : State} {L B : List Cond} (h1 : ∀ w ∈ L.filter goodWord, w.before args s = true) (h2 : ∀ w ∈ L.filter (fun w => !goodWord w), w ∈ B) (h3 : ∀ w ∈ B, w.before args s = true) : ∀ w ∈ L, w.before args s = true := by
  intro w hw
  by_cases g : goodWord w = true
  · exact h1 w (List.mem_filter.mpr ⟨hw, g⟩)
  · refine h3 w (h2 w (List.mem_filter.mpr ⟨hw, ?_⟩))
    show (!goodWord w) = true
    cases hgw : goodWord w
    · rfl
    · exact absurd hgw g
theorem vx_c {args : Array Value} {s : State} {w : Cond} {B : List Cond} (h : w.before args s = true) (t : ∀ w ∈ B, w.before args s = true) : ∀ w' ∈ w :: B, w'.before args s = true := fun w' h' => (List.mem_cons.mp h').elim (fun e => by rw [e]; exact h) (t w')
theorem vx_n {args : Array Value} {s : State} : ∀ w ∈ ([] : List Cond), w.before args s = true := fun _ h => nomatch h
theorem vx_own {args : Array Value} {s : State} {L : List Cond} (h1 : ∀ w ∈ L.filter vx_no, w.before args s = true)
    (hU : (Cond.isRef (.static Bundle.tN "UNASSIGNED_STACK" Bundle.steD)).before args s = true) (hN : (Cond.isRef (.static Bundle.tN "SUPPRESSED_SENTINEL" Bundle.listD)).before args s = true)
    (lU : (Cond.laysStatic Bundle.tN "UNASSIGNED_STACK" Bundle.steD).before args s = true) (lN : (Cond.laysStatic Bundle.tN "SUPPRESSED_SENTINEL" Bundle.listD).before args s = true) : ∀ w ∈ L, w.before args s = true := by
  intro w hw
  by_cases e1 : w = .isRef (.static Bundle.tN "UNASSIGNED_STACK" Bundle.steD)
  · rw [e1]; exact hU
  · by_cases e2 : w = .isRef (.static Bundle.tN "SUPPRESSED_SENTINEL" Bundle.listD)
    · rw [e2]; exact hN
    · by_cases e3 : w = .laysStatic Bundle.tN "UNASSIGNED_STACK" Bundle.steD
      · rw [e3]; exact lU
      · by_cases e4 : w = .laysStatic Bundle.tN "SUPPRESSED_SENTINEL" Bundle.listD
        · rw [e4]; exact lN
        · exact h1 w (List.mem_filter.mpr ⟨hw, by unfold vx_no; rw [decide_eq_true e1, decide_eq_true e2, decide_eq_true e3, decide_eq_true e4]; rfl⟩)
/-- where a static field lies, its class's statics cell in H -/
def vx_L (C n d : String) (A : Nat → Prop) (U : State) (H : Heap) : Prop := ∃ (c : ClassId) (k : Class) (i : Nat) (f : Field) (a : Nat) (cell : Cell), U.vm.findClass C = some c ∧ U.fieldFound? C n d = some (c, k, i, f) ∧ f.isStatic = true ∧ k.statics = some a ∧ H[a]? = some cell ∧ cell.vm.isStatics = true ∧ cell.cls = c ∧ f.slot < cell.slots.size ∧ k.staticTypes[f.slot]? = some f.type ∧ ¬ A a
theorem vx_L.moved {C n d : String} {A : Nat → Prop} {u U : State} {H : Heap} (hvm : u.vm.Alike U.vm) (h : vx_L C n d A u H) : vx_L C n d A U H := by
  obtain ⟨c, k, i, f, a, cell, h1, h2, h3, h4, h5, h6, h7, h8, h9, h10⟩ := h
  obtain ⟨k', hi', he⟩ := State.fieldFound?_setVm hvm h2
  exact ⟨c, k', i, f, a, cell, by rw [hvm.findClass]; exact h1, hi', h3, by rw [he]; exact h4, h5, h6, h7, h8, by rw [he]; exact h9, h10⟩
theorem vx_L.kept {C n d : String} {A : Nat → Prop} {U : State} {H H1 : Heap} (h : vx_L C n d A U H) (hq : ∀ a : Nat, a < H.size → ¬ A a → H1[a]? = H[a]?) : vx_L C n d A U H1 := by
  obtain ⟨c, k, i, f, a, cell, h1, h2, h3, h4, h5, h6, h7, h8, h9, h10⟩ := h
  exact ⟨c, k, i, f, a, cell, h1, h2, h3, h4, by rw [hq a (Array.getElem?_eq_some_iff.mp h5).1 h10]; exact h5, h6, h7, h8, h9, h10⟩
theorem vx_L.narrow {C n d : String} {A B : Nat → Prop} {U : State} {H : Heap} (h : vx_L C n d A U H) (hAB : ∀ q, B q → A q) : vx_L C n d B U H := by
  obtain ⟨c, k, i, f, a, cell, h1, h2, h3, h4, h5, h6, h7, h8, h9, h10⟩ := h
  exact ⟨c, k, i, f, a, cell, h1, h2, h3, h4, h5, h6, h7, h8, h9, fun z => h10 (hAB _ z)⟩
theorem vx_L.word {C n d : String} {A : Nat → Prop} {s : State} {args : Array Value} (h : vx_L C n d A s s.heap) : (Cond.laysStatic C n d).before args s = true := by
  obtain ⟨c, k, i, f, a, cell, h1, h2, h3, h4, h5, h6, h7, h8, h9, -⟩ := h
  show (Cond.laysStatic C n d).holds args s none s [] = true
  exact Cond.laysStatic_of h1 h2 h3 h4 h5 h6 h7 h8 h9
/-- .. and what it holds: null or some reference -/
def vx_Zq (C n d : String) (A : Nat → Prop) (U : State) (H : Heap) : Prop := va_Zq C n d A U H ∧ vx_L C n d A U H
theorem vx_Zq.moved {C n d : String} {A : Nat → Prop} {u U : State} {H : Heap} (hvm : u.vm.Alike U.vm) (h : vx_Zq C n d A u H) : vx_Zq C n d A U H := ⟨va_Zq.moved hvm h.1, vx_L.moved hvm h.2⟩
theorem vx_Zq.kept {C n d : String} {A : Nat → Prop} {U : State} {H H1 : Heap} (h : vx_Zq C n d A U H) (hq : ∀ a : Nat, a < H.size → ¬ A a → H1[a]? = H[a]?) : vx_Zq C n d A U H1 := ⟨va_Zq.kept h.1 hq, vx_L.kept h.2 hq⟩
theorem vx_Zq.narrow {C n d : String} {A B : Nat → Prop} {U : State} {H : Heap} (h : vx_Zq C n d A U H) (hAB : ∀ q, B q → A q) : vx_Zq C n d B U H := ⟨va_Zq.narrow h.1 hAB, vx_L.narrow h.2 hAB⟩
theorem vx_Zqof {args : Array Value} {s : State} {C n d : String} {A : Nat → Prop} (hl : (Cond.laysStatic C n d).before args s = true) (hini : (Cond.initialized C).before args s = true) (h : (Cond.isRef (.static C n d)).before args s = true) (hA : ∀ a : Nat, a < s.heap.size → ¬ A a) : vx_Zq C n d A s s.heap := by
  refine ⟨va_Zqof hl hini h hA, ?_⟩
  obtain ⟨c, k, i, f, a, cell, h1, h2, h3, h4, h5, h6, h7, h8, h9⟩ := Cond.laysStatic_spec hl
  exact ⟨c, k, i, f, a, cell, h1, h2, h3, h4, h5, h6, h7, h8, h9, hA a (Array.getElem?_eq_some_iff.mp h5).1⟩
theorem vx_isRef {C n d : String} {v : Value} {A : Nat → Prop} {s : State} {args : Array Value} (h : va_Z C n d v A s s.heap) (hv : v.isRef = true) : (Cond.isRef (.static C n d)).before args s = true := by
  obtain ⟨cf, kf, fi, f, a, cell, h1, h2, h3, h4, h5, h6, h7, -⟩ := h
  have he : (Term.static C n d).eval args s none [] s = some v := by
    simp [Term.eval, State.fieldNamed?, h1, h2, h4, h5, h6, h7]
  simp only [Cond.before, Cond.holds, Cond.value, he]
  cases v <;> simp_all [Value.isRef]
theorem vx_isRefq {C n d : String} {A : Nat → Prop} {s : State} {args : Array Value} (h : va_Zq C n d A s s.heap) : (Cond.isRef (.static C n d)).before args s = true := by
  rcases h with h | ⟨t, h⟩
  · exact vx_isRef h rfl
  · exact vx_isRef h rfl
/-- the same frame, seen from here: as if the method were called anew in this heap -/
theorem vx_rebase {T : State} (X : Stand p l e R s m args below meth c T locs cells slots) {R' : Room} (hf : R'.frames ≤ R.frames) (hl : R'.locals ≤ R.locals) (hc : cells + R'.cells ≤ R.cells) (hs : slots + R'.slots ≤ R.slots) :
    Stand p l e R' ((T.setVm s.vm).setFrames (.invoking m args :: below)) m args below meth c T [] 0 0 := by
  have htop : (T.setVm s.vm).topJava?.isSome := X.here.top
  have hF : ((T.setVm s.vm).setFrames (.invoking m args :: below)).frames = .invoking m args :: below := State.frames_setFrames _ (State.cur_lt_of_top htop)
  obtain ⟨g₀, hg0⟩ := Option.isSome_iff_exists.mp htop
  obtain ⟨r, hr⟩ := State.topJava?_eq_some.mp hg0
  have hl9 : e.platform.stackLimits (T.setVm s.vm).me = e.platform.stackLimits s.me := X.limits
  have hb9 : (T.setVm s.vm).me.stackBytes = s.me.stackBytes := X.bytes
  refine ⟨X.admits, X.cas, X.clock, hF, ?_, X.hears, X.method, X.code, X.here, X.tail, X.warmed, ?_, ?_, ?_⟩
  · have h := X.room
    have hU : ((T.setVm s.vm).setFrames (.invoking m args :: below)).localsInUse = s.localsInUse := by
      rw [State.localsInUse_invoking hF (meth := meth) (c := c) X.method X.code, State.localsInUse_invoking X.frames X.method X.code]
    simp only [State.hasRoom, Bool.and_eq_true, decide_eq_true_eq] at h ⊢
    obtain ⟨⟨⟨⟨h1, h2, h3, h4, h5, h6⟩, h7⟩, h8⟩, h9⟩ := h
    rw [X.frames, List.length_cons] at h2 h3
    have q1 := X.heapSize
    have q2 := X.used
    simp only [hF, hU, List.length_cons, State.stackLimits_setFrames, State.stackBytes_setFrames, hl9, hb9]
    refine ⟨⟨⟨⟨by omega, by omega, by omega, by omega, by omega, h6⟩, ?_⟩, ?_⟩, X.book⟩
    · show T.heap.size + R'.cells ≤ e.platform.maxCells
      omega
    · show T.slotsUsed + R'.slots ≤ e.platform.maxSlots
      omega
  · rw [State.stackLimits_setFrames]; rfl
  · rw [State.stackBytes_setFrames]; rfl
  · refine ⟨?_, Nat.le_refl _, Nat.le_refl _, ?_, ?_, fun a c9 h9 => ⟨c9, h9, rfl, rfl, fun _ _ => rfl⟩⟩
    · obtain ⟨t, ht, -⟩ := State.frames_cons hr
      show T.setVm s.vm = { ((T.setVm s.vm).setFrames (.invoking m args :: below)).setFrames (T.setVm s.vm).frames with heap := T.heap, slotsUsed := T.slotsUsed }
      rw [State.setFrames_setFrames, State.setFrames_self ht]
      rfl
    · show T.slotsUsed = T.slotsUsed + ((T.heap.toList.drop T.heap.size).map (·.slots.size)).sum
      rw [List.drop_eq_nil_of_le (Nat.le_of_eq Array.length_toList)]
      rfl
    · show ((T.heap.toList.drop T.heap.size).map (·.slots.size)).sum ≤ 0
      rw [List.drop_eq_nil_of_le (Nat.le_of_eq Array.length_toList)]
      exact Nat.le_refl _
/-- 'throw new E()': new; dup; invokespecial; athrow -/
theorem vx_throw0 {cc : ByteArray} {pc : Nat} (hexec : p.tables.exec = Jvm.exec) (hb : c.code = cc) (hl : l.stackTraces = false) {own cls : String} {names : List String} {ik ic mc ms : Nat} {A : Nat → Prop}
    (hown : s.vm.findClass own = some m.cls) (hcls : Bundle.fit cls = true) (hnames : ∀ n ∈ names, Bundle.fit n = true)
    (hk : (Cond.classLink own ik cls).before args s = true) (hini : (Cond.initialized cls).before args s = true) (hat : ∀ w ∈ vx_at0 own ic cls names, w.before args s = true)
    (hgood : ∀ w ∈ Cond.classLink own ik cls :: Cond.initialized cls :: vx_at0 own ic cls names, vx_ot w = true)
    (hU : vx_Zq Bundle.tN "UNASSIGNED_STACK" Bundle.steD A s s.heap) (hN : vx_Zq Bundle.tN "SUPPRESSED_SENTINEL" Bundle.listD A s s.heap) (hS : va_S A s.heap H locs) (hsize : ls.size = c.maxLocals)
    (d0 : decode cc pc = .ok (.new ik, 3)) (d3 : decode cc (pc + 3) = .ok (.dup, 1)) (d4 : decode cc (pc + 4) = .ok (.invokespecial ic, 3)) (d7 : decode cc (pc + 7) = .ok (.athrow, 1))
    (hout : ∀ x ∈ c.exceptionTable.toList, covers x (pc + 7) = false)
    (hRframes : names.length + 3 < R.frames) (hRlocals : (rest.map fun v => v.category).sum + (13 * (names.length + 1) + 42) ≤ R.locals) (hRcells : cells + 1 ≤ R.cells) (hRslots : slots + 6 ≤ R.slots) (hlocks : meth.locks = false)
    (hx : ∀ t : State, s.vm.Alike t.vm → H.size ≤ t.heap.size → (∀ q : Nat, q < H.size → t.heap[q]? = H[q]?) → XC cls s t)
    (hf : ∀ z ∈ locs, free z.base) (hc : cells + 1 ≤ mc) (hs : slots + 6 ≤ ms) :
    W p l e R s m args below meth c H locs cells slots (vx_MQ below Qc XC args s mc ms free) (F0 m pc ls rest) := by
  intro T hT X
  have htr : e.platform.stackTraces = false := (show e.platform.stackTraces = l.stackTraces by rw [X.admits.platform]).trans hl
  have Y := vx_rebase X (R' := { frames := R.frames, locals := R.locals, cells := 1, slots := 6 }) (Nat.le_refl _) (Nat.le_refl _) hRcells hRslots
  obtain ⟨s', hA⟩ : ∃ z, z = (T.setVm s.vm).setFrames (.invoking m args :: below) := ⟨_, rfl⟩
  rw [← hA] at Y
  have hvm : s'.vm = s.vm := by rw [hA]; rfl
  have hhp : s'.heap = H := by rw [hA]; exact hT
  have hW0 : s.WarmedH s'.vm := by rw [hvm]; exact State.WarmedH.refl s
  have hat' : ∀ w ∈ vx_at0 own ic cls names, w.before args s' = true := fun w hw => vx_ot_at hW0 hvm.symm (hgood w (List.mem_cons_of_mem _ (List.mem_cons_of_mem _ hw))) (hat w hw)
  have hk' : (Cond.classLink own ik cls).before args s' = true := vx_ot_at hW0 hvm.symm (hgood _ List.mem_cons_self) hk
  have hini' : (Cond.initialized cls).before args s' = true := vx_ot_at hW0 hvm.symm (hgood _ (List.mem_cons_of_mem _ List.mem_cons_self)) hini
  have hU' : vx_Zq Bundle.tN "UNASSIGNED_STACK" Bundle.steD A s' s'.heap := by rw [hhp]; exact vx_Zq.moved hW0.alike (hU.kept hS.2.1)
  have hN' : vx_Zq Bundle.tN "SUPPRESSED_SENTINEL" Bundle.listD A s' s'.heap := by rw [hhp]; exact vx_Zq.moved hW0.alike (hN.kept hS.2.1)
  have h : ∀ w ∈ Bundle.ownAtoms0 own ic cls names, w.before args s' = true := vx_own hat' (vx_isRefq hU'.1) (vx_isRefq hN'.1) hU'.2.word hN'.2.word
  have hown' : s'.vm.findClass own = some m.cls := by rw [hvm]; exact hown
  have hins : (Cond.instantiable cls 6).before args s' = true := h _ (by simp [Bundle.ownAtoms0])
  obtain ⟨vm₁, cX, kX, hfX, hkX, -, -, X₁, st1⟩ := Y.newCold hexec (own := own) (C := cls) (index := ik) (n := 6) hown' hk' hins hini'
    (g := F0 m pc ls rest) rfl (by rw [hb]; exact d0) (Nat.le_refl _) (Nat.le_refl _)
  generalize hT1 : (T.setVm vm₁).pushCell { cls := cX, slots := kX.instanceTypes.map defaultValue, vm := .none } = T1 at X₁ st1
  have hcat : (Value.ref T.heap.size).category = 1 := rfl
  have hcellA : T1.heap[T.heap.size]? = some (freshCell cX kX) := by rw [← hT1]; exact State.heap_pushCell_size _ _
  have d3' : decode c.code (pc + 3) = .ok (.dup, 1) := by rw [hb]; exact d3
  obtain ⟨U, hsteps, hrun, hend, hW, hsame, ce, hce, hO⟩ := X₁.ctorThrow0 hexec htr (own := own) (cls := cls) (names := names) (ic := ic) hown' hcls hnames h (fun x hx => nomatch hx) hfX hkX hcellA (by rw [hhp, hT]; exact Nat.le_refl _)
    (g := { method := m, pc := pc + 4, locals := ls, stack := .ref T.heap.size :: .ref T.heap.size :: rest, locked := none }) rfl hsize rfl rfl (rest := rest) rfl
    (by rw [hb]; exact d4) (by rw [hb]; exact d7) hout hRframes (by simp only [List.map_cons, List.sum_cons, hcat]; omega) hlocks
  obtain ⟨f1, f2⟩ := vx_frame hsame
  rw [hhp] at f1 f2
  have hWs : s.WarmedH U.vm := State.WarmedH.trans hW0 hW
  have hcl : s.vm.findClass cls = some ce.cls := by
    have h9 := hO.cls
    rw [hvm] at h9
    exact h9
  have hall : s.sameButNew ({ U with vm := s.vm } : State) locs mc ms := by
    subst hA
    obtain ⟨e1, e2⟩ := hsame
    rw [State.setFrames_setFrames] at e1
    have h2 : (T.setVm s.vm).sameButNew ({ U with vm := s.vm } : State) [] (0 + 1) (0 + 6) := ⟨e1, e2⟩
    have h3 := X.same.trans h2
    rw [List.append_nil] at h3
    exact h3.mono hc hs
  refine ⟨U, ?_, .threw T.heap.size, hrun, hend, Or.inr ⟨T.heap.size, rfl, cls, ce, locs, hx U hWs.alike f1 (fun q hq => f2 q hq (fun z hz => nomatch hz)), hce, hO.vm, hcl, hWs, hall, hf⟩⟩
  refine st1 _ ?_
  show Steps p.tables e below (T1.setTop { method := m, pc := pc + 3, locals := ls, stack := .ref T.heap.size :: rest, locked := none }) _
  jvm_step X₁.here [X₁.here.top, hexec, d3', Value.category]
  exact hsteps
/-- 'throw new E("text")': new; dup; ldc; invokespecial; athrow -/
theorem vx_throwS {cc : ByteArray} {pc : Nat} (hexec : p.tables.exec = Jvm.exec) (hb : c.code = cc) (hl : l.stackTraces = false) {own cls text : String} {names : List String} {ik is ic mc ms sa : Nat} {A : Nat → Prop}
    (hown : s.vm.findClass own = some m.cls) (hcls : Bundle.fit cls = true) (hnames : ∀ n ∈ names, Bundle.fit n = true)
    (hk : (Cond.classLink own ik cls).before args s = true) (hini : (Cond.initialized cls).before args s = true) (hstr : vk_R own is text sa s) (hat : ∀ w ∈ vx_atS own ic cls names, w.before args s = true)
    (hgood : ∀ w ∈ Cond.classLink own ik cls :: Cond.initialized cls :: vx_atS own ic cls names, vx_ot w = true)
    (hU : vx_Zq Bundle.tN "UNASSIGNED_STACK" Bundle.steD A s s.heap) (hN : vx_Zq Bundle.tN "SUPPRESSED_SENTINEL" Bundle.listD A s s.heap) (hS : va_S A s.heap H locs) (hsize : ls.size = c.maxLocals)
    (d0 : decode cc pc = .ok (.new ik, 3)) (d3 : decode cc (pc + 3) = .ok (.dup, 1)) (d4 : decode cc (pc + 4) = .ok (.ldc is, 2)) (d6 : decode cc (pc + 6) = .ok (.invokespecial ic, 3)) (d9 : decode cc (pc + 9) = .ok (.athrow, 1))
    (hout : ∀ x ∈ c.exceptionTable.toList, covers x (pc + 9) = false)
    (hRframes : names.length + 3 < R.frames) (hRlocals : (rest.map fun v => v.category).sum + (13 * (names.length + 1) + 43) ≤ R.locals) (hRcells : cells + 1 ≤ R.cells) (hRslots : slots + 6 ≤ R.slots) (hlocks : meth.locks = false)
    (hx : ∀ t : State, s.vm.Alike t.vm → H.size ≤ t.heap.size → (∀ q : Nat, q < H.size → t.heap[q]? = H[q]?) → XC cls s t)
    (hf : ∀ z ∈ locs, free z.base) (hc : cells + 1 ≤ mc) (hs : slots + 6 ≤ ms) :
    W p l e R s m args below meth c H locs cells slots (vx_MQ below Qc XC args s mc ms free) (F0 m pc ls rest) := by
  intro T hT X
  have htr : e.platform.stackTraces = false := (show e.platform.stackTraces = l.stackTraces by rw [X.admits.platform]).trans hl
  have Y := vx_rebase X (R' := { frames := R.frames, locals := R.locals, cells := 1, slots := 6 }) (Nat.le_refl _) (Nat.le_refl _) hRcells hRslots
  obtain ⟨s', hA⟩ : ∃ z, z = (T.setVm s.vm).setFrames (.invoking m args :: below) := ⟨_, rfl⟩
  rw [← hA] at Y
  have hvm : s'.vm = s.vm := by rw [hA]; rfl
  have hhp : s'.heap = H := by rw [hA]; exact hT
  have hW0 : s.WarmedH s'.vm := by rw [hvm]; exact State.WarmedH.refl s
  have hat' : ∀ w ∈ vx_atS own ic cls names, w.before args s' = true := fun w hw => vx_ot_at hW0 hvm.symm (hgood w (List.mem_cons_of_mem _ (List.mem_cons_of_mem _ hw))) (hat w hw)
  have hk' : (Cond.classLink own ik cls).before args s' = true := vx_ot_at hW0 hvm.symm (hgood _ List.mem_cons_self) hk
  have hini' : (Cond.initialized cls).before args s' = true := vx_ot_at hW0 hvm.symm (hgood _ (List.mem_cons_of_mem _ List.mem_cons_self)) hini
  have hU' : vx_Zq Bundle.tN "UNASSIGNED_STACK" Bundle.steD A s' s'.heap := by rw [hhp]; exact vx_Zq.moved hW0.alike (hU.kept hS.2.1)
  have hN' : vx_Zq Bundle.tN "SUPPRESSED_SENTINEL" Bundle.listD A s' s'.heap := by rw [hhp]; exact vx_Zq.moved hW0.alike (hN.kept hS.2.1)
  have h : ∀ w ∈ Bundle.ownAtoms own ic cls names, w.before args s' = true := vx_own hat' (vx_isRefq hU'.1) (vx_isRefq hN'.1) hU'.2.word hN'.2.word
  have hown' : s'.vm.findClass own = some m.cls := by rw [hvm]; exact hown
  have hins : (Cond.instantiable cls 6).before args s' = true := h _ (by simp [Bundle.ownAtoms])
  obtain ⟨vm₁, cX, kX, hfX, hkX, -, -, X₁, st1⟩ := Y.newCold hexec (own := own) (C := cls) (index := ik) (n := 6) hown' hk' hins hini'
    (g := F0 m pc ls rest) rfl (by rw [hb]; exact d0) (Nat.le_refl _) (Nat.le_refl _)
  generalize hT1 : (T.setVm vm₁).pushCell { cls := cX, slots := kX.instanceTypes.map defaultValue, vm := .none } = T1 at X₁ st1
  have hcat : (Value.ref T.heap.size).category = 1 := rfl
  have hcellA : T1.heap[T.heap.size]? = some (freshCell cX kX) := by rw [← hT1]; exact State.heap_pushCell_size _ _
  have d3' : decode c.code (pc + 3) = .ok (.dup, 1) := by rw [hb]; exact d3
  have d4' : decode c.code (pc + 4) = .ok (.ldc is, 2) := by rw [hb]; exact d4
  have hstr' : vk_R own is text sa s' := vk_R.warm hW0 hstr
  obtain ⟨U, hsteps, hrun, hend, hW, hsame, ce, hce, hO⟩ := X₁.ctorThrowS hexec htr (own := own) (cls := cls) (names := names) (ic := ic) hown' hcls hnames h (fun x hx => nomatch hx) hfX hkX hcellA (by rw [hhp, hT]; exact Nat.le_refl _) (msg := .ref sa) rfl
    (g := { method := m, pc := pc + 6, locals := ls, stack := .ref sa :: .ref T.heap.size :: .ref T.heap.size :: rest, locked := none }) rfl hsize rfl rfl (rest := rest) rfl
    (by rw [hb]; exact d6) (by rw [hb]; exact d9) hout hRframes (by simp only [List.map_cons, List.sum_cons, hcat]; omega) hlocks
  obtain ⟨f1, f2⟩ := vx_frame hsame
  rw [hhp] at f1 f2
  have hWs : s.WarmedH U.vm := State.WarmedH.trans hW0 hW
  have hcl : s.vm.findClass cls = some ce.cls := by
    have h9 := hO.cls
    rw [hvm] at h9
    exact h9
  have hall : s.sameButNew ({ U with vm := s.vm } : State) locs mc ms := by
    subst hA
    obtain ⟨e1, e2⟩ := hsame
    rw [State.setFrames_setFrames] at e1
    have h2 : (T.setVm s.vm).sameButNew ({ U with vm := s.vm } : State) [] (0 + 1) (0 + 6) := ⟨e1, e2⟩
    have h3 := X.same.trans h2
    rw [List.append_nil] at h3
    exact h3.mono hc hs
  refine ⟨U, ?_, .threw T.heap.size, hrun, hend, Or.inr ⟨T.heap.size, rfl, cls, ce, locs, hx U hWs.alike f1 (fun q hq => f2 q hq (fun z hz => nomatch hz)), hce, hO.vm, hcl, hWs, hall, hf⟩⟩
  refine st1 _ ?_
  show Steps p.tables e below (T1.setTop { method := m, pc := pc + 3, locals := ls, stack := .ref T.heap.size :: rest, locked := none }) _
  jvm_step X₁.here [X₁.here.top, hexec, d3', Value.category]
  exact X₁.ldcString hexec (own := own) (text := text) (index := is) (a := sa) hown' hstr'.1 hstr'.2
    (g := { method := m, pc := pc + 4, locals := ls, stack := .ref T.heap.size :: .ref T.heap.size :: rest, locked := none }) rfl d4' _ hsteps
/-- 'throw new E("text")', the text by a wide index -/
theorem vx_throwSW {cc : ByteArray} {pc : Nat} (hexec : p.tables.exec = Jvm.exec) (hb : c.code = cc) (hl : l.stackTraces = false) {own cls text : String} {names : List String} {ik is ic mc ms sa : Nat} {A : Nat → Prop}
    (hown : s.vm.findClass own = some m.cls) (hcls : Bundle.fit cls = true) (hnames : ∀ n ∈ names, Bundle.fit n = true)
    (hk : (Cond.classLink own ik cls).before args s = true) (hini : (Cond.initialized cls).before args s = true) (hstr : vk_R own is text sa s) (hat : ∀ w ∈ vx_atS own ic cls names, w.before args s = true)
    (hgood : ∀ w ∈ Cond.classLink own ik cls :: Cond.initialized cls :: vx_atS own ic cls names, vx_ot w = true)
    (hU : vx_Zq Bundle.tN "UNASSIGNED_STACK" Bundle.steD A s s.heap) (hN : vx_Zq Bundle.tN "SUPPRESSED_SENTINEL" Bundle.listD A s s.heap) (hS : va_S A s.heap H locs) (hsize : ls.size = c.maxLocals)
    (d0 : decode cc pc = .ok (.new ik, 3)) (d3 : decode cc (pc + 3) = .ok (.dup, 1)) (d4 : decode cc (pc + 4) = .ok (.ldc_w is, 3)) (d7 : decode cc (pc + 7) = .ok (.invokespecial ic, 3)) (d10 : decode cc (pc + 10) = .ok (.athrow, 1))
    (hout : ∀ x ∈ c.exceptionTable.toList, covers x (pc + 10) = false)
    (hRframes : names.length + 3 < R.frames) (hRlocals : (rest.map fun v => v.category).sum + (13 * (names.length + 1) + 43) ≤ R.locals) (hRcells : cells + 1 ≤ R.cells) (hRslots : slots + 6 ≤ R.slots) (hlocks : meth.locks = false)
    (hx : ∀ t : State, s.vm.Alike t.vm → H.size ≤ t.heap.size → (∀ q : Nat, q < H.size → t.heap[q]? = H[q]?) → XC cls s t)
    (hf : ∀ z ∈ locs, free z.base) (hc : cells + 1 ≤ mc) (hs : slots + 6 ≤ ms) :
    W p l e R s m args below meth c H locs cells slots (vx_MQ below Qc XC args s mc ms free) (F0 m pc ls rest) := by
  intro T hT X
  have htr : e.platform.stackTraces = false := (show e.platform.stackTraces = l.stackTraces by rw [X.admits.platform]).trans hl
  have Y := vx_rebase X (R' := { frames := R.frames, locals := R.locals, cells := 1, slots := 6 }) (Nat.le_refl _) (Nat.le_refl _) hRcells hRslots
  obtain ⟨s', hA⟩ : ∃ z, z = (T.setVm s.vm).setFrames (.invoking m args :: below) := ⟨_, rfl⟩
  rw [← hA] at Y
  have hvm : s'.vm = s.vm := by rw [hA]; rfl
  have hhp : s'.heap = H := by rw [hA]; exact hT
  have hW0 : s.WarmedH s'.vm := by rw [hvm]; exact State.WarmedH.refl s
  have hat' : ∀ w ∈ vx_atS own ic cls names, w.before args s' = true := fun w hw => vx_ot_at hW0 hvm.symm (hgood w (List.mem_cons_of_mem _ (List.mem_cons_of_mem _ hw))) (hat w hw)
  have hk' : (Cond.classLink own ik cls).before args s' = true := vx_ot_at hW0 hvm.symm (hgood _ List.mem_cons_self) hk
  have hini' : (Cond.initialized cls).before args s' = true := vx_ot_at hW0 hvm.symm (hgood _ (List.mem_cons_of_mem _ List.mem_cons_self)) hini
  have hU' : vx_Zq Bundle.tN "UNASSIGNED_STACK" Bundle.steD A s' s'.heap := by rw [hhp]; exact vx_Zq.moved hW0.alike (hU.kept hS.2.1)
  have hN' : vx_Zq Bundle.tN "SUPPRESSED_SENTINEL" Bundle.listD A s' s'.heap := by rw [hhp]; exact vx_Zq.moved hW0.alike (hN.kept hS.2.1)
  have h : ∀ w ∈ Bundle.ownAtoms own ic cls names, w.before args s' = true := vx_own hat' (vx_isRefq hU'.1) (vx_isRefq hN'.1) hU'.2.word hN'.2.word
  have hown' : s'.vm.findClass own = some m.cls := by rw [hvm]; exact hown
  have hins : (Cond.instantiable cls 6).before args s' = true := h _ (by simp [Bundle.ownAtoms])
  obtain ⟨vm₁, cX, kX, hfX, hkX, -, -, X₁, st1⟩ := Y.newCold hexec (own := own) (C := cls) (index := ik) (n := 6) hown' hk' hins hini'
    (g := F0 m pc ls rest) rfl (by rw [hb]; exact d0) (Nat.le_refl _) (Nat.le_refl _)
  generalize hT1 : (T.setVm vm₁).pushCell { cls := cX, slots := kX.instanceTypes.map defaultValue, vm := .none } = T1 at X₁ st1
  have hcat : (Value.ref T.heap.size).category = 1 := rfl
  have hcellA : T1.heap[T.heap.size]? = some (freshCell cX kX) := by rw [← hT1]; exact State.heap_pushCell_size _ _
  have d3' : decode c.code (pc + 3) = .ok (.dup, 1) := by rw [hb]; exact d3
  have d4' : decode c.code (pc + 4) = .ok (.ldc_w is, 3) := by rw [hb]; exact d4
  have hstr' : vk_R own is text sa s' := vk_R.warm hW0 hstr
  obtain ⟨U, hsteps, hrun, hend, hW, hsame, ce, hce, hO⟩ := X₁.ctorThrowS hexec htr (own := own) (cls := cls) (names := names) (ic := ic) hown' hcls hnames h (fun x hx => nomatch hx) hfX hkX hcellA (by rw [hhp, hT]; exact Nat.le_refl _) (msg := .ref sa) rfl
    (g := { method := m, pc := pc + 7, locals := ls, stack := .ref sa :: .ref T.heap.size :: .ref T.heap.size :: rest, locked := none }) rfl hsize rfl rfl (rest := rest) rfl
    (by rw [hb]; exact d7) (by rw [hb]; exact d10) hout hRframes (by simp only [List.map_cons, List.sum_cons, hcat]; omega) hlocks
  obtain ⟨f1, f2⟩ := vx_frame hsame
  rw [hhp] at f1 f2
  have hWs : s.WarmedH U.vm := State.WarmedH.trans hW0 hW
  have hcl : s.vm.findClass cls = some ce.cls := by
    have h9 := hO.cls
    rw [hvm] at h9
    exact h9
  have hall : s.sameButNew ({ U with vm := s.vm } : State) locs mc ms := by
    subst hA
    obtain ⟨e1, e2⟩ := hsame
    rw [State.setFrames_setFrames] at e1
    have h2 : (T.setVm s.vm).sameButNew ({ U with vm := s.vm } : State) [] (0 + 1) (0 + 6) := ⟨e1, e2⟩
    have h3 := X.same.trans h2
    rw [List.append_nil] at h3
    exact h3.mono hc hs
  refine ⟨U, ?_, .threw T.heap.size, hrun, hend, Or.inr ⟨T.heap.size, rfl, cls, ce, locs, hx U hWs.alike f1 (fun q hq => f2 q hq (fun z hz => nomatch hz)), hce, hO.vm, hcl, hWs, hall, hf⟩⟩
  refine st1 _ ?_
  show Steps p.tables e below (T1.setTop { method := m, pc := pc + 3, locals := ls, stack := .ref T.heap.size :: rest, locked := none }) _
  jvm_step X₁.here [X₁.here.top, hexec, d3', Value.category]
  exact X₁.ldcStringW hexec (own := own) (text := text) (index := is) (a := sa) hown' hstr'.1 hstr'.2
    (g := { method := m, pc := pc + 4, locals := ls, stack := .ref T.heap.size :: .ref T.heap.size :: rest, locked := none }) rfl d4' _ hsteps
end Ends
section Bodies
variable {l : Launch}
theorem vx_ofW {y : MethodName} {ws ws' : List Cond} {rm : Room} {Pc : Array Value → State → Prop} {Qc : Array Value → State → Outcome → State → Prop} {XC : String → State → State → Prop} {mc ms : Nat} {free : Addr → Prop} {cc : ByteArray} {maxL : Nat} {ret : Option FieldType}
    (hy : plainName y.cls = true) (hw : ws = Cond.code y cc maxL ret :: ws')
    (body : ∀ p e s m args below meth c s₁, BodyLoose p l y (headSpec ws rm) cc maxL ret e s m args below meth c s₁ → c.maxLocals = maxL → (∀ x ∈ c.exceptionTable.toList, False) → Pc args s →
      W p l e (headSpec ws rm).room s m args below meth c s.heap [] 0 0 (vx_MQ below Qc XC args s mc ms free) (entryFrame m args maxL)) : vx_Met l y ws rm Pc Qc XC mc ms free := by
  refine MetFree.of_bodyS (code := cc) (maxLocals := maxL) (ret := ret) hy ?_ ?_
  · intro args s m h hn
    obtain ⟨meth, c, h1, h2, h3, h4, h5, h6, -, -⟩ := Cond.code_spec hn (atoms_spec (ws := ws) h _ (by rw [hw]; exact List.mem_cons_self))
    exact ⟨meth, c, h1, h2, h3, h4, h5, h6⟩
  · intro p e s m args below meth c s₁ B hml hP _
    have hh0 : s₁.heap = s.heap := by rw [B.state]; rfl
    have ht : ∀ x ∈ c.exceptionTable.toList, False := by
      obtain ⟨meth9, c9, h1, h2, -, -, -, -, h7, -⟩ := Cond.code_spec B.named (atoms_spec (ws := ws) B.pre _ (by rw [hw]; exact List.mem_cons_self))
      cases Option.some.inj (h1.symm.trans B.method)
      cases Option.some.inj (h2.symm.trans (Stand.of_body B).code)
      intro x hx
      rw [Array.isEmpty_iff.mp h7] at hx
      cases hx
    obtain ⟨t, a1, o, b1, b2, b3⟩ := body p e s m args below meth c s₁ B hml ht hP s₁ hh0 (Stand.of_body B)
    exact ⟨t, o, a1, b1, b2, b3⟩
/-- the table of a body with handlers -/
theorem vx_table {p : Program} {x y : MethodName} {S : Spec} {cc bytes : ByteArray} {maxL maxL' : Nat} {ret ret' : Option FieldType} {e : Env} {s s₁ : State} {m : MethodId} {args : Array Value} {below : List Frame} {meth : Method} {c : Code} {hh : List (Nat × Nat × Nat × Nat)}
    (B : BodyLoose p l y S cc maxL ret e s m args below meth c s₁) (h : (Cond.codeWith y bytes maxL' ret' hh).before args s = true) : c.exceptionTable.toList = tableOf hh := by
  obtain ⟨m9, meth9, c9, hn9, h1, h2, -, -, h6, -⟩ := Cond.codeWith_spec h
  cases Option.some.inj (hn9.symm.trans B.named)
  cases Option.some.inj (h1.symm.trans B.method)
  cases Option.some.inj (h2.symm.trans (Stand.of_body B).code)
  rw [← h6, table_eq]
end Bodies
end VXA
/-! ===== END ===== -/
/-! ===== BEGIN a static call of a method with an exception table ===== -/
section VXS
variable {p : Program} {l : Launch} {e : Env} {R : Room} {s : State} {m : MethodId} {args : Array Value} {below : List Frame} {meth : Method} {c : Code} {T : State} {H : Heap} {locs : List Loc} {cells slots : Nat}
abbrev vx_CSW (R : Room) (s : State) (args : Array Value) (own : String) (index : Nat) (y : MethodName) (bytes : ByteArray) (maxL : Nat) (ret : Option FieldType) (hh : List (Nat × Nat × Nat × Nat)) (ws : List Cond) (rm : Room) (mc ms n : Nat) : Prop :=
  (rm.cells = mc ∧ rm.slots = ms ∧ rm.frames + 1 ≤ R.frames ∧ 8 + (maxL + 11) + rm.locals ≤ R.locals ∧ (∀ w ∈ ws, ∀ (a' : Array Value) (U : State), s.WarmedH U.vm → w.before a' U = true) ∧ Cond.codeWith y bytes maxL ret hh ∈ ws) ∧
  (Cond.codeWith y bytes maxL ret hh).before args s = true ∧ (Cond.initialized y.cls).before args s = true ∧ (y.cls ≠ "java/lang/invoke/MethodHandle" ∧ y.cls ≠ "java/lang/invoke/VarHandle") ∧
  (∀ sig, parseMethodDescriptor y.desc = some sig → n = sig.parameters.length) ∧ (Cond.methodLink own index y).before args s = true ∧ (Cond.static y).before args s = true
theorem vx_cwSW {own : String} {index maxL mc ms : Nat} {y : MethodName} {bytes : ByteArray} {ret : Option FieldType} {hh : List (Nat × Nat × Nat × Nat)} {Ts ws ws' : List Cond} {rm : Room} (n : Nat) (ht : ∀ w ∈ Ts, w.before args s = true) (hT : GoodIn Ts (va_wsS own index y ws)) (hw : ws = Cond.codeWith y bytes maxL ret hh :: ws') (hrc : rm.cells = mc) (hrs : rm.slots = ms)
    (hd : y.cls ≠ "java/lang/invoke/MethodHandle" ∧ y.cls ≠ "java/lang/invoke/VarHandle" ∧ (parseMethodDescriptor y.desc).map (fun d => d.parameters.length) = some n) (hR : rm.frames + 1 ≤ R.frames ∧ 8 + (maxL + 11) + rm.locals ≤ R.locals) :
    vx_CSW R s args own index y bytes maxL ret hh ws rm mc ms n := by
  have ok : ∀ w ∈ va_wsS own index y ws, w.before args s = true := fun w h => ht w (hT w h).1
  have hG : GoodIn Ts ws := fun w h => hT w (by unfold va_wsS; exact List.mem_append_right _ h)
  have hc : Cond.codeWith y bytes maxL ret hh ∈ ws := by rw [hw]; exact List.mem_cons_self
  refine ⟨⟨hrc, hrs, hR.1, hR.2, pay_in ht hG, hc⟩, ht _ (hG _ hc).1, ok _ (by simp [va_wsS]), ⟨hd.1, hd.2.1⟩, fun sig h => ?_, ok _ (by simp [va_wsS]), ok _ (by simp [va_wsS])⟩
  have h2 := hd.2.2
  rw [h] at h2
  exact (Option.some.inj h2).symm
theorem vx_callSW (X : Stand p l e R s m args below meth c T locs cells slots) (hexec : p.tables.exec = Jvm.exec) {own : String} {index : Nat} {y : MethodName} {bytes : ByteArray} {maxL : Nat} {ret : Option FieldType} {hh : List (Nat × Nat × Nat × Nat)}
    (hown : s.vm.findClass own = some m.cls) (hlink : (Cond.methodLink own index y).before args s = true) (hstat : (Cond.static y).before args s = true) (hinit : (Cond.initialized y.cls).before args s = true)
    (hcode : (Cond.codeWith y bytes maxL ret hh).before args s = true) (hy : y.cls ≠ "java/lang/invoke/MethodHandle" ∧ y.cls ≠ "java/lang/invoke/VarHandle")
    {W9 : Nat} {Pre : Pt → Array Value → Prop} {Post : Pt → Array Value → Option Value → Pt → Prop} (hK : Back l R p e below s args y 3 W9 Pre Post)
    {g : JFrame} (hg : g.method = m) (hsize : g.locals.size = c.maxLocals) {argsL rest : List Value} (hlen : ∀ sig, parseMethodDescriptor y.desc = some sig → argsL.length = sig.parameters.length)
    (hstack : g.stack = argsL.reverse ++ rest) (hW : 2 * g.monitorRoom + (rest.map fun v => v.category).sum ≤ W9) (hdg : decode c.code g.pc = .ok (.invokestatic index, 3))
    (hpre : ∀ vm₁, s.WarmedH vm₁ → Pre ⟨T.setVm vm₁, locs, cells, slots⟩ argsL.toArray) :
    ∃ (v : Option Value) (vm₁ : Vm) (B : Pt), s.WarmedH vm₁ ∧ Stand p l e R s m args below meth c B.U B.locs B.cells B.slots ∧ Post ⟨T.setVm vm₁, locs, cells, slots⟩ argsL.toArray v B ∧
      ∀ target, Steps p.tables e below (B.U.setTop { g with pc := g.pc + 3, stack := v.toList ++ rest }) target → Steps p.tables e below (T.setTop g) target := by
  obtain ⟨mk, methM, cM, hnamed, hmethM, -, -, -, -, -, -, hsigM⟩ := Cond.codeWith_spec hcode
  have hstatic : methM.isStatic = true := Cond.static_spec hnamed hmethM hstat
  obtain ⟨kP, hkP, -⟩ := className_of_methodNamed hnamed
  have hinitP : kP.init = .initialized := Cond.initialized_spec (findClass_of_methodNamed hnamed) hkP hinit
  obtain ⟨vm₁, X₁, hstep₁⟩ := X.invokestatic hexec hown hlink hnamed hmethM hstatic hkP hinitP hy (g := g) hg (argsL := argsL) (rest := rest) (hlen _ hsigM) hstack hdg
  obtain ⟨v, B, X', hpost, hsteps⟩ := hK m meth c ⟨T.setVm vm₁, locs, cells, slots⟩ { g with stack := rest } (.invokestatic index) mk argsL.toArray X₁ hg hsize hdg hW (X₁.named hnamed) (hpre vm₁ X₁.warmed)
  exact ⟨v, vm₁, B, X₁.warmed, X', hpost, fun target h => hstep₁ _ fun acts => by rw [doInvoke_state]; exact hsteps.trans h⟩
theorem vx_runSW {y : MethodName} {bytes cc : ByteArray} {maxL nL mc ms n index : Nat} {ret : Option FieldType} {hh : List (Nat × Nat × Nat × Nat)} {ws : List Cond} {rm : Room} {Pc : Array Value → State → Prop} {Qc : Array Value → State → Outcome → State → Prop} {free : Addr → Prop} {Ts : List Cond} {own : String} {As rest : List Value} {g : JFrame}
    (S : CallFix p m c cc nL s args Ts own) (hM : Met l y ws rm Pc Qc mc ms free) (cw : vx_CSW R s args own index y bytes maxL ret hh ws rm mc ms n) (hp : PreS s H Pc As)
    (hg : g.method = m) (hn : As.length = n) (hsize : g.locals.size = nL) (hstack : g.stack = As.reverse ++ rest) (hW : 2 * g.monitorRoom + (rest.map fun v => v.category).sum ≤ 8) (hdg : decode cc g.pc = .ok (.invokestatic index, 3)) (hf : cells + mc ≤ R.cells ∧ slots + ms ≤ R.slots) :
    va_Run p l e R s m args below meth c H locs cells slots mc ms g rest (Qc As.toArray) (free) := by
  obtain ⟨⟨hrc, hrs, hfr, hlo, hws, hcw⟩, hcode, hini, hy, hlen, hl, hstt⟩ := cw
  have hK : Back l R p e below s args y 3 8 (PreOf R mc ms Pc) (PostOf Qc mc ms free) := va_backW (hh := hh) (bytes := bytes) (maxL := maxL) (ret := ret) hM hp.1 hrc hrs hfr hlo hws hcw (fun a' U hW => word_at hW (Or.inl (by first | rfl | simp [Cond.onTables, Cond.keeps, Cond.steady])) hini)
  obtain ⟨hx, hb, hml, ho, -⟩ := S
  intro T hT X
  obtain ⟨v, vm₁, ⟨U', l2, c2, s2⟩, hW₁, X', ⟨g', mk, t, L, e1, e2, hq, h1, hL, h2, h3⟩, st⟩ := vx_callSW X hx (hh := hh) (bytes := bytes) (maxL := maxL) (ret := ret) ho hl hstt hini hcode hy hK hg (hsize.trans hml.symm) (argsL := As) (rest := rest) (fun sig h => hn.trans (hlen sig h)) hstack hW (by rw [hb]; exact hdg)
    (fun vm₁ hW₁ => ⟨hf.1, hf.2, hp.2 (T.setVm vm₁) hT hW₁⟩)
  dsimp only [Pt.U, Pt.locs, Pt.cells, Pt.slots] at X' e1 e2 h1 h2 h3 st
  subst h1; subst h2; subst h3
  exact ⟨v, (T.setVm vm₁).calling g' mk As.toArray, t, U', L, hT, X', hL, e1, e2, hq, st⟩
/-- a thing of a world lies in the heap -/
theorem vx_lt {D : va_G} {cl : List vw_C} {ws : va_W} {H1 : Heap} (h : va_P D cl ws H1) {k : Nat} {q : Nat × va_E} (hk : ws[k]? = some q) : q.1 < H1.size := (h k q hk).lt
end VXS
/-! ===== END ===== -/
/-! ===== BEGIN methods with a table of their own: called by a name, returning or throwing ===== -/
section VXH
/-! vx_backW, vx_callVX, vx_callSX, vx_callVW, vx_runVW, vx_runVX, vx_runSX, vx_ofWH follow the same proofs as their sisters above (Free/Laws.lean, Shelf42/LK1.lean); vx_outP calls Shelf42/NT130.lean (outThrough). -/
section
variable {l : Launch} {R : Room} {p : Program} {e : Env} {below : List Frame} {s : State} {sargs : Array Value} {y : MethodName} {len W9 : Nat}
theorem vx_backW {ws : List Cond} {rm : Room} {Pc : Array Value → State → Prop} {Qc : Array Value → State → Outcome → State → Prop} {XC : String → State → State → Prop} {mc ms : Nat} {free : Addr → Prop} {bytes : ByteArray} {maxL : Nat} {ret : Option FieldType} {hh : List (Nat × Nat × Nat × Nat)}
    (hM : vx_Met l y ws rm Pc Qc XC mc ms free) (hblind : FrameBlind Pc) (hrc : rm.cells = mc) (hrs : rm.slots = ms)
    (hframes : rm.frames + 1 ≤ R.frames) (hlocals : W9 + (maxL + 11) + rm.locals ≤ R.locals)
    (hws : ∀ w ∈ ws, ∀ a' U, s.WarmedH U.vm → w.before a' U = true) (hcode : Cond.codeWith y bytes maxL ret hh ∈ ws) (hinit : ∀ a' U, s.WarmedH U.vm → (Cond.initialized y.cls).before a' U = true) :
    vx_Back l R p e below s sargs y len W9 (PreOf R mc ms Pc) (PostOf Qc mc ms free) (vx_Post XC mc ms free) := by
  intro m meth c A g ig mk a X hg hsize hdg hW hn hp
  have h1 : (headSpec ws rm).pre.before a A.U = true := atoms_intro fun w hw => hws w hw _ _ X.warmed
  have h2 : (Cond.codeWith y bytes maxL ret hh).before a A.U = true := hws _ hcode _ _ X.warmed
  have h3 : (Cond.initialized y.cls).before a A.U = true := hinit _ _ X.warmed
  have h4 : A.cells + (headSpec ws rm).room.cells ≤ R.cells := by rw [show (headSpec ws rm).room.cells = mc from hrc]; exact hp.1
  have h5 : A.slots + (headSpec ws rm).room.slots ≤ R.slots := by rw [show (headSpec ws rm).room.slots = ms from hrs]; exact hp.2.1
  have hPc : Pc a (A.U.calling g mk a) := hblind _ _ _ _ hp.2.2
  obtain ⟨U, Ls, c0, s0⟩ := A
  dsimp only [Pt.U, Pt.locs, Pt.cells, Pt.slots] at h1 h2 h3 h4 h5 X hn hPc ⊢
  obtain ⟨m9, methY, cY, hn9, hmY, hcY, -, hlY, -⟩ := Cond.codeWith_spec h2
  cases Option.some.inj (hn9.symm.trans hn)
  obtain ⟨kY, hkY, -⟩ := className_of_methodNamed hn
  have hinitY : kY.init = .initialized := Cond.initialized_spec (findClass_of_methodNamed hn) hkY h3
  have h : At U g.method c below := by rw [hg]; exact X.here
  have hlocals9 : W9 + (maxL + 11) + (headSpec ws rm).room.locals ≤ R.locals := hlocals
  have happ : (headSpec ws rm).appliesLoose y e.platform (U.calling g mk a) = true :=
    Spec.appliesLoose_calling (g := g) h hdg hn hkY hinitY
      (X.room_calling (g := g) (R' := (headSpec ws rm).room) hsize hmY hcY hframes (by rw [hlY]; omega) h4 h5) h1
  obtain ⟨mid, hmid⟩ := h.above
  have hfr : (U.setTop g).frames = (.java g :: mid) ++ below := by rw [State.frames_setTop' g h.top, hmid]; rfl
  obtain ⟨o, s₂, hsteps, -, hend, hq⟩ := Steps.callFree hM p X.admits X.cas X.clock (acts := []) hfr happ hPc trivial
  have hq' : vx_Q Qc XC mc ms free a (U.calling g mk a) o s₂ := hq
  rw [State.frames_setTop' g h.top] at hend
  obtain ⟨g₀, hg0⟩ := Option.isSome_iff_exists.mp h.top
  obtain ⟨r, hr⟩ := State.topJava?_eq_some.mp hg0
  have hr' : (({ U with heap := s₂.heap, slotsUsed := s₂.slotsUsed } : State).setVm s₂.vm).frames = .java g₀ :: r := hr
  rcases hq' with ⟨hqc, L, hfe, hL⟩ | ⟨q, rfl, E, ce, L, hx, hce, hcv, hcl, hW₂, hsm, hL⟩
  · obtain ⟨⟨v, rfl⟩, hW₂, e2, q2, q3, q4, q5, q6⟩ := id hfe
    have e3 : s₂ = ({ (U.calling g mk a).setFrames s₂.frames with heap := s₂.heap, slotsUsed := s₂.slotsUsed } : State).setVm s₂.vm := by
      have : s₂ = ({ s₂ with vm := (U.calling g mk a).vm } : State).setVm s₂.vm := rfl
      rw [e2] at this
      exact this
    obtain ⟨c₂, i₂, len₂, hc₂, hd₂, hf₂⟩ := hend
    have hW' : U.WarmedH s₂.vm := hW₂
    have hcc : c₂ = c := by
      have h1 : s₂.code? g.method = U.code? g.method := by
        rw [State.code?_eq, State.code?_eq, hW'.alike.method?]
      exact Option.some.inj (hc₂.symm.trans (h1.trans h.code))
    subst hcc
    have hlen : len₂ = len := by rw [hdg] at hd₂; cases hd₂; rfl
    subst hlen
    have hs₂ : s₂ = (({ U with heap := s₂.heap, slotsUsed := s₂.slotsUsed } : State).setVm s₂.vm).setTop { g with pc := g.pc + len₂, stack := v.toList ++ g.stack } := by
      refine e3.trans ?_
      rw [hf₂, State.calling_eq h.top, State.setFrames_setFrames, State.setTop_of_frames _ hr', hr]
      rfl
    have hsame : U.sameButNew ({ U with heap := s₂.heap, slotsUsed := s₂.slotsUsed } : State) L mc ms := by
      refine ⟨?_, q2, q3, q4, q5, q6⟩
      obtain ⟨t, ht, -⟩ := State.frames_cons hr
      show ({ U with heap := s₂.heap, slotsUsed := s₂.slotsUsed } : State) = { U.setFrames U.frames with heap := s₂.heap, slotsUsed := s₂.slotsUsed }
      rw [State.setFrames_self ht]
    subst hg
    refine Or.inl ⟨v, ⟨(({ U with heap := s₂.heap, slotsUsed := s₂.slotsUsed } : State).setVm s₂.vm), Ls ++ L, c0 + mc, s0 + ms⟩,
      ⟨X.admits, X.cas, X.clock, X.frames, X.room, X.hears, X.method, X.code, (X.here.setHeapUsed s₂.heap s₂.slotsUsed).setVm hW'.alike, X.tail, State.WarmedH.trans X.warmed hW', X.limits, X.bytes, X.same.trans (hsame.setVm s.vm)⟩,
      ⟨g, mk, s₂, L, rfl, rfl, hqc, rfl, hL, rfl, rfl⟩, ?_⟩
    show Steps p.tables e below _ ((({ U with heap := s₂.heap, slotsUsed := s₂.slotsUsed } : State).setVm s₂.vm).setTop { g with pc := g.pc + len₂, stack := v.toList ++ g.stack })
    rw [← hs₂]
    exact hsteps
  · obtain ⟨e2, q2, q3, q4, q5, q6⟩ := id hsm
    have e3 : s₂ = ({ (U.calling g mk a).setFrames s₂.frames with heap := s₂.heap, slotsUsed := s₂.slotsUsed } : State).setVm s₂.vm := by
      have : s₂ = ({ s₂ with vm := (U.calling g mk a).vm } : State).setVm s₂.vm := rfl
      rw [e2] at this
      exact this
    have hf₂ : s₂.frames = .throwing q :: .java g :: U.frames.tail := hend
    have hW' : U.WarmedH s₂.vm := hW₂
    have hs₂ : s₂ = ((({ U with heap := s₂.heap, slotsUsed := s₂.slotsUsed } : State).setVm s₂.vm).setTop g).pushFrame (.throwing q) := by
      refine e3.trans ?_
      rw [hf₂, State.calling_eq h.top, State.setFrames_setFrames, State.pushFrame, State.frames_setTop _ hr', State.setTop_of_frames _ hr', State.setFrames_setFrames, hr]
      rfl
    have hsame : U.sameButNew ({ U with heap := s₂.heap, slotsUsed := s₂.slotsUsed } : State) L mc ms := by
      refine ⟨?_, q2, q3, q4, q5, q6⟩
      obtain ⟨t, ht, -⟩ := State.frames_cons hr
      show ({ U with heap := s₂.heap, slotsUsed := s₂.slotsUsed } : State) = { U.setFrames U.frames with heap := s₂.heap, slotsUsed := s₂.slotsUsed }
      rw [State.setFrames_self ht]
    subst hg
    refine Or.inr ⟨q, ⟨(({ U with heap := s₂.heap, slotsUsed := s₂.slotsUsed } : State).setVm s₂.vm), Ls ++ L, c0 + mc, s0 + ms⟩,
      ⟨X.admits, X.cas, X.clock, X.frames, X.room, X.hears, X.method, X.code, (X.here.setHeapUsed s₂.heap s₂.slotsUsed).setVm hW'.alike, X.tail, State.WarmedH.trans X.warmed hW', X.limits, X.bytes, X.same.trans (hsame.setVm s.vm)⟩,
      ⟨g, mk, s₂, L, E, ce, rfl, rfl, hx, hce, hcv, hcl, rfl, hL, rfl, rfl⟩, ?_⟩
    show Steps p.tables e below _ (((({ U with heap := s₂.heap, slotsUsed := s₂.slotsUsed } : State).setVm s₂.vm).setTop g).pushFrame (.throwing q))
    rw [← hs₂]
    exact hsteps
end
variable {p : Program} {l : Launch} {e : Env} {R : Room} {s : State} {m : MethodId} {args : Array Value} {below : List Frame} {meth : Method} {c : Code} {T : State} {H : Heap} {locs : List Loc} {cells slots : Nat}
theorem vx_callVX (X : Stand p l e R s m args below meth c T locs cells slots) (hexec : p.tables.exec = Jvm.exec) {own C : String} {index : Nat} {y : MethodName} {bytes : ByteArray} {maxL : Nat} {ret : Option FieldType} {hh : List (Nat × Nat × Nat × Nat)}
    (hown : s.vm.findClass own = some m.cls) (hlink : (Cond.methodLink own index y).before args s = true) (hinst : (Cond.instanceMethod y).before args s = true) (hsel : (Cond.selects C y y).before args s = true)
    (hcode : (Cond.codeWith y bytes maxL ret hh).before args s = true) (hy : y.cls ≠ "java/lang/invoke/MethodHandle" ∧ y.cls ≠ "java/lang/invoke/VarHandle")
    {W9 : Nat} {Pre : Pt → Array Value → Prop} {Post : Pt → Array Value → Option Value → Pt → Prop} {PostX : Pt → Array Value → Addr → Pt → Prop} (hK : vx_Back l R p e below s args y 3 W9 Pre Post PostX)
    {b : Addr} {cellB : Cell} (hcell : T.heap[b]? = some cellB) (hobj : cellB.vm.isStatics = false) (hcls : s.vm.findClass C = some cellB.cls)
    {g : JFrame} (hg : g.method = m) (hsize : g.locals.size = c.maxLocals) {argsL rest : List Value} (hlen : ∀ sig, parseMethodDescriptor y.desc = some sig → argsL.length = sig.parameters.length)
    (hstack : g.stack = argsL.reverse ++ .ref b :: rest) (hW : 2 * g.monitorRoom + (rest.map fun v => v.category).sum ≤ W9) (hdg : decode c.code g.pc = .ok (.invokevirtual index, 3))
    (hpre : ∀ vm₁, s.WarmedH vm₁ → Pre ⟨T.setVm vm₁, locs, cells, slots⟩ (Value.ref b :: argsL).toArray) :
    (∃ (v : Option Value) (vm₁ : Vm) (B : Pt), s.WarmedH vm₁ ∧ Stand p l e R s m args below meth c B.U B.locs B.cells B.slots ∧ Post ⟨T.setVm vm₁, locs, cells, slots⟩ (Value.ref b :: argsL).toArray v B ∧
      ∀ target, Steps p.tables e below (B.U.setTop { g with pc := g.pc + 3, stack := v.toList ++ rest }) target → Steps p.tables e below (T.setTop g) target) ∨
    (∃ (q : Addr) (vm₁ : Vm) (B : Pt), s.WarmedH vm₁ ∧ Stand p l e R s m args below meth c B.U B.locs B.cells B.slots ∧ PostX ⟨T.setVm vm₁, locs, cells, slots⟩ (Value.ref b :: argsL).toArray q B ∧
      Steps p.tables e below (T.setTop g) ((B.U.setTop { g with stack := rest }).pushFrame (.throwing q))) := by
  obtain ⟨mk, methM, hnamed, hmethM, hstM, habM⟩ := Cond.instanceMethod_spec hinst
  obtain ⟨m8, methM', cM, hn8, hmethM', -, -, -, -, -, -, hsigM⟩ := Cond.codeWith_spec hcode
  cases Option.some.inj (hn8.symm.trans hnamed)
  cases hmethM.symm.trans hmethM'
  obtain ⟨c2, r2, m2, q1, q2, q3, q4, kP, hkP, hkPi⟩ := Cond.selects_spec hsel
  cases hcls.symm.trans q1
  cases (State.methodFound?_of_named hnamed hy).symm.trans q2
  cases hnamed.symm.trans q3
  have hselP : selectMethod e.platform s.vm cellB.cls mk = .method mk := by rw [Launch.admits_selectMethod X.admits]; exact q4
  obtain ⟨vm₁, X₁, hstep₁⟩ := X.invokevirtual hexec hown hlink hnamed hmethM hstM hkP hkPi hy (a := b) (cell := cellB) hcell
    (fun z h => by rw [h] at hobj; cases hobj) hselP hmethM habM hkP hkPi (g := g) hg (argsL := argsL) (rest := rest) (hlen _ hsigM) hstack hdg
  rcases hK m meth c ⟨T.setVm vm₁, locs, cells, slots⟩ { g with stack := rest } (.invokevirtual index) mk (Value.ref b :: argsL).toArray X₁ hg hsize hdg hW (X₁.named hnamed) (hpre vm₁ X₁.warmed) with ⟨v, B, X', hpost, hsteps⟩ | ⟨q, B, X', hpost, hsteps⟩
  · exact Or.inl ⟨v, vm₁, B, X₁.warmed, X', hpost, fun target h => hstep₁ _ fun acts => by rw [doInvoke_state]; exact hsteps.trans h⟩
  · exact Or.inr ⟨q, vm₁, B, X₁.warmed, X', hpost, hstep₁ _ fun acts => by rw [doInvoke_state]; exact hsteps⟩
theorem vx_callSX (X : Stand p l e R s m args below meth c T locs cells slots) (hexec : p.tables.exec = Jvm.exec) {own : String} {index : Nat} {y : MethodName} {bytes : ByteArray} {maxL : Nat} {ret : Option FieldType} {hh : List (Nat × Nat × Nat × Nat)}
    (hown : s.vm.findClass own = some m.cls) (hlink : (Cond.methodLink own index y).before args s = true) (hstat : (Cond.static y).before args s = true) (hinit : (Cond.initialized y.cls).before args s = true)
    (hcode : (Cond.codeWith y bytes maxL ret hh).before args s = true) (hy : y.cls ≠ "java/lang/invoke/MethodHandle" ∧ y.cls ≠ "java/lang/invoke/VarHandle")
    {W9 : Nat} {Pre : Pt → Array Value → Prop} {Post : Pt → Array Value → Option Value → Pt → Prop} {PostX : Pt → Array Value → Addr → Pt → Prop} (hK : vx_Back l R p e below s args y 3 W9 Pre Post PostX)
    {g : JFrame} (hg : g.method = m) (hsize : g.locals.size = c.maxLocals) {argsL rest : List Value} (hlen : ∀ sig, parseMethodDescriptor y.desc = some sig → argsL.length = sig.parameters.length)
    (hstack : g.stack = argsL.reverse ++ rest) (hW : 2 * g.monitorRoom + (rest.map fun v => v.category).sum ≤ W9) (hdg : decode c.code g.pc = .ok (.invokestatic index, 3))
    (hpre : ∀ vm₁, s.WarmedH vm₁ → Pre ⟨T.setVm vm₁, locs, cells, slots⟩ argsL.toArray) :
    (∃ (v : Option Value) (vm₁ : Vm) (B : Pt), s.WarmedH vm₁ ∧ Stand p l e R s m args below meth c B.U B.locs B.cells B.slots ∧ Post ⟨T.setVm vm₁, locs, cells, slots⟩ argsL.toArray v B ∧
      ∀ target, Steps p.tables e below (B.U.setTop { g with pc := g.pc + 3, stack := v.toList ++ rest }) target → Steps p.tables e below (T.setTop g) target) ∨
    (∃ (q : Addr) (vm₁ : Vm) (B : Pt), s.WarmedH vm₁ ∧ Stand p l e R s m args below meth c B.U B.locs B.cells B.slots ∧ PostX ⟨T.setVm vm₁, locs, cells, slots⟩ argsL.toArray q B ∧
      Steps p.tables e below (T.setTop g) ((B.U.setTop { g with stack := rest }).pushFrame (.throwing q))) := by
  obtain ⟨mk, methM, cM, hnamed, hmethM, -, -, -, -, -, -, hsigM⟩ := Cond.codeWith_spec hcode
  have hstatic : methM.isStatic = true := Cond.static_spec hnamed hmethM hstat
  obtain ⟨kP, hkP, -⟩ := className_of_methodNamed hnamed
  have hinitP : kP.init = .initialized := Cond.initialized_spec (findClass_of_methodNamed hnamed) hkP hinit
  obtain ⟨vm₁, X₁, hstep₁⟩ := X.invokestatic hexec hown hlink hnamed hmethM hstatic hkP hinitP hy (g := g) hg (argsL := argsL) (rest := rest) (hlen _ hsigM) hstack hdg
  rcases hK m meth c ⟨T.setVm vm₁, locs, cells, slots⟩ { g with stack := rest } (.invokestatic index) mk argsL.toArray X₁ hg hsize hdg hW (X₁.named hnamed) (hpre vm₁ X₁.warmed) with ⟨v, B, X', hpost, hsteps⟩ | ⟨q, B, X', hpost, hsteps⟩
  · exact Or.inl ⟨v, vm₁, B, X₁.warmed, X', hpost, fun target h => hstep₁ _ fun acts => by rw [doInvoke_state]; exact hsteps.trans h⟩
  · exact Or.inr ⟨q, vm₁, B, X₁.warmed, X', hpost, hstep₁ _ fun acts => by rw [doInvoke_state]; exact hsteps⟩
theorem vx_callVW (X : Stand p l e R s m args below meth c T locs cells slots) (hexec : p.tables.exec = Jvm.exec) {own C : String} {index : Nat} {y : MethodName} {bytes : ByteArray} {maxL : Nat} {ret : Option FieldType} {hh : List (Nat × Nat × Nat × Nat)}
    (hown : s.vm.findClass own = some m.cls) (hlink : (Cond.methodLink own index y).before args s = true) (hinst : (Cond.instanceMethod y).before args s = true) (hsel : (Cond.selects C y y).before args s = true)
    (hcode : (Cond.codeWith y bytes maxL ret hh).before args s = true) (hy : y.cls ≠ "java/lang/invoke/MethodHandle" ∧ y.cls ≠ "java/lang/invoke/VarHandle")
    {W9 : Nat} {Pre : Pt → Array Value → Prop} {Post : Pt → Array Value → Option Value → Pt → Prop} (hK : Back l R p e below s args y 3 W9 Pre Post)
    {b : Addr} {cellB : Cell} (hcell : T.heap[b]? = some cellB) (hobj : cellB.vm.isStatics = false) (hcls : s.vm.findClass C = some cellB.cls)
    {g : JFrame} (hg : g.method = m) (hsize : g.locals.size = c.maxLocals) {argsL rest : List Value} (hlen : ∀ sig, parseMethodDescriptor y.desc = some sig → argsL.length = sig.parameters.length)
    (hstack : g.stack = argsL.reverse ++ .ref b :: rest) (hW : 2 * g.monitorRoom + (rest.map fun v => v.category).sum ≤ W9) (hdg : decode c.code g.pc = .ok (.invokevirtual index, 3))
    (hpre : ∀ vm₁, s.WarmedH vm₁ → Pre ⟨T.setVm vm₁, locs, cells, slots⟩ (Value.ref b :: argsL).toArray) :
    ∃ (v : Option Value) (vm₁ : Vm) (B : Pt), s.WarmedH vm₁ ∧ Stand p l e R s m args below meth c B.U B.locs B.cells B.slots ∧ Post ⟨T.setVm vm₁, locs, cells, slots⟩ (Value.ref b :: argsL).toArray v B ∧
      ∀ target, Steps p.tables e below (B.U.setTop { g with pc := g.pc + 3, stack := v.toList ++ rest }) target → Steps p.tables e below (T.setTop g) target := by
  obtain ⟨mk, methM, hnamed, hmethM, hstM, habM⟩ := Cond.instanceMethod_spec hinst
  obtain ⟨m8, methM', cM, hn8, hmethM', -, -, -, -, -, -, hsigM⟩ := Cond.codeWith_spec hcode
  cases Option.some.inj (hn8.symm.trans hnamed)
  cases hmethM.symm.trans hmethM'
  obtain ⟨c2, r2, m2, q1, q2, q3, q4, kP, hkP, hkPi⟩ := Cond.selects_spec hsel
  cases hcls.symm.trans q1
  cases (State.methodFound?_of_named hnamed hy).symm.trans q2
  cases hnamed.symm.trans q3
  have hselP : selectMethod e.platform s.vm cellB.cls mk = .method mk := by rw [Launch.admits_selectMethod X.admits]; exact q4
  obtain ⟨vm₁, X₁, hstep₁⟩ := X.invokevirtual hexec hown hlink hnamed hmethM hstM hkP hkPi hy (a := b) (cell := cellB) hcell
    (fun z h => by rw [h] at hobj; cases hobj) hselP hmethM habM hkP hkPi (g := g) hg (argsL := argsL) (rest := rest) (hlen _ hsigM) hstack hdg
  obtain ⟨v, B, X', hpost, hsteps⟩ := hK m meth c ⟨T.setVm vm₁, locs, cells, slots⟩ { g with stack := rest } (.invokevirtual index) mk (Value.ref b :: argsL).toArray X₁ hg hsize hdg hW (X₁.named hnamed) (hpre vm₁ X₁.warmed)
  exact ⟨v, vm₁, B, X₁.warmed, X', hpost, fun target h => hstep₁ _ fun acts => by rw [doInvoke_state]; exact hsteps.trans h⟩
abbrev vx_CVW (R : Room) (s : State) (args : Array Value) (own C : String) (index : Nat) (y : MethodName) (bytes : ByteArray) (maxL : Nat) (ret : Option FieldType) (hh : List (Nat × Nat × Nat × Nat)) (ws : List Cond) (rm : Room) (mc ms n : Nat) : Prop :=
  (rm.cells = mc ∧ rm.slots = ms ∧ rm.frames + 1 ≤ R.frames ∧ 8 + (maxL + 11) + rm.locals ≤ R.locals ∧ (∀ w ∈ ws, ∀ (a' : Array Value) (U : State), s.WarmedH U.vm → w.before a' U = true) ∧ Cond.codeWith y bytes maxL ret hh ∈ ws) ∧
  (Cond.codeWith y bytes maxL ret hh).before args s = true ∧ (Cond.initialized y.cls).before args s = true ∧ (y.cls ≠ "java/lang/invoke/MethodHandle" ∧ y.cls ≠ "java/lang/invoke/VarHandle") ∧
  (∀ sig, parseMethodDescriptor y.desc = some sig → n = sig.parameters.length) ∧ (Cond.methodLink own index y).before args s = true ∧ (Cond.instanceMethod y).before args s = true ∧ (Cond.selects C y y).before args s = true
theorem vx_cwVW {own C : String} {index maxL mc ms : Nat} {y : MethodName} {bytes : ByteArray} {ret : Option FieldType} {hh : List (Nat × Nat × Nat × Nat)} {Ts ws ws' : List Cond} {rm : Room} (n : Nat) (ht : ∀ w ∈ Ts, w.before args s = true) (hT : GoodIn Ts (wsV own index C y ws)) (hw : ws = Cond.codeWith y bytes maxL ret hh :: ws') (hrc : rm.cells = mc) (hrs : rm.slots = ms)
    (hd : y.cls = C ∧ y.cls ≠ "java/lang/invoke/MethodHandle" ∧ y.cls ≠ "java/lang/invoke/VarHandle" ∧ (parseMethodDescriptor y.desc).map (fun d => d.parameters.length) = some n) (hR : rm.frames + 1 ≤ R.frames ∧ 8 + (maxL + 11) + rm.locals ≤ R.locals) :
    vx_CVW R s args own C index y bytes maxL ret hh ws rm mc ms n := by
  obtain ⟨hC, hd⟩ := hd
  subst hC
  have ok : ∀ w ∈ wsV own index y.cls y ws, w.before args s = true := fun w h => ht w (hT w h).1
  have hG : GoodIn Ts ws := fun w h => hT w (by unfold wsV; exact List.mem_append_right _ h)
  have hc : Cond.codeWith y bytes maxL ret hh ∈ ws := by rw [hw]; exact List.mem_cons_self
  refine ⟨⟨hrc, hrs, hR.1, hR.2, pay_in ht hG, hc⟩, ht _ (hG _ hc).1, ok _ (by simp [wsV]), ⟨hd.1, hd.2.1⟩, fun sig h => ?_, ok _ (by simp [wsV]), ok _ (by simp [wsV]), ok _ (by simp [wsV])⟩
  have h2 := hd.2.2
  rw [h] at h2
  exact (Option.some.inj h2).symm
theorem vx_runVW {y : MethodName} {bytes cc : ByteArray} {maxL nL mc ms n index : Nat} {ret : Option FieldType} {hh : List (Nat × Nat × Nat × Nat)} {ws : List Cond} {rm : Room} {Pc : Array Value → State → Prop} {Qc : Array Value → State → Outcome → State → Prop} {free : Addr → Prop} {Ts : List Cond} {own C : String} {b : Addr} {As rest : List Value} {g : JFrame}
    (S : CallFix p m c cc nL s args Ts own) (hM : Met l y ws rm Pc Qc mc ms free) (cw : vx_CVW R s args own C index y bytes maxL ret hh ws rm mc ms n) (hp : PreV s H C b Pc As)
    (hg : g.method = m) (hn : As.length = n) (hsize : g.locals.size = nL) (hstack : g.stack = As.reverse ++ .ref b :: rest) (hW : 2 * g.monitorRoom + (rest.map fun v => v.category).sum ≤ 8) (hdg : decode cc g.pc = .ok (.invokevirtual index, 3)) (hf : cells + mc ≤ R.cells ∧ slots + ms ≤ R.slots) :
    va_Run p l e R s m args below meth c H locs cells slots mc ms g rest (Qc (Value.ref b :: As).toArray) free := by
  obtain ⟨⟨hrc, hrs, hfr, hlo, hws, hcw⟩, hcode, hini, hy, hlen, hl, hin, hse⟩ := cw
  have hK : Back l R p e below s args y 3 8 (PreOf R mc ms Pc) (PostOf Qc mc ms free) := va_backW (hh := hh) (bytes := bytes) (maxL := maxL) (ret := ret) hM hp.1 hrc hrs hfr hlo hws hcw (fun a' U hW => word_at hW (Or.inl (by first | rfl | simp [Cond.onTables, Cond.keeps, Cond.steady])) hini)
  obtain ⟨hx, hb, hml, ho, -⟩ := S
  obtain ⟨-, ⟨cellB, hcB, hoB, hclB⟩, hPc⟩ := hp
  intro T hT X
  obtain ⟨v, vm₁, ⟨U', l2, c2, s2⟩, hW₁, X', ⟨g', mk, t, L, e1, e2, hq, h1, hL, h2, h3⟩, st⟩ := vx_callVW X hx (C := C) (hh := hh) (bytes := bytes) (maxL := maxL) (ret := ret) ho hl hin hse hcode hy hK (by rw [hT]; exact hcB) hoB hclB hg (hsize.trans hml.symm) (argsL := As) (rest := rest) (fun sig h => hn.trans (hlen sig h)) hstack hW (by rw [hb]; exact hdg)
    (fun vm₁ hW₁ => ⟨hf.1, hf.2, hPc (T.setVm vm₁) hT hW₁⟩)
  dsimp only [Pt.U, Pt.locs, Pt.cells, Pt.slots] at X' e1 e2 h1 h2 h3 st
  subst h1; subst h2; subst h3
  exact ⟨v, (T.setVm vm₁).calling g' mk (Value.ref b :: As).toArray, t, U', L, hT, X', hL, e1, e2, hq, st⟩
section
variable {y : MethodName} {bytes cc : ByteArray} {maxL nL mc ms n index : Nat} {ret : Option FieldType} {ws : List Cond} {rm : Room} {Pc : Array Value → State → Prop} {Qc : Array Value → State → Outcome → State → Prop} {XC : String → State → State → Prop} {free : Addr → Prop} {Ts : List Cond} {own C : String} {b : Addr} {As rest : List Value} {g : JFrame}
theorem vx_runVX {hh : List (Nat × Nat × Nat × Nat)} (S : CallFix p m c cc nL s args Ts own) (hM : vx_Met l y ws rm Pc Qc XC mc ms free) (cw : vx_CVW R s args own C index y bytes maxL ret hh ws rm mc ms n) (hp : PreV s H C b Pc As)
    (hg : g.method = m) (hn : As.length = n) (hsize : g.locals.size = nL) (hstack : g.stack = As.reverse ++ .ref b :: rest) (hW : 2 * g.monitorRoom + (rest.map fun v => v.category).sum ≤ 8) (hdg : decode cc g.pc = .ok (.invokevirtual index, 3)) (hf : cells + mc ≤ R.cells ∧ slots + ms ≤ R.slots) :
    vx_Run p l e R s m args below meth c H locs cells slots mc ms g rest (Qc (Value.ref b :: As).toArray) XC free := by
  obtain ⟨⟨hrc, hrs, hfr, hlo, hws, hcw⟩, hcode, hini, hy, hlen, hl, hin, hse⟩ := cw
  have hK : vx_Back l R p e below s args y 3 8 (PreOf R mc ms Pc) (PostOf Qc mc ms free) (vx_Post XC mc ms free) := vx_backW (hh := hh) (bytes := bytes) (maxL := maxL) (ret := ret) hM hp.1 hrc hrs hfr hlo hws hcw (fun a' U hW => word_at hW (Or.inl (by first | rfl | simp [Cond.onTables, Cond.keeps, Cond.steady])) hini)
  obtain ⟨hx, hb, hml, ho, -⟩ := S
  obtain ⟨-, ⟨cellB, hcB, hoB, hclB⟩, hPc⟩ := hp
  intro T hT X
  rcases vx_callVX X hx (C := C) (hh := hh) (bytes := bytes) (maxL := maxL) (ret := ret) ho hl hin hse hcode hy hK (by rw [hT]; exact hcB) hoB hclB hg (hsize.trans hml.symm) (argsL := As) (rest := rest) (fun sig h => hn.trans (hlen sig h)) hstack hW (by rw [hb]; exact hdg)
    (fun vm₁ hW₁ => ⟨hf.1, hf.2, hPc (T.setVm vm₁) hT hW₁⟩) with ⟨v, vm₁, ⟨U', l2, c2, s2⟩, hW₁, X', ⟨g', mk, t, L, e1, e2, hq, h1, hL, h2, h3⟩, st⟩ | ⟨q, vm₁, ⟨U', l2, c2, s2⟩, hW₁, X', ⟨g', mk, t, L, E, ce, e1, e2, hq, hce, hcv, hcl, h1, hL, h2, h3⟩, st⟩
  · dsimp only [Pt.U, Pt.locs, Pt.cells, Pt.slots] at X' e1 e2 h1 h2 h3 st
    subst h1; subst h2; subst h3
    exact Or.inl ⟨v, (T.setVm vm₁).calling g' mk (Value.ref b :: As).toArray, t, U', L, hT, X', hL, e1, e2, hq, st⟩
  · dsimp only [Pt.U, Pt.locs, Pt.cells, Pt.slots] at X' e1 e2 h1 h2 h3 st hcl
    subst h1; subst h2; subst h3
    exact Or.inr ⟨q, (T.setVm vm₁).calling g' mk (Value.ref b :: As).toArray, t, U', L, E, ce, hT, X', hL, e1, e2, hq, hce, hcv, vx_cls hW₁ hcl, st⟩
theorem vx_runSX {hh : List (Nat × Nat × Nat × Nat)} (S : CallFix p m c cc nL s args Ts own) (hM : vx_Met l y ws rm Pc Qc XC mc ms free) (cw : vx_CSW R s args own index y bytes maxL ret hh ws rm mc ms n) (hp : PreS s H Pc As)
    (hg : g.method = m) (hn : As.length = n) (hsize : g.locals.size = nL) (hstack : g.stack = As.reverse ++ rest) (hW : 2 * g.monitorRoom + (rest.map fun v => v.category).sum ≤ 8) (hdg : decode cc g.pc = .ok (.invokestatic index, 3)) (hf : cells + mc ≤ R.cells ∧ slots + ms ≤ R.slots) :
    vx_Run p l e R s m args below meth c H locs cells slots mc ms g rest (Qc As.toArray) XC free := by
  obtain ⟨⟨hrc, hrs, hfr, hlo, hws, hcw⟩, hcode, hini, hy, hlen, hl, hstt⟩ := cw
  have hK : vx_Back l R p e below s args y 3 8 (PreOf R mc ms Pc) (PostOf Qc mc ms free) (vx_Post XC mc ms free) := vx_backW (hh := hh) (bytes := bytes) (maxL := maxL) (ret := ret) hM hp.1 hrc hrs hfr hlo hws hcw (fun a' U hW => word_at hW (Or.inl (by first | rfl | simp [Cond.onTables, Cond.keeps, Cond.steady])) hini)
  obtain ⟨hx, hb, hml, ho, -⟩ := S
  intro T hT X
  rcases vx_callSX X hx (hh := hh) (bytes := bytes) (maxL := maxL) (ret := ret) ho hl hstt hini hcode hy hK hg (hsize.trans hml.symm) (argsL := As) (rest := rest) (fun sig h => hn.trans (hlen sig h)) hstack hW (by rw [hb]; exact hdg)
    (fun vm₁ hW₁ => ⟨hf.1, hf.2, hp.2 (T.setVm vm₁) hT hW₁⟩) with ⟨v, vm₁, ⟨U', l2, c2, s2⟩, hW₁, X', ⟨g', mk, t, L, e1, e2, hq, h1, hL, h2, h3⟩, st⟩ | ⟨q, vm₁, ⟨U', l2, c2, s2⟩, hW₁, X', ⟨g', mk, t, L, E, ce, e1, e2, hq, hce, hcv, hcl, h1, hL, h2, h3⟩, st⟩
  · dsimp only [Pt.U, Pt.locs, Pt.cells, Pt.slots] at X' e1 e2 h1 h2 h3 st
    subst h1; subst h2; subst h3
    exact Or.inl ⟨v, (T.setVm vm₁).calling g' mk As.toArray, t, U', L, hT, X', hL, e1, e2, hq, st⟩
  · dsimp only [Pt.U, Pt.locs, Pt.cells, Pt.slots] at X' e1 e2 h1 h2 h3 st hcl
    subst h1; subst h2; subst h3
    exact Or.inr ⟨q, (T.setVm vm₁).calling g' mk As.toArray, t, U', L, E, ce, hT, X', hL, e1, e2, hq, hce, hcv, vx_cls hW₁ hcl, st⟩
end
end VXH
theorem vx_ofWH {l : Launch} {y : MethodName} {ws ws' : List Cond} {rm : Room} {Pc : Array Value → State → Prop} {Qc : Array Value → State → Outcome → State → Prop} {XC : String → State → State → Prop} {mc ms : Nat} {free : Addr → Prop} {cc : ByteArray} {maxL : Nat} {ret : Option FieldType} {hh : List (Nat × Nat × Nat × Nat)}
    (hy : plainName y.cls = true) (hw : ws = Cond.codeWith y cc maxL ret hh :: ws')
    (body : ∀ p e s m args below meth c s₁, BodyLoose p l y (headSpec ws rm) cc maxL ret e s m args below meth c s₁ → c.maxLocals = maxL → Pc args s →
      W p l e (headSpec ws rm).room s m args below meth c s.heap [] 0 0 (vx_MQ below Qc XC args s mc ms free) (entryFrame m args maxL)) : vx_Met l y ws rm Pc Qc XC mc ms free := by
  refine MetFree.of_bodyS (code := cc) (maxLocals := maxL) (ret := ret) hy ?_ ?_
  · intro args s m h hn
    obtain ⟨m9, meth, c, hn9, h1, h2, h3, h4, -, h5, h6, -⟩ := Cond.codeWith_spec (atoms_spec (ws := ws) h _ (by rw [hw]; exact List.mem_cons_self))
    cases hn.symm.trans hn9
    exact ⟨meth, c, h1, h2, h3, h4, h5, h6⟩
  · intro p e s m args below meth c s₁ B hml hP _
    have hh0 : s₁.heap = s.heap := by rw [B.state]; rfl
    obtain ⟨t, a1, o, b1, b2, b3⟩ := body p e s m args below meth c s₁ B hml hP s₁ hh0 (Stand.of_body B)
    exact ⟨t, o, a1, b1, b2, b3⟩
/-! ===== END ===== -/
end
section
def RX0 : String := "VectorBench$Circuit"
def TX0 : u_T := fun k => match k with
  | 0 => ("VectorBench$Circuit", "kinds", "[I", false)
  | 1 => ("VectorBench$Circuit", "lefts", "[I", false)
  | 2 => ("VectorBench$Circuit", "rights", "[I", false)
  | 3 => ("VectorBench$Circuit", "states", "[I", false)
  | 4 => ("VectorBench$Circuit", "count", "I", false)
  | _ => ("VectorBench$Circuit", "settled", "I", false)
def tyX0 : Nat → FieldType := fun k => match k with
  | 0 => .array .int
  | 1 => .array .int
  | 2 => .array .int
  | 3 => .array .int
  | 4 => .int
  | _ => .int
theorem nmX0 : ∀ a, a < 6 → ∀ b, b < 6 → a ≠ b → (TX0 a).2.1 ≠ (TX0 b).2.1 := by decide +kernel
theorem tyX0_ok : ∀ k, k < 6 → parseFieldDescriptor (TX0 k).2.2.1 = some (tyX0 k) := by decide +kernel
abbrev cX0_init : ByteArray := prog_2_method_1_code
def yX0_init : MethodName := ⟨RX0, "<init>", "()V"⟩
abbrev cX0_source : ByteArray := prog_2_method_2_code
def yX0_source : MethodName := ⟨RX0, "source", "()I"⟩
abbrev cX0_and : ByteArray := prog_2_method_3_code
def yX0_and : MethodName := ⟨RX0, "and", "(II)I"⟩
abbrev cX0_or : ByteArray := prog_2_method_4_code
def yX0_or : MethodName := ⟨RX0, "or", "(II)I"⟩
abbrev cX0_xor : ByteArray := prog_2_method_5_code
def yX0_xor : MethodName := ⟨RX0, "xor", "(II)I"⟩
abbrev cX0_not : ByteArray := prog_2_method_6_code
def yX0_not : MethodName := ⟨RX0, "not", "(I)I"⟩
abbrev cX0_gate : ByteArray := prog_2_method_7_code
def yX0_gate : MethodName := ⟨RX0, "gate", "(III)I"⟩
abbrev cX0_put : ByteArray := prog_2_method_8_code
def yX0_put : MethodName := ⟨RX0, "put", "(II)I"⟩
abbrev cX0_read : ByteArray := prog_2_method_9_code
def yX0_read : MethodName := ⟨RX0, "read", "(I)I"⟩
abbrev cX0_settle : ByteArray := prog_2_method_10_code
def yX0_settle : MethodName := ⟨RX0, "settle", "(I)V"⟩
def RX1 : String := "VectorBench$Reckoner"
def TX1 : u_T := fun k => match k with
  | _ => ("VectorBench$Reckoner", "circuit", "LVectorBench$Circuit;", true)
def tyX1 : Nat → FieldType := fun k => match k with
  | _ => .object "VectorBench$Circuit"
theorem nmX1 : ∀ a, a < 1 → ∀ b, b < 1 → a ≠ b → (TX1 a).2.1 ≠ (TX1 b).2.1 := by decide +kernel
theorem tyX1_ok : ∀ k, k < 1 → parseFieldDescriptor (TX1 k).2.2.1 = some (tyX1 k) := by decide +kernel
abbrev cX1_init : ByteArray := prog_3_method_1_code
def yX1_init : MethodName := ⟨RX1, "<init>", "()V"⟩
abbrev cX1_inverted : ByteArray := prog_3_method_2_code
def yX1_inverted : MethodName := ⟨RX1, "inverted", "([I)[I"⟩
abbrev cX1_negatedIf : ByteArray := prog_3_method_3_code
def yX1_negatedIf : MethodName := ⟨RX1, "negatedIf", "(I[I)[I"⟩
abbrev cX1_joined : ByteArray := prog_3_method_4_code
def yX1_joined : MethodName := ⟨RX1, "joined", "(I[I[I)[I"⟩
abbrev cX1_sum : ByteArray := prog_3_method_5_code
def yX1_sum : MethodName := ⟨RX1, "sum", "([I[II)[I"⟩
abbrev cX1_withoutCarry : ByteArray := prog_3_method_6_code
def yX1_withoutCarry : MethodName := ⟨RX1, "withoutCarry", "([I)[I"⟩
abbrev cX1_picked : ByteArray := prog_3_method_7_code
def yX1_picked : MethodName := ⟨RX1, "picked", "(I[I[I)[I"⟩
abbrev cX1_product : ByteArray := prog_3_method_8_code
def yX1_product : MethodName := ⟨RX1, "product", "([I[I)[I"⟩
abbrev cX1_divided : ByteArray := prog_3_method_9_code
def yX1_divided : MethodName := ⟨RX1, "divided", "([I[IZ)[I"⟩
abbrev cX1_dividedWithSign : ByteArray := prog_3_method_10_code
def yX1_dividedWithSign : MethodName := ⟨RX1, "dividedWithSign", "([I[IZ)[I"⟩
abbrev cX1_shifted : ByteArray := prog_3_method_11_code
def yX1_shifted : MethodName := ⟨RX1, "shifted", "([I[IZI)[I"⟩
abbrev cX1_moved : ByteArray := prog_3_method_12_code
def yX1_moved : MethodName := ⟨RX1, "moved", "([IIZI)[I"⟩
abbrev cX1_same : ByteArray := prog_3_method_13_code
def yX1_same : MethodName := ⟨RX1, "same", "([I[I)I"⟩
abbrev cX1_atLeast : ByteArray := prog_3_method_14_code
def yX1_atLeast : MethodName := ⟨RX1, "atLeast", "([I[I)I"⟩
abbrev cX1_signTurned : ByteArray := prog_3_method_15_code
def yX1_signTurned : MethodName := ⟨RX1, "signTurned", "([I)[I"⟩
def RX2 : String := "VectorBench$Vector"
def TX2 : u_T := fun k => match k with
  | 0 => ("VectorBench$Vector", "bits", "[I", true)
  | _ => ("VectorBench$Vector", "settable", "Z", true)
def tyX2 : Nat → FieldType := fun k => match k with
  | 0 => .array .int
  | _ => .boolean
theorem nmX2 : ∀ a, a < 2 → ∀ b, b < 2 → a ≠ b → (TX2 a).2.1 ≠ (TX2 b).2.1 := by decide +kernel
theorem tyX2_ok : ∀ k, k < 2 → parseFieldDescriptor (TX2 k).2.2.1 = some (tyX2 k) := by decide +kernel
abbrev cX2_init : ByteArray := prog_4_method_1_code
def yX2_init : MethodName := ⟨RX2, "<init>", "([IZ)V"⟩
def RX3 : String := "VectorBench"
def TX3 : u_T := fun k => match k with
  | 0 => ("VectorBench", "reckoner", "LVectorBench$Reckoner;", true)
  | 1 => ("VectorBench", "circuit", "LVectorBench$Circuit;", true)
  | 2 => ("VectorBench", "made", "Ljava/util/ArrayList;", true)
  | _ => ("VectorBench", "weighed", "I", false)
def tyX3 : Nat → FieldType := fun k => match k with
  | 0 => .object "VectorBench$Reckoner"
  | 1 => .object "VectorBench$Circuit"
  | 2 => .object "java/util/ArrayList"
  | _ => .int
theorem nmX3 : ∀ a, a < 4 → ∀ b, b < 4 → a ≠ b → (TX3 a).2.1 ≠ (TX3 b).2.1 := by decide +kernel
theorem tyX3_ok : ∀ k, k < 4 → parseFieldDescriptor (TX3 k).2.2.1 = some (tyX3 k) := by decide +kernel
abbrev cX3_init : ByteArray := prog_1_method_1_code
def yX3_init : MethodName := ⟨RX3, "<init>", "()V"⟩
abbrev cX3_input : ByteArray := prog_1_method_2_code
def yX3_input : MethodName := ⟨RX3, "input", "(I)I"⟩
abbrev cX3_constant : ByteArray := prog_1_method_3_code
def yX3_constant : MethodName := ⟨RX3, "constant", "(IJ)I"⟩
abbrev cX3_one : ByteArray := prog_1_method_4_code
def yX3_one : MethodName := ⟨RX3, "one", "(II)I"⟩
abbrev cX3_two : ByteArray := prog_1_method_5_code
def yX3_two : MethodName := ⟨RX3, "two", "(III)I"⟩
abbrev cX3_compare : ByteArray := prog_1_method_6_code
def yX3_compare : MethodName := ⟨RX3, "compare", "(III)I"⟩
abbrev cX3_choose : ByteArray := prog_1_method_7_code
def yX3_choose : MethodName := ⟨RX3, "choose", "(III)I"⟩
abbrev cX3_concat : ByteArray := prog_1_method_8_code
def yX3_concat : MethodName := ⟨RX3, "concat", "(II)I"⟩
abbrev cX3_extract : ByteArray := prog_1_method_9_code
def yX3_extract : MethodName := ⟨RX3, "extract", "(III)I"⟩
abbrev cX3_extend : ByteArray := prog_1_method_10_code
def yX3_extend : MethodName := ⟨RX3, "extend", "(IIZ)I"⟩
abbrev cX3_set : ByteArray := prog_1_method_11_code
def yX3_set : MethodName := ⟨RX3, "set", "(IJ)J"⟩
abbrev cX3_value : ByteArray := prog_1_method_12_code
def yX3_value : MethodName := ⟨RX3, "value", "(I)J"⟩
abbrev cX3_width : ByteArray := prog_1_method_13_code
def yX3_width : MethodName := ⟨RX3, "width", "(I)I"⟩
abbrev cX3_weight : ByteArray := prog_1_method_14_code
def yX3_weight : MethodName := ⟨RX3, "weight", "()I"⟩
abbrev cX3_vectors : ByteArray := prog_1_method_15_code
def yX3_vectors : MethodName := ⟨RX3, "vectors", "()I"⟩
abbrev cX3_bitOf : ByteArray := prog_1_method_16_code
def yX3_bitOf : MethodName := ⟨RX3, "bitOf", "(JI)I"⟩
abbrev cX3_needWidth : ByteArray := prog_1_method_17_code
def yX3_needWidth : MethodName := ⟨RX3, "needWidth", "(I)V"⟩
abbrev cX3_needKind : ByteArray := prog_1_method_18_code
def yX3_needKind : MethodName := ⟨RX3, "needKind", "(II)V"⟩
abbrev cX3_needSameWidth : ByteArray := prog_1_method_19_code
def yX3_needSameWidth : MethodName := ⟨RX3, "needSameWidth", "([I[I)V"⟩
abbrev cX3_needRoom : ByteArray := prog_1_method_20_code
def yX3_needRoom : MethodName := ⟨RX3, "needRoom", "(I)V"⟩
abbrev cX3_bitsOf : ByteArray := prog_1_method_21_code
def yX3_bitsOf : MethodName := ⟨RX3, "bitsOf", "(I)[I"⟩
abbrev cX3_keep : ByteArray := prog_1_method_22_code
def yX3_keep : MethodName := ⟨RX3, "keep", "(LVectorBench$Vector;I)I"⟩
abbrev cX3_weightOfTwo : ByteArray := prog_1_method_23_code
def yX3_weightOfTwo : MethodName := ⟨RX3, "weightOfTwo", "(II)I"⟩
abbrev cX3_reckonTwo : ByteArray := prog_1_method_24_code
def yX3_reckonTwo : MethodName := ⟨RX3, "reckonTwo", "(I[I[I)[I"⟩
abbrev cX3_reckonComparison : ByteArray := prog_1_method_25_code
def yX3_reckonComparison : MethodName := ⟨RX3, "reckonComparison", "(I[I[I)I"⟩
def RX4 : String := "VectorBenchModel"
def TX4 : u_T := fun k => match k with
  | 0 => ("VectorBenchModel", "code", "I", false)
  | 1 => ("VectorBenchModel", "count", "I", false)
  | 2 => ("VectorBenchModel", "weight", "I", false)
  | 3 => ("VectorBenchModel", "kind", "[B", true)
  | 4 => ("VectorBenchModel", "first", "[I", true)
  | 5 => ("VectorBenchModel", "second", "[I", true)
  | 6 => ("VectorBenchModel", "third", "[I", true)
  | 7 => ("VectorBenchModel", "width", "[I", true)
  | _ => ("VectorBenchModel", "value", "[J", true)
def tyX4 : Nat → FieldType := fun k => match k with
  | 0 => .int
  | 1 => .int
  | 2 => .int
  | 3 => .array .byte
  | 4 => .array .int
  | 5 => .array .int
  | 6 => .array .int
  | 7 => .array .int
  | _ => .array .long
theorem nmX4 : ∀ a, a < 9 → ∀ b, b < 9 → a ≠ b → (TX4 a).2.1 ≠ (TX4 b).2.1 := by decide +kernel
theorem tyX4_ok : ∀ k, k < 9 → parseFieldDescriptor (TX4 k).2.2.1 = some (tyX4 k) := by decide +kernel
abbrev cX4_init : ByteArray := prog_6_method_1_code
def yX4_init : MethodName := ⟨RX4, "<init>", "()V"⟩
abbrev cX4_thrown : ByteArray := prog_6_method_2_code
def yX4_thrown : MethodName := ⟨RX4, "thrown", "()I"⟩
abbrev cX4_is : ByteArray := prog_6_method_3_code
def yX4_is : MethodName := ⟨RX4, "is", "(I)Z"⟩
abbrev cX4_areAlike : ByteArray := prog_6_method_4_code
def yX4_areAlike : MethodName := ⟨RX4, "areAlike", "(II)Z"⟩
abbrev cX4_mask : ByteArray := prog_6_method_5_code
def yX4_mask : MethodName := ⟨RX4, "mask", "(I)J"⟩
abbrev cX4_add : ByteArray := prog_6_method_6_code
def yX4_add : MethodName := ⟨RX4, "add", "(ZIIIIII)I"⟩
abbrev cX4_input : ByteArray := prog_6_method_7_code
def yX4_input : MethodName := ⟨RX4, "input", "(I)I"⟩
abbrev cX4_constant : ByteArray := prog_6_method_8_code
def yX4_constant : MethodName := ⟨RX4, "constant", "(IJ)I"⟩
abbrev cX4_one : ByteArray := prog_6_method_9_code
def yX4_one : MethodName := ⟨RX4, "one", "(II)I"⟩
abbrev cX4_heavy : ByteArray := prog_6_method_10_code
def yX4_heavy : MethodName := ⟨RX4, "heavy", "(II)I"⟩
abbrev cX4_two : ByteArray := prog_6_method_11_code
def yX4_two : MethodName := ⟨RX4, "two", "(III)I"⟩
abbrev cX4_compare : ByteArray := prog_6_method_12_code
def yX4_compare : MethodName := ⟨RX4, "compare", "(III)I"⟩
abbrev cX4_choose : ByteArray := prog_6_method_13_code
def yX4_choose : MethodName := ⟨RX4, "choose", "(III)I"⟩
abbrev cX4_concat : ByteArray := prog_6_method_14_code
def yX4_concat : MethodName := ⟨RX4, "concat", "(II)I"⟩
abbrev cX4_extract : ByteArray := prog_6_method_15_code
def yX4_extract : MethodName := ⟨RX4, "extract", "(III)I"⟩
abbrev cX4_extend : ByteArray := prog_6_method_16_code
def yX4_extend : MethodName := ⟨RX4, "extend", "(IIZ)I"⟩
abbrev cX4_signed : ByteArray := prog_6_method_17_code
def yX4_signed : MethodName := ⟨RX4, "signed", "(JI)J"⟩
abbrev cX4_isBelow : ByteArray := prog_6_method_18_code
def yX4_isBelow : MethodName := ⟨RX4, "isBelow", "(JJ)Z"⟩
abbrev cX4_divide : ByteArray := prog_6_method_19_code
def yX4_divide : MethodName := ⟨RX4, "divide", "(JJZ)J"⟩
abbrev cX4_divided : ByteArray := prog_6_method_20_code
def yX4_divided : MethodName := ⟨RX4, "divided", "(IJJI)J"⟩
abbrev cX4_shifted : ByteArray := prog_6_method_21_code
def yX4_shifted : MethodName := ⟨RX4, "shifted", "(IJJI)J"⟩
abbrev cX4_both : ByteArray := prog_6_method_22_code
def yX4_both : MethodName := ⟨RX4, "both", "(IJJI)J"⟩
abbrev cX4_holds : ByteArray := prog_6_method_23_code
def yX4_holds : MethodName := ⟨RX4, "holds", "(IJJI)Z"⟩
abbrev cX4_reckon : ByteArray := prog_6_method_24_code
def yX4_reckon : MethodName := ⟨RX4, "reckon", "(I)J"⟩
abbrev cX4_reckonAll : ByteArray := prog_6_method_25_code
def yX4_reckonAll : MethodName := ⟨RX4, "reckonAll", "()V"⟩
abbrev cX4_set : ByteArray := prog_6_method_26_code
def yX4_set : MethodName := ⟨RX4, "set", "(IJ)J"⟩
abbrev cX4_value : ByteArray := prog_6_method_27_code
def yX4_value : MethodName := ⟨RX4, "value", "(I)J"⟩
abbrev cX4_width : ByteArray := prog_6_method_28_code
def yX4_width : MethodName := ⟨RX4, "width", "(I)I"⟩
abbrev cX4_weight : ByteArray := prog_6_method_29_code
def yX4_weight : MethodName := ⟨RX4, "weight", "()I"⟩
abbrev cX4_vectors : ByteArray := prog_6_method_30_code
def yX4_vectors : MethodName := ⟨RX4, "vectors", "()I"⟩
def RJ9 : String := "java/lang/Math"
def TJ9 : u_T := fun k => match k with
  | _ => ("", "", "", false)
def tyJ9 : Nat → FieldType := fun k => match k with
  | _ => .int
theorem nmJ9 : ∀ a, a < 0 → ∀ b, b < 0 → a ≠ b → (TJ9 a).2.1 ≠ (TJ9 b).2.1 := by decide +kernel
theorem tyJ9_ok : ∀ k, k < 0 → parseFieldDescriptor (TJ9 k).2.2.1 = some (tyJ9 k) := by decide +kernel
abbrev cJ9_max_7cf53 : ByteArray := prog_15_method_65_code
def yJ9_max_7cf53 : MethodName := ⟨RJ9, "max", "(II)I"⟩
abbrev cJ9_min_7cf53 : ByteArray := prog_15_method_69_code
def yJ9_min_7cf53 : MethodName := ⟨RJ9, "min", "(II)I"⟩
def RJxa1e45 : String := "java/util/AbstractCollection"
def TJxa1e45 : u_T := fun k => match k with
  | _ => ("", "", "", false)
def tyJxa1e45 : Nat → FieldType := fun k => match k with
  | _ => .int
theorem nmJxa1e45 : ∀ a, a < 0 → ∀ b, b < 0 → a ≠ b → (TJxa1e45 a).2.1 ≠ (TJxa1e45 b).2.1 := by decide +kernel
theorem tyJxa1e45_ok : ∀ k, k < 0 → parseFieldDescriptor (TJxa1e45 k).2.2.1 = some (tyJxa1e45 k) := by decide +kernel
abbrev cJxa1e45_init_da8c8 : ByteArray := prog_23_method_1_code
def yJxa1e45_init_da8c8 : MethodName := ⟨RJxa1e45, "<init>", "()V"⟩
def RJxc12de : String := "java/util/AbstractList"
def TJxc12de : u_T := fun k => match k with
  | _ => ("", "", "", false)
def tyJxc12de : Nat → FieldType := fun k => match k with
  | _ => .int
theorem nmJxc12de : ∀ a, a < 0 → ∀ b, b < 0 → a ≠ b → (TJxc12de a).2.1 ≠ (TJxc12de b).2.1 := by decide +kernel
theorem tyJxc12de_ok : ∀ k, k < 0 → parseFieldDescriptor (TJxc12de k).2.2.1 = some (tyJxc12de k) := by decide +kernel
abbrev cJxc12de_init_da8c8 : ByteArray := prog_24_method_1_code
def yJxc12de_init_da8c8 : MethodName := ⟨RJxc12de, "<init>", "()V"⟩
def RJx4a65c : String := "java/util/ArrayList"
def TJx4a65c : u_T := fun k => match k with
  | 0 => ("java/util/AbstractList", "modCount", "I", false)
  | 1 => ("java/util/ArrayList", "elementData", "[Ljava/lang/Object;", false)
  | _ => ("java/util/ArrayList", "size", "I", false)
def tyJx4a65c : Nat → FieldType := fun k => match k with
  | 0 => .int
  | 1 => .array (.object "java/lang/Object")
  | _ => .int
theorem nmJx4a65c : ∀ a, a < 3 → ∀ b, b < 3 → a ≠ b → (TJx4a65c a).2.1 ≠ (TJx4a65c b).2.1 := by decide +kernel
theorem tyJx4a65c_ok : ∀ k, k < 3 → parseFieldDescriptor (TJx4a65c k).2.2.1 = some (tyJx4a65c k) := by decide +kernel
abbrev cJx4a65c_init_da8c8 : ByteArray := prog_25_method_2_code
def yJx4a65c_init_da8c8 : MethodName := ⟨RJx4a65c, "<init>", "()V"⟩
abbrev cJx4a65c_grow_92f84 : ByteArray := prog_25_method_6_code
def yJx4a65c_grow_92f84 : MethodName := ⟨RJx4a65c, "grow", "(I)[Ljava/lang/Object;"⟩
abbrev cJx4a65c_grow_d5877 : ByteArray := prog_25_method_7_code
def yJx4a65c_grow_d5877 : MethodName := ⟨RJx4a65c, "grow", "()[Ljava/lang/Object;"⟩
abbrev cJx4a65c_size_8abf5 : ByteArray := prog_25_method_8_code
def yJx4a65c_size_8abf5 : MethodName := ⟨RJx4a65c, "size", "()I"⟩
abbrev cJx4a65c_elementData_915e3 : ByteArray := prog_25_method_18_code
def yJx4a65c_elementData_915e3 : MethodName := ⟨RJx4a65c, "elementData", "(I)Ljava/lang/Object;"⟩
abbrev cJx4a65c_get_915e3 : ByteArray := prog_25_method_20_code
def yJx4a65c_get_915e3 : MethodName := ⟨RJx4a65c, "get", "(I)Ljava/lang/Object;"⟩
abbrev cJx4a65c_add_72be8 : ByteArray := prog_25_method_24_code
def yJx4a65c_add_72be8 : MethodName := ⟨RJx4a65c, "add", "(Ljava/lang/Object;[Ljava/lang/Object;I)V"⟩
abbrev cJx4a65c_add_9ea2d : ByteArray := prog_25_method_25_code
def yJx4a65c_add_9ea2d : MethodName := ⟨RJx4a65c, "add", "(Ljava/lang/Object;)Z"⟩
def RJ7 : String := "java/util/Arrays"
def TJ7 : u_T := fun k => match k with
  | _ => ("", "", "", false)
def tyJ7 : Nat → FieldType := fun k => match k with
  | _ => .int
theorem nmJ7 : ∀ a, a < 0 → ∀ b, b < 0 → a ≠ b → (TJ7 a).2.1 ≠ (TJ7 b).2.1 := by decide +kernel
theorem tyJ7_ok : ∀ k, k < 0 → parseFieldDescriptor (TJ7 k).2.2.1 = some (tyJ7 k) := by decide +kernel
abbrev cJ7_rangeCheck_23922 : ByteArray := prog_26_method_30_code
def yJ7_rangeCheck_23922 : MethodName := ⟨RJ7, "rangeCheck", "(III)V"⟩
abbrev cJ7_fill_fda19 : ByteArray := prog_26_method_104_code
def yJ7_fill_fda19 : MethodName := ⟨RJ7, "fill", "([IIII)V"⟩
abbrev cJ7_copyOf_1904c : ByteArray := prog_26_method_119_code
def yJ7_copyOf_1904c : MethodName := ⟨RJ7, "copyOf", "([Ljava/lang/Object;I)[Ljava/lang/Object;"⟩
abbrev cJ7_copyOf_6403c : ByteArray := prog_26_method_120_code
def yJ7_copyOf_6403c : MethodName := ⟨RJ7, "copyOf", "([Ljava/lang/Object;ILjava/lang/Class;)[Ljava/lang/Object;"⟩
abbrev cJ7_copyOf_9075b : ByteArray := prog_26_method_121_code
def yJ7_copyOf_9075b : MethodName := ⟨RJ7, "copyOf", "([BI)[B"⟩
abbrev cJ7_copyOf_59c91 : ByteArray := prog_26_method_123_code
def yJ7_copyOf_59c91 : MethodName := ⟨RJ7, "copyOf", "([II)[I"⟩
abbrev cJ7_checkLength_df160 : ByteArray := prog_26_method_131_code
def yJ7_checkLength_df160 : MethodName := ⟨RJ7, "checkLength", "(II)V"⟩
abbrev cJ7_copyOfRange_39247 : ByteArray := prog_26_method_132_code
def yJ7_copyOfRange_39247 : MethodName := ⟨RJ7, "copyOfRange", "([BII)[B"⟩
abbrev cJ7_copyOfRangeByte_39247 : ByteArray := prog_26_method_133_code
def yJ7_copyOfRangeByte_39247 : MethodName := ⟨RJ7, "copyOfRangeByte", "([BII)[B"⟩
abbrev cJ7_copyOfRange_feecc : ByteArray := prog_26_method_136_code
def yJ7_copyOfRange_feecc : MethodName := ⟨RJ7, "copyOfRange", "([III)[I"⟩
abbrev cJ7_copyOfRangeInt_feecc : ByteArray := prog_26_method_137_code
def yJ7_copyOfRangeInt_feecc : MethodName := ⟨RJ7, "copyOfRangeInt", "([III)[I"⟩
def RJ15 : String := "java/util/Objects"
def TJ15 : u_T := fun k => match k with
  | _ => ("", "", "", false)
def tyJ15 : Nat → FieldType := fun k => match k with
  | _ => .int
theorem nmJ15 : ∀ a, a < 0 → ∀ b, b < 0 → a ≠ b → (TJ15 a).2.1 ≠ (TJ15 b).2.1 := by decide +kernel
theorem tyJ15_ok : ∀ k, k < 0 → parseFieldDescriptor (TJ15 k).2.2.1 = some (tyJ15 k) := by decide +kernel
abbrev cJ15_checkIndex_7cf53 : ByteArray := prog_29_method_17_code
def yJ15_checkIndex_7cf53 : MethodName := ⟨RJ15, "checkIndex", "(II)I"⟩
def RJ8 : String := "jdk/internal/util/ArraysSupport"
def TJ8 : u_T := fun k => match k with
  | _ => ("", "", "", false)
def tyJ8 : Nat → FieldType := fun k => match k with
  | _ => .int
theorem nmJ8 : ∀ a, a < 0 → ∀ b, b < 0 → a ≠ b → (TJ8 a).2.1 ≠ (TJ8 b).2.1 := by decide +kernel
theorem tyJ8_ok : ∀ k, k < 0 → parseFieldDescriptor (TJ8 k).2.2.1 = some (tyJ8 k) := by decide +kernel
abbrev cJ8_newLength_cabcc : ByteArray := prog_32_method_27_code
def yJ8_newLength_cabcc : MethodName := ⟨RJ8, "newLength", "(III)I"⟩
abbrev cJ8_hugeLength_7cf53 : ByteArray := prog_32_method_28_code
def yJ8_hugeLength_7cf53 : MethodName := ⟨RJ8, "hugeLength", "(II)I"⟩
def RJ3 : String := "jdk/internal/util/Preconditions"
def TJ3 : u_T := fun k => match k with
  | _ => ("", "", "", false)
def tyJ3 : Nat → FieldType := fun k => match k with
  | _ => .int
theorem nmJ3 : ∀ a, a < 0 → ∀ b, b < 0 → a ≠ b → (TJ3 a).2.1 ≠ (TJ3 b).2.1 := by decide +kernel
theorem tyJ3_ok : ∀ k, k < 0 → parseFieldDescriptor (TJ3 k).2.2.1 = some (tyJ3 k) := by decide +kernel
abbrev cJ3_checkIndex_8e157 : ByteArray := prog_33_method_11_code
def yJ3_checkIndex_8e157 : MethodName := ⟨RJ3, "checkIndex", "(IILjava/util/function/BiFunction;)I"⟩
abbrev cJ3_checkFromToIndex_8c36e : ByteArray := prog_33_method_12_code
def yJ3_checkFromToIndex_8c36e : MethodName := ⟨RJ3, "checkFromToIndex", "(IIILjava/util/function/BiFunction;)I"⟩
abbrev cJ3_checkFromIndexSize_8c36e : ByteArray := prog_33_method_13_code
def yJ3_checkFromIndexSize_8c36e : MethodName := ⟨RJ3, "checkFromIndexSize", "(IIILjava/util/function/BiFunction;)I"⟩
def RL : String := "VectorBenchLaw"
abbrev cL_input : ByteArray := method_3_code
def yL_input : MethodName := ⟨RL, "input", "(LVectorBench;I[J)I"⟩
abbrev cL_constant : ByteArray := method_4_code
def yL_constant : MethodName := ⟨RL, "constant", "(LVectorBench;IJ[J)I"⟩
abbrev cL_one : ByteArray := method_5_code
def yL_one : MethodName := ⟨RL, "one", "(LVectorBench;II[J)I"⟩
abbrev cL_two : ByteArray := method_6_code
def yL_two : MethodName := ⟨RL, "two", "(LVectorBench;III[J)I"⟩
abbrev cL_compare : ByteArray := method_7_code
def yL_compare : MethodName := ⟨RL, "compare", "(LVectorBench;III[J)I"⟩
abbrev cL_choose : ByteArray := method_8_code
def yL_choose : MethodName := ⟨RL, "choose", "(LVectorBench;III[J)I"⟩
abbrev cL_concat : ByteArray := method_9_code
def yL_concat : MethodName := ⟨RL, "concat", "(LVectorBench;II[J)I"⟩
abbrev cL_extract : ByteArray := method_10_code
def yL_extract : MethodName := ⟨RL, "extract", "(LVectorBench;III[J)I"⟩
abbrev cL_extend : ByteArray := method_11_code
def yL_extend : MethodName := ⟨RL, "extend", "(LVectorBench;IIZ[J)I"⟩
abbrev cL_set : ByteArray := method_12_code
def yL_set : MethodName := ⟨RL, "set", "(LVectorBench;IJ[J)I"⟩
abbrev cL_value : ByteArray := method_13_code
def yL_value : MethodName := ⟨RL, "value", "(LVectorBench;I[J)I"⟩
abbrev cL_width : ByteArray := method_14_code
def yL_width : MethodName := ⟨RL, "width", "(LVectorBench;I[J)I"⟩
abbrev cL_law : ByteArray := code
def yL_law : MethodName := ⟨RL, "law", "([I)Z"⟩
end
section
theorem dX0_init_0 : decode cX0_init 0 = .ok (.aload_n 0, 1) := by decide +kernel
theorem dX0_init_1 : decode cX0_init 1 = .ok (.invokespecial 1, 3) := by decide +kernel
theorem dX0_init_4 : decode cX0_init 4 = .ok (.aload_n 0, 1) := by decide +kernel
theorem dX0_init_5 : decode cX0_init 5 = .ok (.bipush 64, 2) := by decide +kernel
theorem dX0_init_7 : decode cX0_init 7 = .ok (.newarray .int, 2) := by decide +kernel
theorem dX0_init_9 : decode cX0_init 9 = .ok (.putfield 9, 3) := by decide +kernel
theorem dX0_init_12 : decode cX0_init 12 = .ok (.aload_n 0, 1) := by decide +kernel
theorem dX0_init_13 : decode cX0_init 13 = .ok (.bipush 64, 2) := by decide +kernel
theorem dX0_init_15 : decode cX0_init 15 = .ok (.newarray .int, 2) := by decide +kernel
theorem dX0_init_17 : decode cX0_init 17 = .ok (.putfield 13, 3) := by decide +kernel
theorem dX0_init_20 : decode cX0_init 20 = .ok (.aload_n 0, 1) := by decide +kernel
theorem dX0_init_21 : decode cX0_init 21 = .ok (.bipush 64, 2) := by decide +kernel
theorem dX0_init_23 : decode cX0_init 23 = .ok (.newarray .int, 2) := by decide +kernel
theorem dX0_init_25 : decode cX0_init 25 = .ok (.putfield 16, 3) := by decide +kernel
theorem dX0_init_28 : decode cX0_init 28 = .ok (.aload_n 0, 1) := by decide +kernel
theorem dX0_init_29 : decode cX0_init 29 = .ok (.bipush 64, 2) := by decide +kernel
theorem dX0_init_31 : decode cX0_init 31 = .ok (.newarray .int, 2) := by decide +kernel
theorem dX0_init_33 : decode cX0_init 33 = .ok (.putfield 19, 3) := by decide +kernel
theorem dX0_init_36 : decode cX0_init 36 = .ok (.aload_n 0, 1) := by decide +kernel
theorem dX0_init_37 : decode cX0_init 37 = .ok (.getfield 19, 3) := by decide +kernel
theorem dX0_init_40 : decode cX0_init 40 = .ok (.iconst 1, 1) := by decide +kernel
theorem dX0_init_41 : decode cX0_init 41 = .ok (.iconst 1, 1) := by decide +kernel
theorem dX0_init_42 : decode cX0_init 42 = .ok (.iastore, 1) := by decide +kernel
theorem dX0_init_43 : decode cX0_init 43 = .ok (.aload_n 0, 1) := by decide +kernel
theorem dX0_init_44 : decode cX0_init 44 = .ok (.iconst 2, 1) := by decide +kernel
theorem dX0_init_45 : decode cX0_init 45 = .ok (.putfield 22, 3) := by decide +kernel
theorem dX0_init_48 : decode cX0_init 48 = .ok (.aload_n 0, 1) := by decide +kernel
theorem dX0_init_49 : decode cX0_init 49 = .ok (.aload_n 0, 1) := by decide +kernel
theorem dX0_init_50 : decode cX0_init 50 = .ok (.getfield 22, 3) := by decide +kernel
theorem dX0_init_53 : decode cX0_init 53 = .ok (.putfield 26, 3) := by decide +kernel
theorem dX0_init_56 : decode cX0_init 56 = .ok (.return_, 1) := by decide +kernel
theorem dX0_source_0 : decode cX0_source 0 = .ok (.aload_n 0, 1) := by decide +kernel
theorem dX0_source_1 : decode cX0_source 1 = .ok (.iconst 0, 1) := by decide +kernel
theorem dX0_source_2 : decode cX0_source 2 = .ok (.iconst 0, 1) := by decide +kernel
theorem dX0_source_3 : decode cX0_source 3 = .ok (.iconst 0, 1) := by decide +kernel
theorem dX0_source_4 : decode cX0_source 4 = .ok (.invokevirtual 29, 3) := by decide +kernel
theorem dX0_source_7 : decode cX0_source 7 = .ok (.ireturn, 1) := by decide +kernel
theorem dX0_and_0 : decode cX0_and 0 = .ok (.aload_n 0, 1) := by decide +kernel
theorem dX0_and_1 : decode cX0_and 1 = .ok (.iconst 1, 1) := by decide +kernel
theorem dX0_and_2 : decode cX0_and 2 = .ok (.iload_n 1, 1) := by decide +kernel
theorem dX0_and_3 : decode cX0_and 3 = .ok (.iload_n 2, 1) := by decide +kernel
theorem dX0_and_4 : decode cX0_and 4 = .ok (.invokevirtual 29, 3) := by decide +kernel
theorem dX0_and_7 : decode cX0_and 7 = .ok (.ireturn, 1) := by decide +kernel
theorem dX0_or_0 : decode cX0_or 0 = .ok (.aload_n 0, 1) := by decide +kernel
theorem dX0_or_1 : decode cX0_or 1 = .ok (.iconst 2, 1) := by decide +kernel
theorem dX0_or_2 : decode cX0_or 2 = .ok (.iload_n 1, 1) := by decide +kernel
theorem dX0_or_3 : decode cX0_or 3 = .ok (.iload_n 2, 1) := by decide +kernel
theorem dX0_or_4 : decode cX0_or 4 = .ok (.invokevirtual 29, 3) := by decide +kernel
theorem dX0_or_7 : decode cX0_or 7 = .ok (.ireturn, 1) := by decide +kernel
theorem dX0_xor_0 : decode cX0_xor 0 = .ok (.aload_n 0, 1) := by decide +kernel
theorem dX0_xor_1 : decode cX0_xor 1 = .ok (.iconst 3, 1) := by decide +kernel
theorem dX0_xor_2 : decode cX0_xor 2 = .ok (.iload_n 1, 1) := by decide +kernel
theorem dX0_xor_3 : decode cX0_xor 3 = .ok (.iload_n 2, 1) := by decide +kernel
theorem dX0_xor_4 : decode cX0_xor 4 = .ok (.invokevirtual 29, 3) := by decide +kernel
theorem dX0_xor_7 : decode cX0_xor 7 = .ok (.ireturn, 1) := by decide +kernel
theorem dX0_not_0 : decode cX0_not 0 = .ok (.aload_n 0, 1) := by decide +kernel
theorem dX0_not_1 : decode cX0_not 1 = .ok (.iconst 3, 1) := by decide +kernel
theorem dX0_not_2 : decode cX0_not 2 = .ok (.iload_n 1, 1) := by decide +kernel
theorem dX0_not_3 : decode cX0_not 3 = .ok (.iconst 1, 1) := by decide +kernel
theorem dX0_not_4 : decode cX0_not 4 = .ok (.invokevirtual 29, 3) := by decide +kernel
theorem dX0_not_7 : decode cX0_not 7 = .ok (.ireturn, 1) := by decide +kernel
theorem dX0_gate_0 : decode cX0_gate 0 = .ok (.aload_n 0, 1) := by decide +kernel
theorem dX0_gate_1 : decode cX0_gate 1 = .ok (.getfield 22, 3) := by decide +kernel
theorem dX0_gate_4 : decode cX0_gate 4 = .ok (.aload_n 0, 1) := by decide +kernel
theorem dX0_gate_5 : decode cX0_gate 5 = .ok (.getfield 9, 3) := by decide +kernel
theorem dX0_gate_8 : decode cX0_gate 8 = .ok (.arraylength, 1) := by decide +kernel
theorem dX0_gate_9 : decode cX0_gate 9 = .ok (.if_icmp .lt 63, 3) := by decide +kernel
theorem dX0_gate_12 : decode cX0_gate 12 = .ok (.iconst 2, 1) := by decide +kernel
theorem dX0_gate_13 : decode cX0_gate 13 = .ok (.aload_n 0, 1) := by decide +kernel
theorem dX0_gate_14 : decode cX0_gate 14 = .ok (.getfield 22, 3) := by decide +kernel
theorem dX0_gate_17 : decode cX0_gate 17 = .ok (.imul, 1) := by decide +kernel
theorem dX0_gate_18 : decode cX0_gate 18 = .ok (.istore 4, 2) := by decide +kernel
theorem dX0_gate_20 : decode cX0_gate 20 = .ok (.aload_n 0, 1) := by decide +kernel
theorem dX0_gate_21 : decode cX0_gate 21 = .ok (.aload_n 0, 1) := by decide +kernel
theorem dX0_gate_22 : decode cX0_gate 22 = .ok (.getfield 9, 3) := by decide +kernel
theorem dX0_gate_25 : decode cX0_gate 25 = .ok (.iload 4, 2) := by decide +kernel
theorem dX0_gate_27 : decode cX0_gate 27 = .ok (.invokestatic 33, 3) := by decide +kernel
theorem dX0_gate_30 : decode cX0_gate 30 = .ok (.putfield 9, 3) := by decide +kernel
theorem dX0_gate_33 : decode cX0_gate 33 = .ok (.aload_n 0, 1) := by decide +kernel
theorem dX0_gate_34 : decode cX0_gate 34 = .ok (.aload_n 0, 1) := by decide +kernel
theorem dX0_gate_35 : decode cX0_gate 35 = .ok (.getfield 13, 3) := by decide +kernel
theorem dX0_gate_38 : decode cX0_gate 38 = .ok (.iload 4, 2) := by decide +kernel
theorem dX0_gate_40 : decode cX0_gate 40 = .ok (.invokestatic 33, 3) := by decide +kernel
theorem dX0_gate_43 : decode cX0_gate 43 = .ok (.putfield 13, 3) := by decide +kernel
theorem dX0_gate_46 : decode cX0_gate 46 = .ok (.aload_n 0, 1) := by decide +kernel
theorem dX0_gate_47 : decode cX0_gate 47 = .ok (.aload_n 0, 1) := by decide +kernel
theorem dX0_gate_48 : decode cX0_gate 48 = .ok (.getfield 16, 3) := by decide +kernel
theorem dX0_gate_51 : decode cX0_gate 51 = .ok (.iload 4, 2) := by decide +kernel
theorem dX0_gate_53 : decode cX0_gate 53 = .ok (.invokestatic 33, 3) := by decide +kernel
theorem dX0_gate_56 : decode cX0_gate 56 = .ok (.putfield 16, 3) := by decide +kernel
theorem dX0_gate_59 : decode cX0_gate 59 = .ok (.aload_n 0, 1) := by decide +kernel
theorem dX0_gate_60 : decode cX0_gate 60 = .ok (.aload_n 0, 1) := by decide +kernel
theorem dX0_gate_61 : decode cX0_gate 61 = .ok (.getfield 19, 3) := by decide +kernel
theorem dX0_gate_64 : decode cX0_gate 64 = .ok (.iload 4, 2) := by decide +kernel
theorem dX0_gate_66 : decode cX0_gate 66 = .ok (.invokestatic 33, 3) := by decide +kernel
theorem dX0_gate_69 : decode cX0_gate 69 = .ok (.putfield 19, 3) := by decide +kernel
theorem dX0_gate_72 : decode cX0_gate 72 = .ok (.aload_n 0, 1) := by decide +kernel
theorem dX0_gate_73 : decode cX0_gate 73 = .ok (.getfield 9, 3) := by decide +kernel
theorem dX0_gate_76 : decode cX0_gate 76 = .ok (.aload_n 0, 1) := by decide +kernel
theorem dX0_gate_77 : decode cX0_gate 77 = .ok (.getfield 22, 3) := by decide +kernel
theorem dX0_gate_80 : decode cX0_gate 80 = .ok (.iload_n 1, 1) := by decide +kernel
theorem dX0_gate_81 : decode cX0_gate 81 = .ok (.iastore, 1) := by decide +kernel
theorem dX0_gate_82 : decode cX0_gate 82 = .ok (.aload_n 0, 1) := by decide +kernel
theorem dX0_gate_83 : decode cX0_gate 83 = .ok (.getfield 13, 3) := by decide +kernel
theorem dX0_gate_86 : decode cX0_gate 86 = .ok (.aload_n 0, 1) := by decide +kernel
theorem dX0_gate_87 : decode cX0_gate 87 = .ok (.getfield 22, 3) := by decide +kernel
theorem dX0_gate_90 : decode cX0_gate 90 = .ok (.iload_n 2, 1) := by decide +kernel
theorem dX0_gate_91 : decode cX0_gate 91 = .ok (.iastore, 1) := by decide +kernel
theorem dX0_gate_92 : decode cX0_gate 92 = .ok (.aload_n 0, 1) := by decide +kernel
theorem dX0_gate_93 : decode cX0_gate 93 = .ok (.getfield 16, 3) := by decide +kernel
theorem dX0_gate_96 : decode cX0_gate 96 = .ok (.aload_n 0, 1) := by decide +kernel
theorem dX0_gate_97 : decode cX0_gate 97 = .ok (.getfield 22, 3) := by decide +kernel
theorem dX0_gate_100 : decode cX0_gate 100 = .ok (.iload_n 3, 1) := by decide +kernel
theorem dX0_gate_101 : decode cX0_gate 101 = .ok (.iastore, 1) := by decide +kernel
theorem dX0_gate_102 : decode cX0_gate 102 = .ok (.aload_n 0, 1) := by decide +kernel
theorem dX0_gate_103 : decode cX0_gate 103 = .ok (.dup, 1) := by decide +kernel
theorem dX0_gate_104 : decode cX0_gate 104 = .ok (.getfield 22, 3) := by decide +kernel
theorem dX0_gate_107 : decode cX0_gate 107 = .ok (.iconst 1, 1) := by decide +kernel
theorem dX0_gate_108 : decode cX0_gate 108 = .ok (.iadd, 1) := by decide +kernel
theorem dX0_gate_109 : decode cX0_gate 109 = .ok (.putfield 22, 3) := by decide +kernel
theorem dX0_gate_112 : decode cX0_gate 112 = .ok (.aload_n 0, 1) := by decide +kernel
theorem dX0_gate_113 : decode cX0_gate 113 = .ok (.getfield 22, 3) := by decide +kernel
theorem dX0_gate_116 : decode cX0_gate 116 = .ok (.iconst 1, 1) := by decide +kernel
theorem dX0_gate_117 : decode cX0_gate 117 = .ok (.isub, 1) := by decide +kernel
theorem dX0_gate_118 : decode cX0_gate 118 = .ok (.ireturn, 1) := by decide +kernel
theorem dX0_put_0 : decode cX0_put 0 = .ok (.aload_n 0, 1) := by decide +kernel
theorem dX0_put_1 : decode cX0_put 1 = .ok (.getfield 19, 3) := by decide +kernel
theorem dX0_put_4 : decode cX0_put 4 = .ok (.iload_n 1, 1) := by decide +kernel
theorem dX0_put_5 : decode cX0_put 5 = .ok (.iaload, 1) := by decide +kernel
theorem dX0_put_6 : decode cX0_put 6 = .ok (.istore_n 3, 1) := by decide +kernel
theorem dX0_put_7 : decode cX0_put 7 = .ok (.iload_n 3, 1) := by decide +kernel
theorem dX0_put_8 : decode cX0_put 8 = .ok (.iload_n 2, 1) := by decide +kernel
theorem dX0_put_9 : decode cX0_put 9 = .ok (.if_icmp .eq 24, 3) := by decide +kernel
theorem dX0_put_12 : decode cX0_put 12 = .ok (.aload_n 0, 1) := by decide +kernel
theorem dX0_put_13 : decode cX0_put 13 = .ok (.getfield 19, 3) := by decide +kernel
theorem dX0_put_16 : decode cX0_put 16 = .ok (.iload_n 1, 1) := by decide +kernel
theorem dX0_put_17 : decode cX0_put 17 = .ok (.iload_n 2, 1) := by decide +kernel
theorem dX0_put_18 : decode cX0_put 18 = .ok (.iastore, 1) := by decide +kernel
theorem dX0_put_19 : decode cX0_put 19 = .ok (.aload_n 0, 1) := by decide +kernel
theorem dX0_put_20 : decode cX0_put 20 = .ok (.aload_n 0, 1) := by decide +kernel
theorem dX0_put_21 : decode cX0_put 21 = .ok (.getfield 26, 3) := by decide +kernel
theorem dX0_put_24 : decode cX0_put 24 = .ok (.iload_n 1, 1) := by decide +kernel
theorem dX0_put_25 : decode cX0_put 25 = .ok (.iconst 1, 1) := by decide +kernel
theorem dX0_put_26 : decode cX0_put 26 = .ok (.iadd, 1) := by decide +kernel
theorem dX0_put_27 : decode cX0_put 27 = .ok (.invokestatic 39, 3) := by decide +kernel
theorem dX0_put_30 : decode cX0_put 30 = .ok (.putfield 26, 3) := by decide +kernel
theorem dX0_put_33 : decode cX0_put 33 = .ok (.iload_n 3, 1) := by decide +kernel
theorem dX0_put_34 : decode cX0_put 34 = .ok (.ireturn, 1) := by decide +kernel
theorem dX0_read_0 : decode cX0_read 0 = .ok (.aload_n 0, 1) := by decide +kernel
theorem dX0_read_1 : decode cX0_read 1 = .ok (.getfield 26, 3) := by decide +kernel
theorem dX0_read_4 : decode cX0_read 4 = .ok (.istore_n 2, 1) := by decide +kernel
theorem dX0_read_5 : decode cX0_read 5 = .ok (.iload_n 2, 1) := by decide +kernel
theorem dX0_read_6 : decode cX0_read 6 = .ok (.iload_n 1, 1) := by decide +kernel
theorem dX0_read_7 : decode cX0_read 7 = .ok (.if_icmp .gt 14, 3) := by decide +kernel
theorem dX0_read_10 : decode cX0_read 10 = .ok (.aload_n 0, 1) := by decide +kernel
theorem dX0_read_11 : decode cX0_read 11 = .ok (.iload_n 2, 1) := by decide +kernel
theorem dX0_read_12 : decode cX0_read 12 = .ok (.invokevirtual 45, 3) := by decide +kernel
theorem dX0_read_15 : decode cX0_read 15 = .ok (.iinc 2 1, 3) := by decide +kernel
theorem dX0_read_18 : decode cX0_read 18 = .ok (.goto (-13), 3) := by decide +kernel
theorem dX0_read_21 : decode cX0_read 21 = .ok (.aload_n 0, 1) := by decide +kernel
theorem dX0_read_22 : decode cX0_read 22 = .ok (.aload_n 0, 1) := by decide +kernel
theorem dX0_read_23 : decode cX0_read 23 = .ok (.getfield 26, 3) := by decide +kernel
theorem dX0_read_26 : decode cX0_read 26 = .ok (.iload_n 1, 1) := by decide +kernel
theorem dX0_read_27 : decode cX0_read 27 = .ok (.iconst 1, 1) := by decide +kernel
theorem dX0_read_28 : decode cX0_read 28 = .ok (.iadd, 1) := by decide +kernel
theorem dX0_read_29 : decode cX0_read 29 = .ok (.invokestatic 49, 3) := by decide +kernel
theorem dX0_read_32 : decode cX0_read 32 = .ok (.putfield 26, 3) := by decide +kernel
theorem dX0_read_35 : decode cX0_read 35 = .ok (.aload_n 0, 1) := by decide +kernel
theorem dX0_read_36 : decode cX0_read 36 = .ok (.getfield 19, 3) := by decide +kernel
theorem dX0_read_39 : decode cX0_read 39 = .ok (.iload_n 1, 1) := by decide +kernel
theorem dX0_read_40 : decode cX0_read 40 = .ok (.iaload, 1) := by decide +kernel
theorem dX0_read_41 : decode cX0_read 41 = .ok (.ireturn, 1) := by decide +kernel
theorem dX0_settle_0 : decode cX0_settle 0 = .ok (.aload_n 0, 1) := by decide +kernel
theorem dX0_settle_1 : decode cX0_settle 1 = .ok (.getfield 19, 3) := by decide +kernel
theorem dX0_settle_4 : decode cX0_settle 4 = .ok (.aload_n 0, 1) := by decide +kernel
theorem dX0_settle_5 : decode cX0_settle 5 = .ok (.getfield 13, 3) := by decide +kernel
theorem dX0_settle_8 : decode cX0_settle 8 = .ok (.iload_n 1, 1) := by decide +kernel
theorem dX0_settle_9 : decode cX0_settle 9 = .ok (.iaload, 1) := by decide +kernel
theorem dX0_settle_10 : decode cX0_settle 10 = .ok (.iaload, 1) := by decide +kernel
theorem dX0_settle_11 : decode cX0_settle 11 = .ok (.istore_n 2, 1) := by decide +kernel
theorem dX0_settle_12 : decode cX0_settle 12 = .ok (.aload_n 0, 1) := by decide +kernel
theorem dX0_settle_13 : decode cX0_settle 13 = .ok (.getfield 19, 3) := by decide +kernel
theorem dX0_settle_16 : decode cX0_settle 16 = .ok (.aload_n 0, 1) := by decide +kernel
theorem dX0_settle_17 : decode cX0_settle 17 = .ok (.getfield 16, 3) := by decide +kernel
theorem dX0_settle_20 : decode cX0_settle 20 = .ok (.iload_n 1, 1) := by decide +kernel
theorem dX0_settle_21 : decode cX0_settle 21 = .ok (.iaload, 1) := by decide +kernel
theorem dX0_settle_22 : decode cX0_settle 22 = .ok (.iaload, 1) := by decide +kernel
theorem dX0_settle_23 : decode cX0_settle 23 = .ok (.istore_n 3, 1) := by decide +kernel
theorem dX0_settle_24 : decode cX0_settle 24 = .ok (.aload_n 0, 1) := by decide +kernel
theorem dX0_settle_25 : decode cX0_settle 25 = .ok (.getfield 9, 3) := by decide +kernel
theorem dX0_settle_28 : decode cX0_settle 28 = .ok (.iload_n 1, 1) := by decide +kernel
theorem dX0_settle_29 : decode cX0_settle 29 = .ok (.iaload, 1) := by decide +kernel
theorem dX0_settle_30 : decode cX0_settle 30 = .ok (.tableswitch 62 1 3 #[26, 38, 50], 26) := by decide +kernel
theorem dX0_settle_56 : decode cX0_settle 56 = .ok (.aload_n 0, 1) := by decide +kernel
theorem dX0_settle_57 : decode cX0_settle 57 = .ok (.getfield 19, 3) := by decide +kernel
theorem dX0_settle_60 : decode cX0_settle 60 = .ok (.iload_n 1, 1) := by decide +kernel
theorem dX0_settle_61 : decode cX0_settle 61 = .ok (.iload_n 2, 1) := by decide +kernel
theorem dX0_settle_62 : decode cX0_settle 62 = .ok (.iload_n 3, 1) := by decide +kernel
theorem dX0_settle_63 : decode cX0_settle 63 = .ok (.iand, 1) := by decide +kernel
theorem dX0_settle_64 : decode cX0_settle 64 = .ok (.iastore, 1) := by decide +kernel
theorem dX0_settle_65 : decode cX0_settle 65 = .ok (.goto 27, 3) := by decide +kernel
theorem dX0_settle_68 : decode cX0_settle 68 = .ok (.aload_n 0, 1) := by decide +kernel
theorem dX0_settle_69 : decode cX0_settle 69 = .ok (.getfield 19, 3) := by decide +kernel
theorem dX0_settle_72 : decode cX0_settle 72 = .ok (.iload_n 1, 1) := by decide +kernel
theorem dX0_settle_73 : decode cX0_settle 73 = .ok (.iload_n 2, 1) := by decide +kernel
theorem dX0_settle_74 : decode cX0_settle 74 = .ok (.iload_n 3, 1) := by decide +kernel
theorem dX0_settle_75 : decode cX0_settle 75 = .ok (.ior, 1) := by decide +kernel
theorem dX0_settle_76 : decode cX0_settle 76 = .ok (.iastore, 1) := by decide +kernel
theorem dX0_settle_77 : decode cX0_settle 77 = .ok (.goto 15, 3) := by decide +kernel
theorem dX0_settle_80 : decode cX0_settle 80 = .ok (.aload_n 0, 1) := by decide +kernel
theorem dX0_settle_81 : decode cX0_settle 81 = .ok (.getfield 19, 3) := by decide +kernel
theorem dX0_settle_84 : decode cX0_settle 84 = .ok (.iload_n 1, 1) := by decide +kernel
theorem dX0_settle_85 : decode cX0_settle 85 = .ok (.iload_n 2, 1) := by decide +kernel
theorem dX0_settle_86 : decode cX0_settle 86 = .ok (.iload_n 3, 1) := by decide +kernel
theorem dX0_settle_87 : decode cX0_settle 87 = .ok (.ixor, 1) := by decide +kernel
theorem dX0_settle_88 : decode cX0_settle 88 = .ok (.iastore, 1) := by decide +kernel
theorem dX0_settle_89 : decode cX0_settle 89 = .ok (.goto 3, 3) := by decide +kernel
theorem dX0_settle_92 : decode cX0_settle 92 = .ok (.return_, 1) := by decide +kernel
theorem dX1_init_0 : decode cX1_init 0 = .ok (.aload_n 0, 1) := by decide +kernel
theorem dX1_init_1 : decode cX1_init 1 = .ok (.invokespecial 1, 3) := by decide +kernel
theorem dX1_init_4 : decode cX1_init 4 = .ok (.aload_n 0, 1) := by decide +kernel
theorem dX1_init_5 : decode cX1_init 5 = .ok (.new 7, 3) := by decide +kernel
theorem dX1_init_8 : decode cX1_init 8 = .ok (.dup, 1) := by decide +kernel
theorem dX1_init_9 : decode cX1_init 9 = .ok (.invokespecial 9, 3) := by decide +kernel
theorem dX1_init_12 : decode cX1_init 12 = .ok (.putfield 10, 3) := by decide +kernel
theorem dX1_init_15 : decode cX1_init 15 = .ok (.return_, 1) := by decide +kernel
theorem dX1_inverted_0 : decode cX1_inverted 0 = .ok (.aload_n 1, 1) := by decide +kernel
theorem dX1_inverted_1 : decode cX1_inverted 1 = .ok (.arraylength, 1) := by decide +kernel
theorem dX1_inverted_2 : decode cX1_inverted 2 = .ok (.newarray .int, 2) := by decide +kernel
theorem dX1_inverted_4 : decode cX1_inverted 4 = .ok (.astore_n 2, 1) := by decide +kernel
theorem dX1_inverted_5 : decode cX1_inverted 5 = .ok (.iconst 0, 1) := by decide +kernel
theorem dX1_inverted_6 : decode cX1_inverted 6 = .ok (.istore_n 3, 1) := by decide +kernel
theorem dX1_inverted_7 : decode cX1_inverted 7 = .ok (.iload_n 3, 1) := by decide +kernel
theorem dX1_inverted_8 : decode cX1_inverted 8 = .ok (.aload_n 1, 1) := by decide +kernel
theorem dX1_inverted_9 : decode cX1_inverted 9 = .ok (.arraylength, 1) := by decide +kernel
theorem dX1_inverted_10 : decode cX1_inverted 10 = .ok (.if_icmp .ge 22, 3) := by decide +kernel
theorem dX1_inverted_13 : decode cX1_inverted 13 = .ok (.aload_n 2, 1) := by decide +kernel
theorem dX1_inverted_14 : decode cX1_inverted 14 = .ok (.iload_n 3, 1) := by decide +kernel
theorem dX1_inverted_15 : decode cX1_inverted 15 = .ok (.aload_n 0, 1) := by decide +kernel
theorem dX1_inverted_16 : decode cX1_inverted 16 = .ok (.getfield 10, 3) := by decide +kernel
theorem dX1_inverted_19 : decode cX1_inverted 19 = .ok (.aload_n 1, 1) := by decide +kernel
theorem dX1_inverted_20 : decode cX1_inverted 20 = .ok (.iload_n 3, 1) := by decide +kernel
theorem dX1_inverted_21 : decode cX1_inverted 21 = .ok (.iaload, 1) := by decide +kernel
theorem dX1_inverted_22 : decode cX1_inverted 22 = .ok (.invokevirtual 16, 3) := by decide +kernel
theorem dX1_inverted_25 : decode cX1_inverted 25 = .ok (.iastore, 1) := by decide +kernel
theorem dX1_inverted_26 : decode cX1_inverted 26 = .ok (.iinc 3 1, 3) := by decide +kernel
theorem dX1_inverted_29 : decode cX1_inverted 29 = .ok (.goto (-22), 3) := by decide +kernel
theorem dX1_inverted_32 : decode cX1_inverted 32 = .ok (.aload_n 2, 1) := by decide +kernel
theorem dX1_inverted_33 : decode cX1_inverted 33 = .ok (.areturn, 1) := by decide +kernel
theorem dX1_negatedIf_0 : decode cX1_negatedIf 0 = .ok (.aload_n 2, 1) := by decide +kernel
theorem dX1_negatedIf_1 : decode cX1_negatedIf 1 = .ok (.arraylength, 1) := by decide +kernel
theorem dX1_negatedIf_2 : decode cX1_negatedIf 2 = .ok (.newarray .int, 2) := by decide +kernel
theorem dX1_negatedIf_4 : decode cX1_negatedIf 4 = .ok (.astore_n 3, 1) := by decide +kernel
theorem dX1_negatedIf_5 : decode cX1_negatedIf 5 = .ok (.iconst 0, 1) := by decide +kernel
theorem dX1_negatedIf_6 : decode cX1_negatedIf 6 = .ok (.istore 4, 2) := by decide +kernel
theorem dX1_negatedIf_8 : decode cX1_negatedIf 8 = .ok (.iload 4, 2) := by decide +kernel
theorem dX1_negatedIf_10 : decode cX1_negatedIf 10 = .ok (.aload_n 2, 1) := by decide +kernel
theorem dX1_negatedIf_11 : decode cX1_negatedIf 11 = .ok (.arraylength, 1) := by decide +kernel
theorem dX1_negatedIf_12 : decode cX1_negatedIf 12 = .ok (.if_icmp .ge 25, 3) := by decide +kernel
theorem dX1_negatedIf_15 : decode cX1_negatedIf 15 = .ok (.aload_n 3, 1) := by decide +kernel
theorem dX1_negatedIf_16 : decode cX1_negatedIf 16 = .ok (.iload 4, 2) := by decide +kernel
theorem dX1_negatedIf_18 : decode cX1_negatedIf 18 = .ok (.aload_n 0, 1) := by decide +kernel
theorem dX1_negatedIf_19 : decode cX1_negatedIf 19 = .ok (.getfield 10, 3) := by decide +kernel
theorem dX1_negatedIf_22 : decode cX1_negatedIf 22 = .ok (.aload_n 2, 1) := by decide +kernel
theorem dX1_negatedIf_23 : decode cX1_negatedIf 23 = .ok (.iload 4, 2) := by decide +kernel
theorem dX1_negatedIf_25 : decode cX1_negatedIf 25 = .ok (.iaload, 1) := by decide +kernel
theorem dX1_negatedIf_26 : decode cX1_negatedIf 26 = .ok (.iload_n 1, 1) := by decide +kernel
theorem dX1_negatedIf_27 : decode cX1_negatedIf 27 = .ok (.invokevirtual 20, 3) := by decide +kernel
theorem dX1_negatedIf_30 : decode cX1_negatedIf 30 = .ok (.iastore, 1) := by decide +kernel
theorem dX1_negatedIf_31 : decode cX1_negatedIf 31 = .ok (.iinc 4 1, 3) := by decide +kernel
theorem dX1_negatedIf_34 : decode cX1_negatedIf 34 = .ok (.goto (-26), 3) := by decide +kernel
theorem dX1_negatedIf_37 : decode cX1_negatedIf 37 = .ok (.aload_n 0, 1) := by decide +kernel
theorem dX1_negatedIf_38 : decode cX1_negatedIf 38 = .ok (.aload_n 3, 1) := by decide +kernel
theorem dX1_negatedIf_39 : decode cX1_negatedIf 39 = .ok (.aload_n 2, 1) := by decide +kernel
theorem dX1_negatedIf_40 : decode cX1_negatedIf 40 = .ok (.arraylength, 1) := by decide +kernel
theorem dX1_negatedIf_41 : decode cX1_negatedIf 41 = .ok (.newarray .int, 2) := by decide +kernel
theorem dX1_negatedIf_43 : decode cX1_negatedIf 43 = .ok (.iload_n 1, 1) := by decide +kernel
theorem dX1_negatedIf_44 : decode cX1_negatedIf 44 = .ok (.invokevirtual 24, 3) := by decide +kernel
theorem dX1_negatedIf_47 : decode cX1_negatedIf 47 = .ok (.invokestatic 28, 3) := by decide +kernel
theorem dX1_negatedIf_50 : decode cX1_negatedIf 50 = .ok (.areturn, 1) := by decide +kernel
theorem dX1_joined_0 : decode cX1_joined 0 = .ok (.aload_n 2, 1) := by decide +kernel
theorem dX1_joined_1 : decode cX1_joined 1 = .ok (.arraylength, 1) := by decide +kernel
theorem dX1_joined_2 : decode cX1_joined 2 = .ok (.newarray .int, 2) := by decide +kernel
theorem dX1_joined_4 : decode cX1_joined 4 = .ok (.astore 4, 2) := by decide +kernel
theorem dX1_joined_6 : decode cX1_joined 6 = .ok (.iconst 0, 1) := by decide +kernel
theorem dX1_joined_7 : decode cX1_joined 7 = .ok (.istore 5, 2) := by decide +kernel
theorem dX1_joined_9 : decode cX1_joined 9 = .ok (.iload 5, 2) := by decide +kernel
theorem dX1_joined_11 : decode cX1_joined 11 = .ok (.aload_n 2, 1) := by decide +kernel
theorem dX1_joined_12 : decode cX1_joined 12 = .ok (.arraylength, 1) := by decide +kernel
theorem dX1_joined_13 : decode cX1_joined 13 = .ok (.if_icmp .ge 30, 3) := by decide +kernel
theorem dX1_joined_16 : decode cX1_joined 16 = .ok (.aload 4, 2) := by decide +kernel
theorem dX1_joined_18 : decode cX1_joined 18 = .ok (.iload 5, 2) := by decide +kernel
theorem dX1_joined_20 : decode cX1_joined 20 = .ok (.aload_n 0, 1) := by decide +kernel
theorem dX1_joined_21 : decode cX1_joined 21 = .ok (.getfield 10, 3) := by decide +kernel
theorem dX1_joined_24 : decode cX1_joined 24 = .ok (.iload_n 1, 1) := by decide +kernel
theorem dX1_joined_25 : decode cX1_joined 25 = .ok (.aload_n 2, 1) := by decide +kernel
theorem dX1_joined_26 : decode cX1_joined 26 = .ok (.iload 5, 2) := by decide +kernel
theorem dX1_joined_28 : decode cX1_joined 28 = .ok (.iaload, 1) := by decide +kernel
theorem dX1_joined_29 : decode cX1_joined 29 = .ok (.aload_n 3, 1) := by decide +kernel
theorem dX1_joined_30 : decode cX1_joined 30 = .ok (.iload 5, 2) := by decide +kernel
theorem dX1_joined_32 : decode cX1_joined 32 = .ok (.iaload, 1) := by decide +kernel
theorem dX1_joined_33 : decode cX1_joined 33 = .ok (.invokevirtual 32, 3) := by decide +kernel
theorem dX1_joined_36 : decode cX1_joined 36 = .ok (.iastore, 1) := by decide +kernel
theorem dX1_joined_37 : decode cX1_joined 37 = .ok (.iinc 5 1, 3) := by decide +kernel
theorem dX1_joined_40 : decode cX1_joined 40 = .ok (.goto (-31), 3) := by decide +kernel
theorem dX1_joined_43 : decode cX1_joined 43 = .ok (.aload 4, 2) := by decide +kernel
theorem dX1_joined_45 : decode cX1_joined 45 = .ok (.areturn, 1) := by decide +kernel
theorem dX1_sum_0 : decode cX1_sum 0 = .ok (.aload_n 1, 1) := by decide +kernel
theorem dX1_sum_1 : decode cX1_sum 1 = .ok (.arraylength, 1) := by decide +kernel
theorem dX1_sum_2 : decode cX1_sum 2 = .ok (.iconst 1, 1) := by decide +kernel
theorem dX1_sum_3 : decode cX1_sum 3 = .ok (.iadd, 1) := by decide +kernel
theorem dX1_sum_4 : decode cX1_sum 4 = .ok (.newarray .int, 2) := by decide +kernel
theorem dX1_sum_6 : decode cX1_sum 6 = .ok (.astore 4, 2) := by decide +kernel
theorem dX1_sum_8 : decode cX1_sum 8 = .ok (.iload_n 3, 1) := by decide +kernel
theorem dX1_sum_9 : decode cX1_sum 9 = .ok (.istore 5, 2) := by decide +kernel
theorem dX1_sum_11 : decode cX1_sum 11 = .ok (.iconst 0, 1) := by decide +kernel
theorem dX1_sum_12 : decode cX1_sum 12 = .ok (.istore 6, 2) := by decide +kernel
theorem dX1_sum_14 : decode cX1_sum 14 = .ok (.iload 6, 2) := by decide +kernel
theorem dX1_sum_16 : decode cX1_sum 16 = .ok (.aload_n 1, 1) := by decide +kernel
theorem dX1_sum_17 : decode cX1_sum 17 = .ok (.arraylength, 1) := by decide +kernel
theorem dX1_sum_18 : decode cX1_sum 18 = .ok (.if_icmp .ge 77, 3) := by decide +kernel
theorem dX1_sum_21 : decode cX1_sum 21 = .ok (.aload_n 0, 1) := by decide +kernel
theorem dX1_sum_22 : decode cX1_sum 22 = .ok (.getfield 10, 3) := by decide +kernel
theorem dX1_sum_25 : decode cX1_sum 25 = .ok (.aload_n 1, 1) := by decide +kernel
theorem dX1_sum_26 : decode cX1_sum 26 = .ok (.iload 6, 2) := by decide +kernel
theorem dX1_sum_28 : decode cX1_sum 28 = .ok (.iaload, 1) := by decide +kernel
theorem dX1_sum_29 : decode cX1_sum 29 = .ok (.aload_n 2, 1) := by decide +kernel
theorem dX1_sum_30 : decode cX1_sum 30 = .ok (.iload 6, 2) := by decide +kernel
theorem dX1_sum_32 : decode cX1_sum 32 = .ok (.iaload, 1) := by decide +kernel
theorem dX1_sum_33 : decode cX1_sum 33 = .ok (.invokevirtual 20, 3) := by decide +kernel
theorem dX1_sum_36 : decode cX1_sum 36 = .ok (.istore 7, 2) := by decide +kernel
theorem dX1_sum_38 : decode cX1_sum 38 = .ok (.aload 4, 2) := by decide +kernel
theorem dX1_sum_40 : decode cX1_sum 40 = .ok (.iload 6, 2) := by decide +kernel
theorem dX1_sum_42 : decode cX1_sum 42 = .ok (.aload_n 0, 1) := by decide +kernel
theorem dX1_sum_43 : decode cX1_sum 43 = .ok (.getfield 10, 3) := by decide +kernel
theorem dX1_sum_46 : decode cX1_sum 46 = .ok (.iload 7, 2) := by decide +kernel
theorem dX1_sum_48 : decode cX1_sum 48 = .ok (.iload 5, 2) := by decide +kernel
theorem dX1_sum_50 : decode cX1_sum 50 = .ok (.invokevirtual 20, 3) := by decide +kernel
theorem dX1_sum_53 : decode cX1_sum 53 = .ok (.iastore, 1) := by decide +kernel
theorem dX1_sum_54 : decode cX1_sum 54 = .ok (.aload_n 0, 1) := by decide +kernel
theorem dX1_sum_55 : decode cX1_sum 55 = .ok (.getfield 10, 3) := by decide +kernel
theorem dX1_sum_58 : decode cX1_sum 58 = .ok (.aload_n 0, 1) := by decide +kernel
theorem dX1_sum_59 : decode cX1_sum 59 = .ok (.getfield 10, 3) := by decide +kernel
theorem dX1_sum_62 : decode cX1_sum 62 = .ok (.aload_n 1, 1) := by decide +kernel
theorem dX1_sum_63 : decode cX1_sum 63 = .ok (.iload 6, 2) := by decide +kernel
theorem dX1_sum_65 : decode cX1_sum 65 = .ok (.iaload, 1) := by decide +kernel
theorem dX1_sum_66 : decode cX1_sum 66 = .ok (.aload_n 2, 1) := by decide +kernel
theorem dX1_sum_67 : decode cX1_sum 67 = .ok (.iload 6, 2) := by decide +kernel
theorem dX1_sum_69 : decode cX1_sum 69 = .ok (.iaload, 1) := by decide +kernel
theorem dX1_sum_70 : decode cX1_sum 70 = .ok (.invokevirtual 36, 3) := by decide +kernel
theorem dX1_sum_73 : decode cX1_sum 73 = .ok (.aload_n 0, 1) := by decide +kernel
theorem dX1_sum_74 : decode cX1_sum 74 = .ok (.getfield 10, 3) := by decide +kernel
theorem dX1_sum_77 : decode cX1_sum 77 = .ok (.iload 7, 2) := by decide +kernel
theorem dX1_sum_79 : decode cX1_sum 79 = .ok (.iload 5, 2) := by decide +kernel
theorem dX1_sum_81 : decode cX1_sum 81 = .ok (.invokevirtual 36, 3) := by decide +kernel
theorem dX1_sum_84 : decode cX1_sum 84 = .ok (.invokevirtual 39, 3) := by decide +kernel
theorem dX1_sum_87 : decode cX1_sum 87 = .ok (.istore 5, 2) := by decide +kernel
theorem dX1_sum_89 : decode cX1_sum 89 = .ok (.iinc 6 1, 3) := by decide +kernel
theorem dX1_sum_92 : decode cX1_sum 92 = .ok (.goto (-78), 3) := by decide +kernel
theorem dX1_sum_95 : decode cX1_sum 95 = .ok (.aload 4, 2) := by decide +kernel
theorem dX1_sum_97 : decode cX1_sum 97 = .ok (.aload_n 1, 1) := by decide +kernel
theorem dX1_sum_98 : decode cX1_sum 98 = .ok (.arraylength, 1) := by decide +kernel
theorem dX1_sum_99 : decode cX1_sum 99 = .ok (.iload 5, 2) := by decide +kernel
theorem dX1_sum_101 : decode cX1_sum 101 = .ok (.iastore, 1) := by decide +kernel
theorem dX1_sum_102 : decode cX1_sum 102 = .ok (.aload 4, 2) := by decide +kernel
theorem dX1_sum_104 : decode cX1_sum 104 = .ok (.areturn, 1) := by decide +kernel
theorem dX1_withoutCarry_0 : decode cX1_withoutCarry 0 = .ok (.aload_n 0, 1) := by decide +kernel
theorem dX1_withoutCarry_1 : decode cX1_withoutCarry 1 = .ok (.aload_n 0, 1) := by decide +kernel
theorem dX1_withoutCarry_2 : decode cX1_withoutCarry 2 = .ok (.arraylength, 1) := by decide +kernel
theorem dX1_withoutCarry_3 : decode cX1_withoutCarry 3 = .ok (.iconst 1, 1) := by decide +kernel
theorem dX1_withoutCarry_4 : decode cX1_withoutCarry 4 = .ok (.isub, 1) := by decide +kernel
theorem dX1_withoutCarry_5 : decode cX1_withoutCarry 5 = .ok (.iconst 0, 1) := by decide +kernel
theorem dX1_withoutCarry_6 : decode cX1_withoutCarry 6 = .ok (.invokestatic 42, 3) := by decide +kernel
theorem dX1_withoutCarry_9 : decode cX1_withoutCarry 9 = .ok (.invokestatic 47, 3) := by decide +kernel
theorem dX1_withoutCarry_12 : decode cX1_withoutCarry 12 = .ok (.areturn, 1) := by decide +kernel
theorem dX1_picked_0 : decode cX1_picked 0 = .ok (.aload_n 3, 1) := by decide +kernel
theorem dX1_picked_1 : decode cX1_picked 1 = .ok (.arraylength, 1) := by decide +kernel
theorem dX1_picked_2 : decode cX1_picked 2 = .ok (.newarray .int, 2) := by decide +kernel
theorem dX1_picked_4 : decode cX1_picked 4 = .ok (.astore 4, 2) := by decide +kernel
theorem dX1_picked_6 : decode cX1_picked 6 = .ok (.iconst 0, 1) := by decide +kernel
theorem dX1_picked_7 : decode cX1_picked 7 = .ok (.istore 5, 2) := by decide +kernel
theorem dX1_picked_9 : decode cX1_picked 9 = .ok (.iload 5, 2) := by decide +kernel
theorem dX1_picked_11 : decode cX1_picked 11 = .ok (.aload_n 3, 1) := by decide +kernel
theorem dX1_picked_12 : decode cX1_picked 12 = .ok (.arraylength, 1) := by decide +kernel
theorem dX1_picked_13 : decode cX1_picked 13 = .ok (.if_icmp .ge 52, 3) := by decide +kernel
theorem dX1_picked_16 : decode cX1_picked 16 = .ok (.aload_n 0, 1) := by decide +kernel
theorem dX1_picked_17 : decode cX1_picked 17 = .ok (.getfield 10, 3) := by decide +kernel
theorem dX1_picked_20 : decode cX1_picked 20 = .ok (.aload_n 2, 1) := by decide +kernel
theorem dX1_picked_21 : decode cX1_picked 21 = .ok (.iload 5, 2) := by decide +kernel
theorem dX1_picked_23 : decode cX1_picked 23 = .ok (.iaload, 1) := by decide +kernel
theorem dX1_picked_24 : decode cX1_picked 24 = .ok (.aload_n 3, 1) := by decide +kernel
theorem dX1_picked_25 : decode cX1_picked 25 = .ok (.iload 5, 2) := by decide +kernel
theorem dX1_picked_27 : decode cX1_picked 27 = .ok (.iaload, 1) := by decide +kernel
theorem dX1_picked_28 : decode cX1_picked 28 = .ok (.invokevirtual 20, 3) := by decide +kernel
theorem dX1_picked_31 : decode cX1_picked 31 = .ok (.istore 6, 2) := by decide +kernel
theorem dX1_picked_33 : decode cX1_picked 33 = .ok (.aload 4, 2) := by decide +kernel
theorem dX1_picked_35 : decode cX1_picked 35 = .ok (.iload 5, 2) := by decide +kernel
theorem dX1_picked_37 : decode cX1_picked 37 = .ok (.aload_n 0, 1) := by decide +kernel
theorem dX1_picked_38 : decode cX1_picked 38 = .ok (.getfield 10, 3) := by decide +kernel
theorem dX1_picked_41 : decode cX1_picked 41 = .ok (.aload_n 3, 1) := by decide +kernel
theorem dX1_picked_42 : decode cX1_picked 42 = .ok (.iload 5, 2) := by decide +kernel
theorem dX1_picked_44 : decode cX1_picked 44 = .ok (.iaload, 1) := by decide +kernel
theorem dX1_picked_45 : decode cX1_picked 45 = .ok (.aload_n 0, 1) := by decide +kernel
theorem dX1_picked_46 : decode cX1_picked 46 = .ok (.getfield 10, 3) := by decide +kernel
theorem dX1_picked_49 : decode cX1_picked 49 = .ok (.iload_n 1, 1) := by decide +kernel
theorem dX1_picked_50 : decode cX1_picked 50 = .ok (.iload 6, 2) := by decide +kernel
theorem dX1_picked_52 : decode cX1_picked 52 = .ok (.invokevirtual 36, 3) := by decide +kernel
theorem dX1_picked_55 : decode cX1_picked 55 = .ok (.invokevirtual 20, 3) := by decide +kernel
theorem dX1_picked_58 : decode cX1_picked 58 = .ok (.iastore, 1) := by decide +kernel
theorem dX1_picked_59 : decode cX1_picked 59 = .ok (.iinc 5 1, 3) := by decide +kernel
theorem dX1_picked_62 : decode cX1_picked 62 = .ok (.goto (-53), 3) := by decide +kernel
theorem dX1_picked_65 : decode cX1_picked 65 = .ok (.aload 4, 2) := by decide +kernel
theorem dX1_picked_67 : decode cX1_picked 67 = .ok (.areturn, 1) := by decide +kernel
theorem dX1_product_0 : decode cX1_product 0 = .ok (.aload_n 1, 1) := by decide +kernel
theorem dX1_product_1 : decode cX1_product 1 = .ok (.arraylength, 1) := by decide +kernel
theorem dX1_product_2 : decode cX1_product 2 = .ok (.istore_n 3, 1) := by decide +kernel
theorem dX1_product_3 : decode cX1_product 3 = .ok (.iload_n 3, 1) := by decide +kernel
theorem dX1_product_4 : decode cX1_product 4 = .ok (.newarray .int, 2) := by decide +kernel
theorem dX1_product_6 : decode cX1_product 6 = .ok (.astore 4, 2) := by decide +kernel
theorem dX1_product_8 : decode cX1_product 8 = .ok (.iconst 0, 1) := by decide +kernel
theorem dX1_product_9 : decode cX1_product 9 = .ok (.istore 5, 2) := by decide +kernel
theorem dX1_product_11 : decode cX1_product 11 = .ok (.iload 5, 2) := by decide +kernel
theorem dX1_product_13 : decode cX1_product 13 = .ok (.iload_n 3, 1) := by decide +kernel
theorem dX1_product_14 : decode cX1_product 14 = .ok (.if_icmp .ge 84, 3) := by decide +kernel
theorem dX1_product_17 : decode cX1_product 17 = .ok (.iload_n 3, 1) := by decide +kernel
theorem dX1_product_18 : decode cX1_product 18 = .ok (.iload 5, 2) := by decide +kernel
theorem dX1_product_20 : decode cX1_product 20 = .ok (.isub, 1) := by decide +kernel
theorem dX1_product_21 : decode cX1_product 21 = .ok (.newarray .int, 2) := by decide +kernel
theorem dX1_product_23 : decode cX1_product 23 = .ok (.astore 6, 2) := by decide +kernel
theorem dX1_product_25 : decode cX1_product 25 = .ok (.iconst 0, 1) := by decide +kernel
theorem dX1_product_26 : decode cX1_product 26 = .ok (.istore 7, 2) := by decide +kernel
theorem dX1_product_28 : decode cX1_product 28 = .ok (.iload 7, 2) := by decide +kernel
theorem dX1_product_30 : decode cX1_product 30 = .ok (.aload 6, 2) := by decide +kernel
theorem dX1_product_32 : decode cX1_product 32 = .ok (.arraylength, 1) := by decide +kernel
theorem dX1_product_33 : decode cX1_product 33 = .ok (.if_icmp .ge 29, 3) := by decide +kernel
theorem dX1_product_36 : decode cX1_product 36 = .ok (.aload 6, 2) := by decide +kernel
theorem dX1_product_38 : decode cX1_product 38 = .ok (.iload 7, 2) := by decide +kernel
theorem dX1_product_40 : decode cX1_product 40 = .ok (.aload_n 0, 1) := by decide +kernel
theorem dX1_product_41 : decode cX1_product 41 = .ok (.getfield 10, 3) := by decide +kernel
theorem dX1_product_44 : decode cX1_product 44 = .ok (.aload_n 1, 1) := by decide +kernel
theorem dX1_product_45 : decode cX1_product 45 = .ok (.iload 7, 2) := by decide +kernel
theorem dX1_product_47 : decode cX1_product 47 = .ok (.iaload, 1) := by decide +kernel
theorem dX1_product_48 : decode cX1_product 48 = .ok (.aload_n 2, 1) := by decide +kernel
theorem dX1_product_49 : decode cX1_product 49 = .ok (.iload 5, 2) := by decide +kernel
theorem dX1_product_51 : decode cX1_product 51 = .ok (.iaload, 1) := by decide +kernel
theorem dX1_product_52 : decode cX1_product 52 = .ok (.invokevirtual 36, 3) := by decide +kernel
theorem dX1_product_55 : decode cX1_product 55 = .ok (.iastore, 1) := by decide +kernel
theorem dX1_product_56 : decode cX1_product 56 = .ok (.iinc 7 1, 3) := by decide +kernel
theorem dX1_product_59 : decode cX1_product 59 = .ok (.goto (-31), 3) := by decide +kernel
theorem dX1_product_62 : decode cX1_product 62 = .ok (.aload_n 0, 1) := by decide +kernel
theorem dX1_product_63 : decode cX1_product 63 = .ok (.aload 4, 2) := by decide +kernel
theorem dX1_product_65 : decode cX1_product 65 = .ok (.iload 5, 2) := by decide +kernel
theorem dX1_product_67 : decode cX1_product 67 = .ok (.iload_n 3, 1) := by decide +kernel
theorem dX1_product_68 : decode cX1_product 68 = .ok (.invokestatic 53, 3) := by decide +kernel
theorem dX1_product_71 : decode cX1_product 71 = .ok (.aload 6, 2) := by decide +kernel
theorem dX1_product_73 : decode cX1_product 73 = .ok (.iconst 0, 1) := by decide +kernel
theorem dX1_product_74 : decode cX1_product 74 = .ok (.invokevirtual 24, 3) := by decide +kernel
theorem dX1_product_77 : decode cX1_product 77 = .ok (.astore 7, 2) := by decide +kernel
theorem dX1_product_79 : decode cX1_product 79 = .ok (.aload 7, 2) := by decide +kernel
theorem dX1_product_81 : decode cX1_product 81 = .ok (.iconst 0, 1) := by decide +kernel
theorem dX1_product_82 : decode cX1_product 82 = .ok (.aload 4, 2) := by decide +kernel
theorem dX1_product_84 : decode cX1_product 84 = .ok (.iload 5, 2) := by decide +kernel
theorem dX1_product_86 : decode cX1_product 86 = .ok (.aload 6, 2) := by decide +kernel
theorem dX1_product_88 : decode cX1_product 88 = .ok (.arraylength, 1) := by decide +kernel
theorem dX1_product_89 : decode cX1_product 89 = .ok (.invokestatic 57, 3) := by decide +kernel
theorem dX1_product_92 : decode cX1_product 92 = .ok (.iinc 5 1, 3) := by decide +kernel
theorem dX1_product_95 : decode cX1_product 95 = .ok (.goto (-84), 3) := by decide +kernel
theorem dX1_product_98 : decode cX1_product 98 = .ok (.aload 4, 2) := by decide +kernel
theorem dX1_product_100 : decode cX1_product 100 = .ok (.areturn, 1) := by decide +kernel
theorem dX1_divided_0 : decode cX1_divided 0 = .ok (.aload_n 1, 1) := by decide +kernel
theorem dX1_divided_1 : decode cX1_divided 1 = .ok (.arraylength, 1) := by decide +kernel
theorem dX1_divided_2 : decode cX1_divided 2 = .ok (.istore 4, 2) := by decide +kernel
theorem dX1_divided_4 : decode cX1_divided 4 = .ok (.aload_n 0, 1) := by decide +kernel
theorem dX1_divided_5 : decode cX1_divided 5 = .ok (.aload_n 2, 1) := by decide +kernel
theorem dX1_divided_6 : decode cX1_divided 6 = .ok (.invokevirtual 63, 3) := by decide +kernel
theorem dX1_divided_9 : decode cX1_divided 9 = .ok (.astore 5, 2) := by decide +kernel
theorem dX1_divided_11 : decode cX1_divided 11 = .ok (.iload 4, 2) := by decide +kernel
theorem dX1_divided_13 : decode cX1_divided 13 = .ok (.newarray .int, 2) := by decide +kernel
theorem dX1_divided_15 : decode cX1_divided 15 = .ok (.astore 6, 2) := by decide +kernel
theorem dX1_divided_17 : decode cX1_divided 17 = .ok (.iload 4, 2) := by decide +kernel
theorem dX1_divided_19 : decode cX1_divided 19 = .ok (.newarray .int, 2) := by decide +kernel
theorem dX1_divided_21 : decode cX1_divided 21 = .ok (.astore 7, 2) := by decide +kernel
theorem dX1_divided_23 : decode cX1_divided 23 = .ok (.iload 4, 2) := by decide +kernel
theorem dX1_divided_25 : decode cX1_divided 25 = .ok (.iconst 1, 1) := by decide +kernel
theorem dX1_divided_26 : decode cX1_divided 26 = .ok (.isub, 1) := by decide +kernel
theorem dX1_divided_27 : decode cX1_divided 27 = .ok (.istore 8, 2) := by decide +kernel
theorem dX1_divided_29 : decode cX1_divided 29 = .ok (.iload 8, 2) := by decide +kernel
theorem dX1_divided_31 : decode cX1_divided 31 = .ok (.ifCond .lt 58, 3) := by decide +kernel
theorem dX1_divided_34 : decode cX1_divided 34 = .ok (.aload 7, 2) := by decide +kernel
theorem dX1_divided_36 : decode cX1_divided 36 = .ok (.iconst 1, 1) := by decide +kernel
theorem dX1_divided_37 : decode cX1_divided 37 = .ok (.iconst 1, 1) := by decide +kernel
theorem dX1_divided_38 : decode cX1_divided 38 = .ok (.aload_n 1, 1) := by decide +kernel
theorem dX1_divided_39 : decode cX1_divided 39 = .ok (.iload 8, 2) := by decide +kernel
theorem dX1_divided_41 : decode cX1_divided 41 = .ok (.iaload, 1) := by decide +kernel
theorem dX1_divided_42 : decode cX1_divided 42 = .ok (.invokestatic 66, 3) := by decide +kernel
theorem dX1_divided_45 : decode cX1_divided 45 = .ok (.astore 9, 2) := by decide +kernel
theorem dX1_divided_47 : decode cX1_divided 47 = .ok (.aload_n 0, 1) := by decide +kernel
theorem dX1_divided_48 : decode cX1_divided 48 = .ok (.aload 9, 2) := by decide +kernel
theorem dX1_divided_50 : decode cX1_divided 50 = .ok (.aload 5, 2) := by decide +kernel
theorem dX1_divided_52 : decode cX1_divided 52 = .ok (.iconst 1, 1) := by decide +kernel
theorem dX1_divided_53 : decode cX1_divided 53 = .ok (.invokevirtual 24, 3) := by decide +kernel
theorem dX1_divided_56 : decode cX1_divided 56 = .ok (.astore 10, 2) := by decide +kernel
theorem dX1_divided_58 : decode cX1_divided 58 = .ok (.aload 6, 2) := by decide +kernel
theorem dX1_divided_60 : decode cX1_divided 60 = .ok (.iload 8, 2) := by decide +kernel
theorem dX1_divided_62 : decode cX1_divided 62 = .ok (.aload 10, 2) := by decide +kernel
theorem dX1_divided_64 : decode cX1_divided 64 = .ok (.iload 4, 2) := by decide +kernel
theorem dX1_divided_66 : decode cX1_divided 66 = .ok (.iaload, 1) := by decide +kernel
theorem dX1_divided_67 : decode cX1_divided 67 = .ok (.iastore, 1) := by decide +kernel
theorem dX1_divided_68 : decode cX1_divided 68 = .ok (.aload_n 0, 1) := by decide +kernel
theorem dX1_divided_69 : decode cX1_divided 69 = .ok (.aload 6, 2) := by decide +kernel
theorem dX1_divided_71 : decode cX1_divided 71 = .ok (.iload 8, 2) := by decide +kernel
theorem dX1_divided_73 : decode cX1_divided 73 = .ok (.iaload, 1) := by decide +kernel
theorem dX1_divided_74 : decode cX1_divided 74 = .ok (.aload 10, 2) := by decide +kernel
theorem dX1_divided_76 : decode cX1_divided 76 = .ok (.aload 9, 2) := by decide +kernel
theorem dX1_divided_78 : decode cX1_divided 78 = .ok (.invokevirtual 70, 3) := by decide +kernel
theorem dX1_divided_81 : decode cX1_divided 81 = .ok (.astore 7, 2) := by decide +kernel
theorem dX1_divided_83 : decode cX1_divided 83 = .ok (.iinc 8 (-1), 3) := by decide +kernel
theorem dX1_divided_86 : decode cX1_divided 86 = .ok (.goto (-57), 3) := by decide +kernel
theorem dX1_divided_89 : decode cX1_divided 89 = .ok (.iload_n 3, 1) := by decide +kernel
theorem dX1_divided_90 : decode cX1_divided 90 = .ok (.ifCond .eq 8, 3) := by decide +kernel
theorem dX1_divided_93 : decode cX1_divided 93 = .ok (.aload 7, 2) := by decide +kernel
theorem dX1_divided_95 : decode cX1_divided 95 = .ok (.goto 5, 3) := by decide +kernel
theorem dX1_divided_98 : decode cX1_divided 98 = .ok (.aload 6, 2) := by decide +kernel
theorem dX1_divided_100 : decode cX1_divided 100 = .ok (.areturn, 1) := by decide +kernel
theorem dX1_dividedWithSign_0 : decode cX1_dividedWithSign 0 = .ok (.aload_n 1, 1) := by decide +kernel
theorem dX1_dividedWithSign_1 : decode cX1_dividedWithSign 1 = .ok (.aload_n 1, 1) := by decide +kernel
theorem dX1_dividedWithSign_2 : decode cX1_dividedWithSign 2 = .ok (.arraylength, 1) := by decide +kernel
theorem dX1_dividedWithSign_3 : decode cX1_dividedWithSign 3 = .ok (.iconst 1, 1) := by decide +kernel
theorem dX1_dividedWithSign_4 : decode cX1_dividedWithSign 4 = .ok (.isub, 1) := by decide +kernel
theorem dX1_dividedWithSign_5 : decode cX1_dividedWithSign 5 = .ok (.iaload, 1) := by decide +kernel
theorem dX1_dividedWithSign_6 : decode cX1_dividedWithSign 6 = .ok (.istore 4, 2) := by decide +kernel
theorem dX1_dividedWithSign_8 : decode cX1_dividedWithSign 8 = .ok (.aload_n 2, 1) := by decide +kernel
theorem dX1_dividedWithSign_9 : decode cX1_dividedWithSign 9 = .ok (.aload_n 2, 1) := by decide +kernel
theorem dX1_dividedWithSign_10 : decode cX1_dividedWithSign 10 = .ok (.arraylength, 1) := by decide +kernel
theorem dX1_dividedWithSign_11 : decode cX1_dividedWithSign 11 = .ok (.iconst 1, 1) := by decide +kernel
theorem dX1_dividedWithSign_12 : decode cX1_dividedWithSign 12 = .ok (.isub, 1) := by decide +kernel
theorem dX1_dividedWithSign_13 : decode cX1_dividedWithSign 13 = .ok (.iaload, 1) := by decide +kernel
theorem dX1_dividedWithSign_14 : decode cX1_dividedWithSign 14 = .ok (.istore 5, 2) := by decide +kernel
theorem dX1_dividedWithSign_16 : decode cX1_dividedWithSign 16 = .ok (.aload_n 0, 1) := by decide +kernel
theorem dX1_dividedWithSign_17 : decode cX1_dividedWithSign 17 = .ok (.aload_n 0, 1) := by decide +kernel
theorem dX1_dividedWithSign_18 : decode cX1_dividedWithSign 18 = .ok (.iload 4, 2) := by decide +kernel
theorem dX1_dividedWithSign_20 : decode cX1_dividedWithSign 20 = .ok (.aload_n 1, 1) := by decide +kernel
theorem dX1_dividedWithSign_21 : decode cX1_dividedWithSign 21 = .ok (.invokevirtual 74, 3) := by decide +kernel
theorem dX1_dividedWithSign_24 : decode cX1_dividedWithSign 24 = .ok (.aload_n 0, 1) := by decide +kernel
theorem dX1_dividedWithSign_25 : decode cX1_dividedWithSign 25 = .ok (.iload 5, 2) := by decide +kernel
theorem dX1_dividedWithSign_27 : decode cX1_dividedWithSign 27 = .ok (.aload_n 2, 1) := by decide +kernel
theorem dX1_dividedWithSign_28 : decode cX1_dividedWithSign 28 = .ok (.invokevirtual 74, 3) := by decide +kernel
theorem dX1_dividedWithSign_31 : decode cX1_dividedWithSign 31 = .ok (.iload_n 3, 1) := by decide +kernel
theorem dX1_dividedWithSign_32 : decode cX1_dividedWithSign 32 = .ok (.invokevirtual 78, 3) := by decide +kernel
theorem dX1_dividedWithSign_35 : decode cX1_dividedWithSign 35 = .ok (.astore 6, 2) := by decide +kernel
theorem dX1_dividedWithSign_37 : decode cX1_dividedWithSign 37 = .ok (.aload_n 0, 1) := by decide +kernel
theorem dX1_dividedWithSign_38 : decode cX1_dividedWithSign 38 = .ok (.iload_n 3, 1) := by decide +kernel
theorem dX1_dividedWithSign_39 : decode cX1_dividedWithSign 39 = .ok (.ifCond .eq 8, 3) := by decide +kernel
theorem dX1_dividedWithSign_42 : decode cX1_dividedWithSign 42 = .ok (.iload 4, 2) := by decide +kernel
theorem dX1_dividedWithSign_44 : decode cX1_dividedWithSign 44 = .ok (.goto 14, 3) := by decide +kernel
theorem dX1_dividedWithSign_47 : decode cX1_dividedWithSign 47 = .ok (.aload_n 0, 1) := by decide +kernel
theorem dX1_dividedWithSign_48 : decode cX1_dividedWithSign 48 = .ok (.getfield 10, 3) := by decide +kernel
theorem dX1_dividedWithSign_51 : decode cX1_dividedWithSign 51 = .ok (.iload 4, 2) := by decide +kernel
theorem dX1_dividedWithSign_53 : decode cX1_dividedWithSign 53 = .ok (.iload 5, 2) := by decide +kernel
theorem dX1_dividedWithSign_55 : decode cX1_dividedWithSign 55 = .ok (.invokevirtual 20, 3) := by decide +kernel
theorem dX1_dividedWithSign_58 : decode cX1_dividedWithSign 58 = .ok (.aload 6, 2) := by decide +kernel
theorem dX1_dividedWithSign_60 : decode cX1_dividedWithSign 60 = .ok (.invokevirtual 74, 3) := by decide +kernel
theorem dX1_dividedWithSign_63 : decode cX1_dividedWithSign 63 = .ok (.areturn, 1) := by decide +kernel
theorem dX1_shifted_0 : decode cX1_shifted 0 = .ok (.aload_n 1, 1) := by decide +kernel
theorem dX1_shifted_1 : decode cX1_shifted 1 = .ok (.arraylength, 1) := by decide +kernel
theorem dX1_shifted_2 : decode cX1_shifted 2 = .ok (.istore 5, 2) := by decide +kernel
theorem dX1_shifted_4 : decode cX1_shifted 4 = .ok (.aload_n 1, 1) := by decide +kernel
theorem dX1_shifted_5 : decode cX1_shifted 5 = .ok (.astore 6, 2) := by decide +kernel
theorem dX1_shifted_7 : decode cX1_shifted 7 = .ok (.iconst 0, 1) := by decide +kernel
theorem dX1_shifted_8 : decode cX1_shifted 8 = .ok (.istore 7, 2) := by decide +kernel
theorem dX1_shifted_10 : decode cX1_shifted 10 = .ok (.iconst 1, 1) := by decide +kernel
theorem dX1_shifted_11 : decode cX1_shifted 11 = .ok (.istore 8, 2) := by decide +kernel
theorem dX1_shifted_13 : decode cX1_shifted 13 = .ok (.iconst 0, 1) := by decide +kernel
theorem dX1_shifted_14 : decode cX1_shifted 14 = .ok (.istore 9, 2) := by decide +kernel
theorem dX1_shifted_16 : decode cX1_shifted 16 = .ok (.iload 9, 2) := by decide +kernel
theorem dX1_shifted_18 : decode cX1_shifted 18 = .ok (.iload 5, 2) := by decide +kernel
theorem dX1_shifted_20 : decode cX1_shifted 20 = .ok (.if_icmp .ge 62, 3) := by decide +kernel
theorem dX1_shifted_23 : decode cX1_shifted 23 = .ok (.iload 8, 2) := by decide +kernel
theorem dX1_shifted_25 : decode cX1_shifted 25 = .ok (.iload 5, 2) := by decide +kernel
theorem dX1_shifted_27 : decode cX1_shifted 27 = .ok (.if_icmp .ge 34, 3) := by decide +kernel
theorem dX1_shifted_30 : decode cX1_shifted 30 = .ok (.aload_n 0, 1) := by decide +kernel
theorem dX1_shifted_31 : decode cX1_shifted 31 = .ok (.aload_n 2, 1) := by decide +kernel
theorem dX1_shifted_32 : decode cX1_shifted 32 = .ok (.iload 9, 2) := by decide +kernel
theorem dX1_shifted_34 : decode cX1_shifted 34 = .ok (.iaload, 1) := by decide +kernel
theorem dX1_shifted_35 : decode cX1_shifted 35 = .ok (.aload 6, 2) := by decide +kernel
theorem dX1_shifted_37 : decode cX1_shifted 37 = .ok (.iload 8, 2) := by decide +kernel
theorem dX1_shifted_39 : decode cX1_shifted 39 = .ok (.iload_n 3, 1) := by decide +kernel
theorem dX1_shifted_40 : decode cX1_shifted 40 = .ok (.iload 4, 2) := by decide +kernel
theorem dX1_shifted_42 : decode cX1_shifted 42 = .ok (.invokestatic 66, 3) := by decide +kernel
theorem dX1_shifted_45 : decode cX1_shifted 45 = .ok (.aload 6, 2) := by decide +kernel
theorem dX1_shifted_47 : decode cX1_shifted 47 = .ok (.invokevirtual 70, 3) := by decide +kernel
theorem dX1_shifted_50 : decode cX1_shifted 50 = .ok (.astore 6, 2) := by decide +kernel
theorem dX1_shifted_52 : decode cX1_shifted 52 = .ok (.iload 8, 2) := by decide +kernel
theorem dX1_shifted_54 : decode cX1_shifted 54 = .ok (.iconst 2, 1) := by decide +kernel
theorem dX1_shifted_55 : decode cX1_shifted 55 = .ok (.imul, 1) := by decide +kernel
theorem dX1_shifted_56 : decode cX1_shifted 56 = .ok (.istore 8, 2) := by decide +kernel
theorem dX1_shifted_58 : decode cX1_shifted 58 = .ok (.goto 18, 3) := by decide +kernel
theorem dX1_shifted_61 : decode cX1_shifted 61 = .ok (.aload_n 0, 1) := by decide +kernel
theorem dX1_shifted_62 : decode cX1_shifted 62 = .ok (.getfield 10, 3) := by decide +kernel
theorem dX1_shifted_65 : decode cX1_shifted 65 = .ok (.iload 7, 2) := by decide +kernel
theorem dX1_shifted_67 : decode cX1_shifted 67 = .ok (.aload_n 2, 1) := by decide +kernel
theorem dX1_shifted_68 : decode cX1_shifted 68 = .ok (.iload 9, 2) := by decide +kernel
theorem dX1_shifted_70 : decode cX1_shifted 70 = .ok (.iaload, 1) := by decide +kernel
theorem dX1_shifted_71 : decode cX1_shifted 71 = .ok (.invokevirtual 39, 3) := by decide +kernel
theorem dX1_shifted_74 : decode cX1_shifted 74 = .ok (.istore 7, 2) := by decide +kernel
theorem dX1_shifted_76 : decode cX1_shifted 76 = .ok (.iinc 9 1, 3) := by decide +kernel
theorem dX1_shifted_79 : decode cX1_shifted 79 = .ok (.goto (-63), 3) := by decide +kernel
theorem dX1_shifted_82 : decode cX1_shifted 82 = .ok (.aload_n 0, 1) := by decide +kernel
theorem dX1_shifted_83 : decode cX1_shifted 83 = .ok (.iload 7, 2) := by decide +kernel
theorem dX1_shifted_85 : decode cX1_shifted 85 = .ok (.aload 6, 2) := by decide +kernel
theorem dX1_shifted_87 : decode cX1_shifted 87 = .ok (.iload 5, 2) := by decide +kernel
theorem dX1_shifted_89 : decode cX1_shifted 89 = .ok (.iload_n 3, 1) := by decide +kernel
theorem dX1_shifted_90 : decode cX1_shifted 90 = .ok (.iload 4, 2) := by decide +kernel
theorem dX1_shifted_92 : decode cX1_shifted 92 = .ok (.invokestatic 66, 3) := by decide +kernel
theorem dX1_shifted_95 : decode cX1_shifted 95 = .ok (.aload 6, 2) := by decide +kernel
theorem dX1_shifted_97 : decode cX1_shifted 97 = .ok (.invokevirtual 70, 3) := by decide +kernel
theorem dX1_shifted_100 : decode cX1_shifted 100 = .ok (.areturn, 1) := by decide +kernel
theorem dX1_moved_0 : decode cX1_moved 0 = .ok (.aload_n 0, 1) := by decide +kernel
theorem dX1_moved_1 : decode cX1_moved 1 = .ok (.arraylength, 1) := by decide +kernel
theorem dX1_moved_2 : decode cX1_moved 2 = .ok (.newarray .int, 2) := by decide +kernel
theorem dX1_moved_4 : decode cX1_moved 4 = .ok (.astore 4, 2) := by decide +kernel
theorem dX1_moved_6 : decode cX1_moved 6 = .ok (.iconst 0, 1) := by decide +kernel
theorem dX1_moved_7 : decode cX1_moved 7 = .ok (.istore 5, 2) := by decide +kernel
theorem dX1_moved_9 : decode cX1_moved 9 = .ok (.iload 5, 2) := by decide +kernel
theorem dX1_moved_11 : decode cX1_moved 11 = .ok (.aload_n 0, 1) := by decide +kernel
theorem dX1_moved_12 : decode cX1_moved 12 = .ok (.arraylength, 1) := by decide +kernel
theorem dX1_moved_13 : decode cX1_moved 13 = .ok (.if_icmp .ge 51, 3) := by decide +kernel
theorem dX1_moved_16 : decode cX1_moved 16 = .ok (.iload_n 2, 1) := by decide +kernel
theorem dX1_moved_17 : decode cX1_moved 17 = .ok (.ifCond .eq 10, 3) := by decide +kernel
theorem dX1_moved_20 : decode cX1_moved 20 = .ok (.iload 5, 2) := by decide +kernel
theorem dX1_moved_22 : decode cX1_moved 22 = .ok (.iload_n 1, 1) := by decide +kernel
theorem dX1_moved_23 : decode cX1_moved 23 = .ok (.isub, 1) := by decide +kernel
theorem dX1_moved_24 : decode cX1_moved 24 = .ok (.goto 7, 3) := by decide +kernel
theorem dX1_moved_27 : decode cX1_moved 27 = .ok (.iload 5, 2) := by decide +kernel
theorem dX1_moved_29 : decode cX1_moved 29 = .ok (.iload_n 1, 1) := by decide +kernel
theorem dX1_moved_30 : decode cX1_moved 30 = .ok (.iadd, 1) := by decide +kernel
theorem dX1_moved_31 : decode cX1_moved 31 = .ok (.istore 6, 2) := by decide +kernel
theorem dX1_moved_33 : decode cX1_moved 33 = .ok (.aload 4, 2) := by decide +kernel
theorem dX1_moved_35 : decode cX1_moved 35 = .ok (.iload 5, 2) := by decide +kernel
theorem dX1_moved_37 : decode cX1_moved 37 = .ok (.iload 6, 2) := by decide +kernel
theorem dX1_moved_39 : decode cX1_moved 39 = .ok (.ifCond .lt 17, 3) := by decide +kernel
theorem dX1_moved_42 : decode cX1_moved 42 = .ok (.iload 6, 2) := by decide +kernel
theorem dX1_moved_44 : decode cX1_moved 44 = .ok (.aload_n 0, 1) := by decide +kernel
theorem dX1_moved_45 : decode cX1_moved 45 = .ok (.arraylength, 1) := by decide +kernel
theorem dX1_moved_46 : decode cX1_moved 46 = .ok (.if_icmp .ge 10, 3) := by decide +kernel
theorem dX1_moved_49 : decode cX1_moved 49 = .ok (.aload_n 0, 1) := by decide +kernel
theorem dX1_moved_50 : decode cX1_moved 50 = .ok (.iload 6, 2) := by decide +kernel
theorem dX1_moved_52 : decode cX1_moved 52 = .ok (.iaload, 1) := by decide +kernel
theorem dX1_moved_53 : decode cX1_moved 53 = .ok (.goto 4, 3) := by decide +kernel
theorem dX1_moved_56 : decode cX1_moved 56 = .ok (.iload_n 3, 1) := by decide +kernel
theorem dX1_moved_57 : decode cX1_moved 57 = .ok (.iastore, 1) := by decide +kernel
theorem dX1_moved_58 : decode cX1_moved 58 = .ok (.iinc 5 1, 3) := by decide +kernel
theorem dX1_moved_61 : decode cX1_moved 61 = .ok (.goto (-52), 3) := by decide +kernel
theorem dX1_moved_64 : decode cX1_moved 64 = .ok (.aload 4, 2) := by decide +kernel
theorem dX1_moved_66 : decode cX1_moved 66 = .ok (.areturn, 1) := by decide +kernel
theorem dX1_same_0 : decode cX1_same 0 = .ok (.iconst 0, 1) := by decide +kernel
theorem dX1_same_1 : decode cX1_same 1 = .ok (.istore_n 3, 1) := by decide +kernel
theorem dX1_same_2 : decode cX1_same 2 = .ok (.iconst 0, 1) := by decide +kernel
theorem dX1_same_3 : decode cX1_same 3 = .ok (.istore 4, 2) := by decide +kernel
theorem dX1_same_5 : decode cX1_same 5 = .ok (.iload 4, 2) := by decide +kernel
theorem dX1_same_7 : decode cX1_same 7 = .ok (.aload_n 1, 1) := by decide +kernel
theorem dX1_same_8 : decode cX1_same 8 = .ok (.arraylength, 1) := by decide +kernel
theorem dX1_same_9 : decode cX1_same 9 = .ok (.if_icmp .ge 33, 3) := by decide +kernel
theorem dX1_same_12 : decode cX1_same 12 = .ok (.aload_n 0, 1) := by decide +kernel
theorem dX1_same_13 : decode cX1_same 13 = .ok (.getfield 10, 3) := by decide +kernel
theorem dX1_same_16 : decode cX1_same 16 = .ok (.iload_n 3, 1) := by decide +kernel
theorem dX1_same_17 : decode cX1_same 17 = .ok (.aload_n 0, 1) := by decide +kernel
theorem dX1_same_18 : decode cX1_same 18 = .ok (.getfield 10, 3) := by decide +kernel
theorem dX1_same_21 : decode cX1_same 21 = .ok (.aload_n 1, 1) := by decide +kernel
theorem dX1_same_22 : decode cX1_same 22 = .ok (.iload 4, 2) := by decide +kernel
theorem dX1_same_24 : decode cX1_same 24 = .ok (.iaload, 1) := by decide +kernel
theorem dX1_same_25 : decode cX1_same 25 = .ok (.aload_n 2, 1) := by decide +kernel
theorem dX1_same_26 : decode cX1_same 26 = .ok (.iload 4, 2) := by decide +kernel
theorem dX1_same_28 : decode cX1_same 28 = .ok (.iaload, 1) := by decide +kernel
theorem dX1_same_29 : decode cX1_same 29 = .ok (.invokevirtual 20, 3) := by decide +kernel
theorem dX1_same_32 : decode cX1_same 32 = .ok (.invokevirtual 39, 3) := by decide +kernel
theorem dX1_same_35 : decode cX1_same 35 = .ok (.istore_n 3, 1) := by decide +kernel
theorem dX1_same_36 : decode cX1_same 36 = .ok (.iinc 4 1, 3) := by decide +kernel
theorem dX1_same_39 : decode cX1_same 39 = .ok (.goto (-34), 3) := by decide +kernel
theorem dX1_same_42 : decode cX1_same 42 = .ok (.aload_n 0, 1) := by decide +kernel
theorem dX1_same_43 : decode cX1_same 43 = .ok (.getfield 10, 3) := by decide +kernel
theorem dX1_same_46 : decode cX1_same 46 = .ok (.iload_n 3, 1) := by decide +kernel
theorem dX1_same_47 : decode cX1_same 47 = .ok (.invokevirtual 16, 3) := by decide +kernel
theorem dX1_same_50 : decode cX1_same 50 = .ok (.ireturn, 1) := by decide +kernel
theorem dX1_atLeast_0 : decode cX1_atLeast 0 = .ok (.aload_n 0, 1) := by decide +kernel
theorem dX1_atLeast_1 : decode cX1_atLeast 1 = .ok (.aload_n 1, 1) := by decide +kernel
theorem dX1_atLeast_2 : decode cX1_atLeast 2 = .ok (.aload_n 0, 1) := by decide +kernel
theorem dX1_atLeast_3 : decode cX1_atLeast 3 = .ok (.aload_n 2, 1) := by decide +kernel
theorem dX1_atLeast_4 : decode cX1_atLeast 4 = .ok (.invokevirtual 63, 3) := by decide +kernel
theorem dX1_atLeast_7 : decode cX1_atLeast 7 = .ok (.iconst 1, 1) := by decide +kernel
theorem dX1_atLeast_8 : decode cX1_atLeast 8 = .ok (.invokevirtual 24, 3) := by decide +kernel
theorem dX1_atLeast_11 : decode cX1_atLeast 11 = .ok (.aload_n 1, 1) := by decide +kernel
theorem dX1_atLeast_12 : decode cX1_atLeast 12 = .ok (.arraylength, 1) := by decide +kernel
theorem dX1_atLeast_13 : decode cX1_atLeast 13 = .ok (.iaload, 1) := by decide +kernel
theorem dX1_atLeast_14 : decode cX1_atLeast 14 = .ok (.ireturn, 1) := by decide +kernel
theorem dX1_signTurned_0 : decode cX1_signTurned 0 = .ok (.aload_n 1, 1) := by decide +kernel
theorem dX1_signTurned_1 : decode cX1_signTurned 1 = .ok (.aload_n 1, 1) := by decide +kernel
theorem dX1_signTurned_2 : decode cX1_signTurned 2 = .ok (.arraylength, 1) := by decide +kernel
theorem dX1_signTurned_3 : decode cX1_signTurned 3 = .ok (.invokestatic 47, 3) := by decide +kernel
theorem dX1_signTurned_6 : decode cX1_signTurned 6 = .ok (.astore_n 2, 1) := by decide +kernel
theorem dX1_signTurned_7 : decode cX1_signTurned 7 = .ok (.aload_n 2, 1) := by decide +kernel
theorem dX1_signTurned_8 : decode cX1_signTurned 8 = .ok (.aload_n 1, 1) := by decide +kernel
theorem dX1_signTurned_9 : decode cX1_signTurned 9 = .ok (.arraylength, 1) := by decide +kernel
theorem dX1_signTurned_10 : decode cX1_signTurned 10 = .ok (.iconst 1, 1) := by decide +kernel
theorem dX1_signTurned_11 : decode cX1_signTurned 11 = .ok (.isub, 1) := by decide +kernel
theorem dX1_signTurned_12 : decode cX1_signTurned 12 = .ok (.aload_n 0, 1) := by decide +kernel
theorem dX1_signTurned_13 : decode cX1_signTurned 13 = .ok (.getfield 10, 3) := by decide +kernel
theorem dX1_signTurned_16 : decode cX1_signTurned 16 = .ok (.aload_n 1, 1) := by decide +kernel
theorem dX1_signTurned_17 : decode cX1_signTurned 17 = .ok (.aload_n 1, 1) := by decide +kernel
theorem dX1_signTurned_18 : decode cX1_signTurned 18 = .ok (.arraylength, 1) := by decide +kernel
theorem dX1_signTurned_19 : decode cX1_signTurned 19 = .ok (.iconst 1, 1) := by decide +kernel
theorem dX1_signTurned_20 : decode cX1_signTurned 20 = .ok (.isub, 1) := by decide +kernel
theorem dX1_signTurned_21 : decode cX1_signTurned 21 = .ok (.iaload, 1) := by decide +kernel
theorem dX1_signTurned_22 : decode cX1_signTurned 22 = .ok (.invokevirtual 16, 3) := by decide +kernel
theorem dX1_signTurned_25 : decode cX1_signTurned 25 = .ok (.iastore, 1) := by decide +kernel
theorem dX1_signTurned_26 : decode cX1_signTurned 26 = .ok (.aload_n 2, 1) := by decide +kernel
theorem dX1_signTurned_27 : decode cX1_signTurned 27 = .ok (.areturn, 1) := by decide +kernel
theorem dX2_init_0 : decode cX2_init 0 = .ok (.aload_n 0, 1) := by decide +kernel
theorem dX2_init_1 : decode cX2_init 1 = .ok (.invokespecial 1, 3) := by decide +kernel
theorem dX2_init_4 : decode cX2_init 4 = .ok (.aload_n 0, 1) := by decide +kernel
theorem dX2_init_5 : decode cX2_init 5 = .ok (.aload_n 1, 1) := by decide +kernel
theorem dX2_init_6 : decode cX2_init 6 = .ok (.putfield 7, 3) := by decide +kernel
theorem dX2_init_9 : decode cX2_init 9 = .ok (.aload_n 0, 1) := by decide +kernel
theorem dX2_init_10 : decode cX2_init 10 = .ok (.iload_n 2, 1) := by decide +kernel
theorem dX2_init_11 : decode cX2_init 11 = .ok (.putfield 13, 3) := by decide +kernel
theorem dX2_init_14 : decode cX2_init 14 = .ok (.return_, 1) := by decide +kernel
end
section
theorem dX3_init_0 : decode cX3_init 0 = .ok (.aload_n 0, 1) := by decide +kernel
theorem dX3_init_1 : decode cX3_init 1 = .ok (.invokespecial 1, 3) := by decide +kernel
theorem dX3_init_4 : decode cX3_init 4 = .ok (.aload_n 0, 1) := by decide +kernel
theorem dX3_init_5 : decode cX3_init 5 = .ok (.new 7, 3) := by decide +kernel
theorem dX3_init_8 : decode cX3_init 8 = .ok (.dup, 1) := by decide +kernel
theorem dX3_init_9 : decode cX3_init 9 = .ok (.invokespecial 9, 3) := by decide +kernel
theorem dX3_init_12 : decode cX3_init 12 = .ok (.putfield 10, 3) := by decide +kernel
theorem dX3_init_15 : decode cX3_init 15 = .ok (.aload_n 0, 1) := by decide +kernel
theorem dX3_init_16 : decode cX3_init 16 = .ok (.aload_n 0, 1) := by decide +kernel
theorem dX3_init_17 : decode cX3_init 17 = .ok (.getfield 10, 3) := by decide +kernel
theorem dX3_init_20 : decode cX3_init 20 = .ok (.getfield 16, 3) := by decide +kernel
theorem dX3_init_23 : decode cX3_init 23 = .ok (.putfield 20, 3) := by decide +kernel
theorem dX3_init_26 : decode cX3_init 26 = .ok (.aload_n 0, 1) := by decide +kernel
theorem dX3_init_27 : decode cX3_init 27 = .ok (.new 21, 3) := by decide +kernel
theorem dX3_init_30 : decode cX3_init 30 = .ok (.dup, 1) := by decide +kernel
theorem dX3_init_31 : decode cX3_init 31 = .ok (.invokespecial 23, 3) := by decide +kernel
theorem dX3_init_34 : decode cX3_init 34 = .ok (.putfield 24, 3) := by decide +kernel
theorem dX3_init_37 : decode cX3_init 37 = .ok (.aload_n 0, 1) := by decide +kernel
theorem dX3_init_38 : decode cX3_init 38 = .ok (.iconst 0, 1) := by decide +kernel
theorem dX3_init_39 : decode cX3_init 39 = .ok (.putfield 28, 3) := by decide +kernel
theorem dX3_init_42 : decode cX3_init 42 = .ok (.return_, 1) := by decide +kernel
theorem dX3_input_0 : decode cX3_input 0 = .ok (.iload_n 1, 1) := by decide +kernel
theorem dX3_input_1 : decode cX3_input 1 = .ok (.invokestatic 32, 3) := by decide +kernel
theorem dX3_input_4 : decode cX3_input 4 = .ok (.aload_n 0, 1) := by decide +kernel
theorem dX3_input_5 : decode cX3_input 5 = .ok (.iload_n 1, 1) := by decide +kernel
theorem dX3_input_6 : decode cX3_input 6 = .ok (.invokevirtual 36, 3) := by decide +kernel
theorem dX3_input_9 : decode cX3_input 9 = .ok (.iload_n 1, 1) := by decide +kernel
theorem dX3_input_10 : decode cX3_input 10 = .ok (.newarray .int, 2) := by decide +kernel
theorem dX3_input_12 : decode cX3_input 12 = .ok (.astore_n 2, 1) := by decide +kernel
theorem dX3_input_13 : decode cX3_input 13 = .ok (.iconst 0, 1) := by decide +kernel
theorem dX3_input_14 : decode cX3_input 14 = .ok (.istore_n 3, 1) := by decide +kernel
theorem dX3_input_15 : decode cX3_input 15 = .ok (.iload_n 3, 1) := by decide +kernel
theorem dX3_input_16 : decode cX3_input 16 = .ok (.iload_n 1, 1) := by decide +kernel
theorem dX3_input_17 : decode cX3_input 17 = .ok (.if_icmp .ge 19, 3) := by decide +kernel
theorem dX3_input_20 : decode cX3_input 20 = .ok (.aload_n 2, 1) := by decide +kernel
theorem dX3_input_21 : decode cX3_input 21 = .ok (.iload_n 3, 1) := by decide +kernel
theorem dX3_input_22 : decode cX3_input 22 = .ok (.aload_n 0, 1) := by decide +kernel
theorem dX3_input_23 : decode cX3_input 23 = .ok (.getfield 20, 3) := by decide +kernel
theorem dX3_input_26 : decode cX3_input 26 = .ok (.invokevirtual 39, 3) := by decide +kernel
theorem dX3_input_29 : decode cX3_input 29 = .ok (.iastore, 1) := by decide +kernel
theorem dX3_input_30 : decode cX3_input 30 = .ok (.iinc 3 1, 3) := by decide +kernel
theorem dX3_input_33 : decode cX3_input 33 = .ok (.goto (-18), 3) := by decide +kernel
theorem dX3_input_36 : decode cX3_input 36 = .ok (.aload_n 0, 1) := by decide +kernel
theorem dX3_input_37 : decode cX3_input 37 = .ok (.new 45, 3) := by decide +kernel
theorem dX3_input_40 : decode cX3_input 40 = .ok (.dup, 1) := by decide +kernel
theorem dX3_input_41 : decode cX3_input 41 = .ok (.aload_n 2, 1) := by decide +kernel
theorem dX3_input_42 : decode cX3_input 42 = .ok (.iconst 1, 1) := by decide +kernel
theorem dX3_input_43 : decode cX3_input 43 = .ok (.invokespecial 47, 3) := by decide +kernel
theorem dX3_input_46 : decode cX3_input 46 = .ok (.iload_n 1, 1) := by decide +kernel
theorem dX3_input_47 : decode cX3_input 47 = .ok (.invokevirtual 50, 3) := by decide +kernel
theorem dX3_input_50 : decode cX3_input 50 = .ok (.ireturn, 1) := by decide +kernel
theorem dX3_constant_0 : decode cX3_constant 0 = .ok (.iload_n 1, 1) := by decide +kernel
theorem dX3_constant_1 : decode cX3_constant 1 = .ok (.invokestatic 32, 3) := by decide +kernel
theorem dX3_constant_4 : decode cX3_constant 4 = .ok (.aload_n 0, 1) := by decide +kernel
theorem dX3_constant_5 : decode cX3_constant 5 = .ok (.iload_n 1, 1) := by decide +kernel
theorem dX3_constant_6 : decode cX3_constant 6 = .ok (.invokevirtual 36, 3) := by decide +kernel
theorem dX3_constant_9 : decode cX3_constant 9 = .ok (.iload_n 1, 1) := by decide +kernel
theorem dX3_constant_10 : decode cX3_constant 10 = .ok (.newarray .int, 2) := by decide +kernel
theorem dX3_constant_12 : decode cX3_constant 12 = .ok (.astore 4, 2) := by decide +kernel
theorem dX3_constant_14 : decode cX3_constant 14 = .ok (.iconst 0, 1) := by decide +kernel
theorem dX3_constant_15 : decode cX3_constant 15 = .ok (.istore 5, 2) := by decide +kernel
theorem dX3_constant_17 : decode cX3_constant 17 = .ok (.iload 5, 2) := by decide +kernel
theorem dX3_constant_19 : decode cX3_constant 19 = .ok (.iload_n 1, 1) := by decide +kernel
theorem dX3_constant_20 : decode cX3_constant 20 = .ok (.if_icmp .ge 29, 3) := by decide +kernel
theorem dX3_constant_23 : decode cX3_constant 23 = .ok (.aload 4, 2) := by decide +kernel
theorem dX3_constant_25 : decode cX3_constant 25 = .ok (.iload 5, 2) := by decide +kernel
theorem dX3_constant_27 : decode cX3_constant 27 = .ok (.lload_n 2, 1) := by decide +kernel
theorem dX3_constant_28 : decode cX3_constant 28 = .ok (.iload 5, 2) := by decide +kernel
theorem dX3_constant_30 : decode cX3_constant 30 = .ok (.invokestatic 54, 3) := by decide +kernel
theorem dX3_constant_33 : decode cX3_constant 33 = .ok (.iconst 1, 1) := by decide +kernel
theorem dX3_constant_34 : decode cX3_constant 34 = .ok (.if_icmp .ne 7, 3) := by decide +kernel
theorem dX3_constant_37 : decode cX3_constant 37 = .ok (.iconst 1, 1) := by decide +kernel
theorem dX3_constant_38 : decode cX3_constant 38 = .ok (.goto 4, 3) := by decide +kernel
theorem dX3_constant_41 : decode cX3_constant 41 = .ok (.iconst 0, 1) := by decide +kernel
theorem dX3_constant_42 : decode cX3_constant 42 = .ok (.iastore, 1) := by decide +kernel
theorem dX3_constant_43 : decode cX3_constant 43 = .ok (.iinc 5 1, 3) := by decide +kernel
theorem dX3_constant_46 : decode cX3_constant 46 = .ok (.goto (-29), 3) := by decide +kernel
theorem dX3_constant_49 : decode cX3_constant 49 = .ok (.aload_n 0, 1) := by decide +kernel
theorem dX3_constant_50 : decode cX3_constant 50 = .ok (.new 45, 3) := by decide +kernel
theorem dX3_constant_53 : decode cX3_constant 53 = .ok (.dup, 1) := by decide +kernel
theorem dX3_constant_54 : decode cX3_constant 54 = .ok (.aload 4, 2) := by decide +kernel
theorem dX3_constant_56 : decode cX3_constant 56 = .ok (.iconst 0, 1) := by decide +kernel
theorem dX3_constant_57 : decode cX3_constant 57 = .ok (.invokespecial 47, 3) := by decide +kernel
theorem dX3_constant_60 : decode cX3_constant 60 = .ok (.iload_n 1, 1) := by decide +kernel
theorem dX3_constant_61 : decode cX3_constant 61 = .ok (.invokevirtual 50, 3) := by decide +kernel
theorem dX3_constant_64 : decode cX3_constant 64 = .ok (.ireturn, 1) := by decide +kernel
theorem dX3_one_0 : decode cX3_one 0 = .ok (.iload_n 1, 1) := by decide +kernel
theorem dX3_one_1 : decode cX3_one 1 = .ok (.iconst 1, 1) := by decide +kernel
theorem dX3_one_2 : decode cX3_one 2 = .ok (.invokestatic 58, 3) := by decide +kernel
theorem dX3_one_5 : decode cX3_one 5 = .ok (.aload_n 0, 1) := by decide +kernel
theorem dX3_one_6 : decode cX3_one 6 = .ok (.iload_n 2, 1) := by decide +kernel
theorem dX3_one_7 : decode cX3_one 7 = .ok (.invokevirtual 62, 3) := by decide +kernel
theorem dX3_one_10 : decode cX3_one 10 = .ok (.astore_n 3, 1) := by decide +kernel
theorem dX3_one_11 : decode cX3_one 11 = .ok (.iload_n 1, 1) := by decide +kernel
theorem dX3_one_12 : decode cX3_one 12 = .ok (.ifCond .ne 8, 3) := by decide +kernel
theorem dX3_one_15 : decode cX3_one 15 = .ok (.aload_n 3, 1) := by decide +kernel
theorem dX3_one_16 : decode cX3_one 16 = .ok (.arraylength, 1) := by decide +kernel
theorem dX3_one_17 : decode cX3_one 17 = .ok (.goto 8, 3) := by decide +kernel
theorem dX3_one_20 : decode cX3_one 20 = .ok (.bipush 10, 2) := by decide +kernel
theorem dX3_one_22 : decode cX3_one 22 = .ok (.aload_n 3, 1) := by decide +kernel
theorem dX3_one_23 : decode cX3_one 23 = .ok (.arraylength, 1) := by decide +kernel
theorem dX3_one_24 : decode cX3_one 24 = .ok (.imul, 1) := by decide +kernel
theorem dX3_one_25 : decode cX3_one 25 = .ok (.istore 4, 2) := by decide +kernel
theorem dX3_one_27 : decode cX3_one 27 = .ok (.aload_n 0, 1) := by decide +kernel
theorem dX3_one_28 : decode cX3_one 28 = .ok (.iload 4, 2) := by decide +kernel
theorem dX3_one_30 : decode cX3_one 30 = .ok (.invokevirtual 36, 3) := by decide +kernel
theorem dX3_one_33 : decode cX3_one 33 = .ok (.iload_n 1, 1) := by decide +kernel
theorem dX3_one_34 : decode cX3_one 34 = .ok (.ifCond .ne 14, 3) := by decide +kernel
theorem dX3_one_37 : decode cX3_one 37 = .ok (.aload_n 0, 1) := by decide +kernel
theorem dX3_one_38 : decode cX3_one 38 = .ok (.getfield 10, 3) := by decide +kernel
theorem dX3_one_41 : decode cX3_one 41 = .ok (.aload_n 3, 1) := by decide +kernel
theorem dX3_one_42 : decode cX3_one 42 = .ok (.invokevirtual 66, 3) := by decide +kernel
theorem dX3_one_45 : decode cX3_one 45 = .ok (.goto 12, 3) := by decide +kernel
theorem dX3_one_48 : decode cX3_one 48 = .ok (.aload_n 0, 1) := by decide +kernel
theorem dX3_one_49 : decode cX3_one 49 = .ok (.getfield 10, 3) := by decide +kernel
theorem dX3_one_52 : decode cX3_one 52 = .ok (.iconst 1, 1) := by decide +kernel
theorem dX3_one_53 : decode cX3_one 53 = .ok (.aload_n 3, 1) := by decide +kernel
theorem dX3_one_54 : decode cX3_one 54 = .ok (.invokevirtual 70, 3) := by decide +kernel
theorem dX3_one_57 : decode cX3_one 57 = .ok (.astore 5, 2) := by decide +kernel
theorem dX3_one_59 : decode cX3_one 59 = .ok (.aload_n 0, 1) := by decide +kernel
theorem dX3_one_60 : decode cX3_one 60 = .ok (.new 45, 3) := by decide +kernel
theorem dX3_one_63 : decode cX3_one 63 = .ok (.dup, 1) := by decide +kernel
theorem dX3_one_64 : decode cX3_one 64 = .ok (.aload 5, 2) := by decide +kernel
theorem dX3_one_66 : decode cX3_one 66 = .ok (.iconst 0, 1) := by decide +kernel
theorem dX3_one_67 : decode cX3_one 67 = .ok (.invokespecial 47, 3) := by decide +kernel
theorem dX3_one_70 : decode cX3_one 70 = .ok (.iload 4, 2) := by decide +kernel
theorem dX3_one_72 : decode cX3_one 72 = .ok (.invokevirtual 50, 3) := by decide +kernel
theorem dX3_one_75 : decode cX3_one 75 = .ok (.ireturn, 1) := by decide +kernel
theorem dX3_two_0 : decode cX3_two 0 = .ok (.iload_n 1, 1) := by decide +kernel
theorem dX3_two_1 : decode cX3_two 1 = .ok (.bipush 12, 2) := by decide +kernel
theorem dX3_two_3 : decode cX3_two 3 = .ok (.invokestatic 58, 3) := by decide +kernel
theorem dX3_two_6 : decode cX3_two 6 = .ok (.aload_n 0, 1) := by decide +kernel
theorem dX3_two_7 : decode cX3_two 7 = .ok (.iload_n 2, 1) := by decide +kernel
theorem dX3_two_8 : decode cX3_two 8 = .ok (.invokevirtual 62, 3) := by decide +kernel
theorem dX3_two_11 : decode cX3_two 11 = .ok (.astore 4, 2) := by decide +kernel
theorem dX3_two_13 : decode cX3_two 13 = .ok (.aload_n 0, 1) := by decide +kernel
theorem dX3_two_14 : decode cX3_two 14 = .ok (.iload_n 3, 1) := by decide +kernel
theorem dX3_two_15 : decode cX3_two 15 = .ok (.invokevirtual 62, 3) := by decide +kernel
theorem dX3_two_18 : decode cX3_two 18 = .ok (.astore 5, 2) := by decide +kernel
theorem dX3_two_20 : decode cX3_two 20 = .ok (.aload 4, 2) := by decide +kernel
theorem dX3_two_22 : decode cX3_two 22 = .ok (.aload 5, 2) := by decide +kernel
theorem dX3_two_24 : decode cX3_two 24 = .ok (.invokestatic 74, 3) := by decide +kernel
theorem dX3_two_27 : decode cX3_two 27 = .ok (.iload_n 1, 1) := by decide +kernel
theorem dX3_two_28 : decode cX3_two 28 = .ok (.aload 4, 2) := by decide +kernel
theorem dX3_two_30 : decode cX3_two 30 = .ok (.arraylength, 1) := by decide +kernel
theorem dX3_two_31 : decode cX3_two 31 = .ok (.invokestatic 78, 3) := by decide +kernel
theorem dX3_two_34 : decode cX3_two 34 = .ok (.istore 6, 2) := by decide +kernel
theorem dX3_two_36 : decode cX3_two 36 = .ok (.aload_n 0, 1) := by decide +kernel
theorem dX3_two_37 : decode cX3_two 37 = .ok (.iload 6, 2) := by decide +kernel
theorem dX3_two_39 : decode cX3_two 39 = .ok (.invokevirtual 36, 3) := by decide +kernel
theorem dX3_two_42 : decode cX3_two 42 = .ok (.aload_n 0, 1) := by decide +kernel
theorem dX3_two_43 : decode cX3_two 43 = .ok (.new 45, 3) := by decide +kernel
theorem dX3_two_46 : decode cX3_two 46 = .ok (.dup, 1) := by decide +kernel
theorem dX3_two_47 : decode cX3_two 47 = .ok (.aload_n 0, 1) := by decide +kernel
theorem dX3_two_48 : decode cX3_two 48 = .ok (.iload_n 1, 1) := by decide +kernel
theorem dX3_two_49 : decode cX3_two 49 = .ok (.aload 4, 2) := by decide +kernel
theorem dX3_two_51 : decode cX3_two 51 = .ok (.aload 5, 2) := by decide +kernel
theorem dX3_two_53 : decode cX3_two 53 = .ok (.invokevirtual 82, 3) := by decide +kernel
theorem dX3_two_56 : decode cX3_two 56 = .ok (.iconst 0, 1) := by decide +kernel
theorem dX3_two_57 : decode cX3_two 57 = .ok (.invokespecial 47, 3) := by decide +kernel
theorem dX3_two_60 : decode cX3_two 60 = .ok (.iload 6, 2) := by decide +kernel
theorem dX3_two_62 : decode cX3_two 62 = .ok (.invokevirtual 50, 3) := by decide +kernel
theorem dX3_two_65 : decode cX3_two 65 = .ok (.ireturn, 1) := by decide +kernel
theorem dX3_compare_0 : decode cX3_compare 0 = .ok (.iload_n 1, 1) := by decide +kernel
theorem dX3_compare_1 : decode cX3_compare 1 = .ok (.iconst 4, 1) := by decide +kernel
theorem dX3_compare_2 : decode cX3_compare 2 = .ok (.invokestatic 58, 3) := by decide +kernel
theorem dX3_compare_5 : decode cX3_compare 5 = .ok (.aload_n 0, 1) := by decide +kernel
theorem dX3_compare_6 : decode cX3_compare 6 = .ok (.iload_n 2, 1) := by decide +kernel
theorem dX3_compare_7 : decode cX3_compare 7 = .ok (.invokevirtual 62, 3) := by decide +kernel
theorem dX3_compare_10 : decode cX3_compare 10 = .ok (.astore 4, 2) := by decide +kernel
theorem dX3_compare_12 : decode cX3_compare 12 = .ok (.aload_n 0, 1) := by decide +kernel
theorem dX3_compare_13 : decode cX3_compare 13 = .ok (.iload_n 3, 1) := by decide +kernel
theorem dX3_compare_14 : decode cX3_compare 14 = .ok (.invokevirtual 62, 3) := by decide +kernel
theorem dX3_compare_17 : decode cX3_compare 17 = .ok (.astore 5, 2) := by decide +kernel
theorem dX3_compare_19 : decode cX3_compare 19 = .ok (.aload 4, 2) := by decide +kernel
theorem dX3_compare_21 : decode cX3_compare 21 = .ok (.aload 5, 2) := by decide +kernel
theorem dX3_compare_23 : decode cX3_compare 23 = .ok (.invokestatic 74, 3) := by decide +kernel
theorem dX3_compare_26 : decode cX3_compare 26 = .ok (.bipush 10, 2) := by decide +kernel
theorem dX3_compare_28 : decode cX3_compare 28 = .ok (.aload 4, 2) := by decide +kernel
theorem dX3_compare_30 : decode cX3_compare 30 = .ok (.arraylength, 1) := by decide +kernel
theorem dX3_compare_31 : decode cX3_compare 31 = .ok (.imul, 1) := by decide +kernel
theorem dX3_compare_32 : decode cX3_compare 32 = .ok (.istore 6, 2) := by decide +kernel
theorem dX3_compare_34 : decode cX3_compare 34 = .ok (.aload_n 0, 1) := by decide +kernel
theorem dX3_compare_35 : decode cX3_compare 35 = .ok (.iload 6, 2) := by decide +kernel
theorem dX3_compare_37 : decode cX3_compare 37 = .ok (.invokevirtual 36, 3) := by decide +kernel
theorem dX3_compare_40 : decode cX3_compare 40 = .ok (.iconst 1, 1) := by decide +kernel
theorem dX3_compare_41 : decode cX3_compare 41 = .ok (.newarray .int, 2) := by decide +kernel
theorem dX3_compare_43 : decode cX3_compare 43 = .ok (.astore 7, 2) := by decide +kernel
theorem dX3_compare_45 : decode cX3_compare 45 = .ok (.aload 7, 2) := by decide +kernel
theorem dX3_compare_47 : decode cX3_compare 47 = .ok (.iconst 0, 1) := by decide +kernel
theorem dX3_compare_48 : decode cX3_compare 48 = .ok (.aload_n 0, 1) := by decide +kernel
theorem dX3_compare_49 : decode cX3_compare 49 = .ok (.iload_n 1, 1) := by decide +kernel
theorem dX3_compare_50 : decode cX3_compare 50 = .ok (.aload 4, 2) := by decide +kernel
theorem dX3_compare_52 : decode cX3_compare 52 = .ok (.aload 5, 2) := by decide +kernel
theorem dX3_compare_54 : decode cX3_compare 54 = .ok (.invokevirtual 86, 3) := by decide +kernel
theorem dX3_compare_57 : decode cX3_compare 57 = .ok (.iastore, 1) := by decide +kernel
theorem dX3_compare_58 : decode cX3_compare 58 = .ok (.aload_n 0, 1) := by decide +kernel
theorem dX3_compare_59 : decode cX3_compare 59 = .ok (.new 45, 3) := by decide +kernel
theorem dX3_compare_62 : decode cX3_compare 62 = .ok (.dup, 1) := by decide +kernel
theorem dX3_compare_63 : decode cX3_compare 63 = .ok (.aload 7, 2) := by decide +kernel
theorem dX3_compare_65 : decode cX3_compare 65 = .ok (.iconst 0, 1) := by decide +kernel
theorem dX3_compare_66 : decode cX3_compare 66 = .ok (.invokespecial 47, 3) := by decide +kernel
theorem dX3_compare_69 : decode cX3_compare 69 = .ok (.iload 6, 2) := by decide +kernel
theorem dX3_compare_71 : decode cX3_compare 71 = .ok (.invokevirtual 50, 3) := by decide +kernel
theorem dX3_compare_74 : decode cX3_compare 74 = .ok (.ireturn, 1) := by decide +kernel
theorem dX3_choose_0 : decode cX3_choose 0 = .ok (.aload_n 0, 1) := by decide +kernel
theorem dX3_choose_1 : decode cX3_choose 1 = .ok (.iload_n 1, 1) := by decide +kernel
theorem dX3_choose_2 : decode cX3_choose 2 = .ok (.invokevirtual 62, 3) := by decide +kernel
theorem dX3_choose_5 : decode cX3_choose 5 = .ok (.astore 4, 2) := by decide +kernel
theorem dX3_choose_7 : decode cX3_choose 7 = .ok (.aload_n 0, 1) := by decide +kernel
theorem dX3_choose_8 : decode cX3_choose 8 = .ok (.iload_n 2, 1) := by decide +kernel
theorem dX3_choose_9 : decode cX3_choose 9 = .ok (.invokevirtual 62, 3) := by decide +kernel
theorem dX3_choose_12 : decode cX3_choose 12 = .ok (.astore 5, 2) := by decide +kernel
theorem dX3_choose_14 : decode cX3_choose 14 = .ok (.aload_n 0, 1) := by decide +kernel
theorem dX3_choose_15 : decode cX3_choose 15 = .ok (.iload_n 3, 1) := by decide +kernel
theorem dX3_choose_16 : decode cX3_choose 16 = .ok (.invokevirtual 62, 3) := by decide +kernel
theorem dX3_choose_19 : decode cX3_choose 19 = .ok (.astore 6, 2) := by decide +kernel
theorem dX3_choose_21 : decode cX3_choose 21 = .ok (.aload 5, 2) := by decide +kernel
theorem dX3_choose_23 : decode cX3_choose 23 = .ok (.aload 6, 2) := by decide +kernel
theorem dX3_choose_25 : decode cX3_choose 25 = .ok (.invokestatic 74, 3) := by decide +kernel
theorem dX3_choose_28 : decode cX3_choose 28 = .ok (.aload 4, 2) := by decide +kernel
theorem dX3_choose_30 : decode cX3_choose 30 = .ok (.arraylength, 1) := by decide +kernel
theorem dX3_choose_31 : decode cX3_choose 31 = .ok (.iconst 1, 1) := by decide +kernel
theorem dX3_choose_32 : decode cX3_choose 32 = .ok (.if_icmp .eq 13, 3) := by decide +kernel
theorem dX3_choose_35 : decode cX3_choose 35 = .ok (.new 90, 3) := by decide +kernel
theorem dX3_choose_38 : decode cX3_choose 38 = .ok (.dup, 1) := by decide +kernel
theorem dX3_choose_39 : decode cX3_choose 39 = .ok (.ldc 92, 2) := by decide +kernel
theorem dX3_choose_41 : decode cX3_choose 41 = .ok (.invokespecial 94, 3) := by decide +kernel
theorem dX3_choose_44 : decode cX3_choose 44 = .ok (.athrow, 1) := by decide +kernel
theorem dX3_choose_45 : decode cX3_choose 45 = .ok (.iconst 4, 1) := by decide +kernel
theorem dX3_choose_46 : decode cX3_choose 46 = .ok (.aload 5, 2) := by decide +kernel
theorem dX3_choose_48 : decode cX3_choose 48 = .ok (.arraylength, 1) := by decide +kernel
theorem dX3_choose_49 : decode cX3_choose 49 = .ok (.imul, 1) := by decide +kernel
theorem dX3_choose_50 : decode cX3_choose 50 = .ok (.istore 7, 2) := by decide +kernel
theorem dX3_choose_52 : decode cX3_choose 52 = .ok (.aload_n 0, 1) := by decide +kernel
theorem dX3_choose_53 : decode cX3_choose 53 = .ok (.iload 7, 2) := by decide +kernel
theorem dX3_choose_55 : decode cX3_choose 55 = .ok (.invokevirtual 36, 3) := by decide +kernel
theorem dX3_choose_58 : decode cX3_choose 58 = .ok (.aload_n 0, 1) := by decide +kernel
theorem dX3_choose_59 : decode cX3_choose 59 = .ok (.new 45, 3) := by decide +kernel
theorem dX3_choose_62 : decode cX3_choose 62 = .ok (.dup, 1) := by decide +kernel
theorem dX3_choose_63 : decode cX3_choose 63 = .ok (.aload_n 0, 1) := by decide +kernel
theorem dX3_choose_64 : decode cX3_choose 64 = .ok (.getfield 10, 3) := by decide +kernel
theorem dX3_choose_67 : decode cX3_choose 67 = .ok (.aload 4, 2) := by decide +kernel
theorem dX3_choose_69 : decode cX3_choose 69 = .ok (.iconst 0, 1) := by decide +kernel
theorem dX3_choose_70 : decode cX3_choose 70 = .ok (.iaload, 1) := by decide +kernel
theorem dX3_choose_71 : decode cX3_choose 71 = .ok (.aload 5, 2) := by decide +kernel
theorem dX3_choose_73 : decode cX3_choose 73 = .ok (.aload 6, 2) := by decide +kernel
theorem dX3_choose_75 : decode cX3_choose 75 = .ok (.invokevirtual 97, 3) := by decide +kernel
theorem dX3_choose_78 : decode cX3_choose 78 = .ok (.iconst 0, 1) := by decide +kernel
theorem dX3_choose_79 : decode cX3_choose 79 = .ok (.invokespecial 47, 3) := by decide +kernel
theorem dX3_choose_82 : decode cX3_choose 82 = .ok (.iload 7, 2) := by decide +kernel
theorem dX3_choose_84 : decode cX3_choose 84 = .ok (.invokevirtual 50, 3) := by decide +kernel
theorem dX3_choose_87 : decode cX3_choose 87 = .ok (.ireturn, 1) := by decide +kernel
theorem dX3_concat_0 : decode cX3_concat 0 = .ok (.aload_n 0, 1) := by decide +kernel
theorem dX3_concat_1 : decode cX3_concat 1 = .ok (.iload_n 1, 1) := by decide +kernel
theorem dX3_concat_2 : decode cX3_concat 2 = .ok (.invokevirtual 62, 3) := by decide +kernel
theorem dX3_concat_5 : decode cX3_concat 5 = .ok (.astore_n 3, 1) := by decide +kernel
theorem dX3_concat_6 : decode cX3_concat 6 = .ok (.aload_n 0, 1) := by decide +kernel
theorem dX3_concat_7 : decode cX3_concat 7 = .ok (.iload_n 2, 1) := by decide +kernel
theorem dX3_concat_8 : decode cX3_concat 8 = .ok (.invokevirtual 62, 3) := by decide +kernel
theorem dX3_concat_11 : decode cX3_concat 11 = .ok (.astore 4, 2) := by decide +kernel
theorem dX3_concat_13 : decode cX3_concat 13 = .ok (.aload_n 3, 1) := by decide +kernel
theorem dX3_concat_14 : decode cX3_concat 14 = .ok (.arraylength, 1) := by decide +kernel
theorem dX3_concat_15 : decode cX3_concat 15 = .ok (.aload 4, 2) := by decide +kernel
theorem dX3_concat_17 : decode cX3_concat 17 = .ok (.arraylength, 1) := by decide +kernel
theorem dX3_concat_18 : decode cX3_concat 18 = .ok (.iadd, 1) := by decide +kernel
theorem dX3_concat_19 : decode cX3_concat 19 = .ok (.istore 5, 2) := by decide +kernel
theorem dX3_concat_21 : decode cX3_concat 21 = .ok (.iload 5, 2) := by decide +kernel
theorem dX3_concat_23 : decode cX3_concat 23 = .ok (.invokestatic 32, 3) := by decide +kernel
theorem dX3_concat_26 : decode cX3_concat 26 = .ok (.aload_n 0, 1) := by decide +kernel
theorem dX3_concat_27 : decode cX3_concat 27 = .ok (.iload 5, 2) := by decide +kernel
theorem dX3_concat_29 : decode cX3_concat 29 = .ok (.invokevirtual 36, 3) := by decide +kernel
theorem dX3_concat_32 : decode cX3_concat 32 = .ok (.aload 4, 2) := by decide +kernel
theorem dX3_concat_34 : decode cX3_concat 34 = .ok (.iload 5, 2) := by decide +kernel
theorem dX3_concat_36 : decode cX3_concat 36 = .ok (.invokestatic 100, 3) := by decide +kernel
theorem dX3_concat_39 : decode cX3_concat 39 = .ok (.astore 6, 2) := by decide +kernel
theorem dX3_concat_41 : decode cX3_concat 41 = .ok (.aload_n 3, 1) := by decide +kernel
theorem dX3_concat_42 : decode cX3_concat 42 = .ok (.iconst 0, 1) := by decide +kernel
theorem dX3_concat_43 : decode cX3_concat 43 = .ok (.aload 6, 2) := by decide +kernel
theorem dX3_concat_45 : decode cX3_concat 45 = .ok (.aload 4, 2) := by decide +kernel
theorem dX3_concat_47 : decode cX3_concat 47 = .ok (.arraylength, 1) := by decide +kernel
theorem dX3_concat_48 : decode cX3_concat 48 = .ok (.aload_n 3, 1) := by decide +kernel
theorem dX3_concat_49 : decode cX3_concat 49 = .ok (.arraylength, 1) := by decide +kernel
theorem dX3_concat_50 : decode cX3_concat 50 = .ok (.invokestatic 106, 3) := by decide +kernel
theorem dX3_concat_53 : decode cX3_concat 53 = .ok (.aload_n 0, 1) := by decide +kernel
theorem dX3_concat_54 : decode cX3_concat 54 = .ok (.new 45, 3) := by decide +kernel
theorem dX3_concat_57 : decode cX3_concat 57 = .ok (.dup, 1) := by decide +kernel
theorem dX3_concat_58 : decode cX3_concat 58 = .ok (.aload 6, 2) := by decide +kernel
theorem dX3_concat_60 : decode cX3_concat 60 = .ok (.iconst 0, 1) := by decide +kernel
theorem dX3_concat_61 : decode cX3_concat 61 = .ok (.invokespecial 47, 3) := by decide +kernel
theorem dX3_concat_64 : decode cX3_concat 64 = .ok (.iload 5, 2) := by decide +kernel
theorem dX3_concat_66 : decode cX3_concat 66 = .ok (.invokevirtual 50, 3) := by decide +kernel
theorem dX3_concat_69 : decode cX3_concat 69 = .ok (.ireturn, 1) := by decide +kernel
theorem dX3_extract_0 : decode cX3_extract 0 = .ok (.aload_n 0, 1) := by decide +kernel
theorem dX3_extract_1 : decode cX3_extract 1 = .ok (.iload_n 1, 1) := by decide +kernel
theorem dX3_extract_2 : decode cX3_extract 2 = .ok (.invokevirtual 62, 3) := by decide +kernel
theorem dX3_extract_5 : decode cX3_extract 5 = .ok (.astore 4, 2) := by decide +kernel
theorem dX3_extract_7 : decode cX3_extract 7 = .ok (.iload_n 3, 1) := by decide +kernel
theorem dX3_extract_8 : decode cX3_extract 8 = .ok (.ifCond .lt 15, 3) := by decide +kernel
theorem dX3_extract_11 : decode cX3_extract 11 = .ok (.iload_n 2, 1) := by decide +kernel
theorem dX3_extract_12 : decode cX3_extract 12 = .ok (.iload_n 3, 1) := by decide +kernel
theorem dX3_extract_13 : decode cX3_extract 13 = .ok (.if_icmp .lt 10, 3) := by decide +kernel
theorem dX3_extract_16 : decode cX3_extract 16 = .ok (.iload_n 2, 1) := by decide +kernel
theorem dX3_extract_17 : decode cX3_extract 17 = .ok (.aload 4, 2) := by decide +kernel
theorem dX3_extract_19 : decode cX3_extract 19 = .ok (.arraylength, 1) := by decide +kernel
theorem dX3_extract_20 : decode cX3_extract 20 = .ok (.if_icmp .lt 13, 3) := by decide +kernel
theorem dX3_extract_23 : decode cX3_extract 23 = .ok (.new 90, 3) := by decide +kernel
theorem dX3_extract_26 : decode cX3_extract 26 = .ok (.dup, 1) := by decide +kernel
theorem dX3_extract_27 : decode cX3_extract 27 = .ok (.ldc 112, 2) := by decide +kernel
theorem dX3_extract_29 : decode cX3_extract 29 = .ok (.invokespecial 94, 3) := by decide +kernel
theorem dX3_extract_32 : decode cX3_extract 32 = .ok (.athrow, 1) := by decide +kernel
theorem dX3_extract_33 : decode cX3_extract 33 = .ok (.iload_n 2, 1) := by decide +kernel
theorem dX3_extract_34 : decode cX3_extract 34 = .ok (.iload_n 3, 1) := by decide +kernel
theorem dX3_extract_35 : decode cX3_extract 35 = .ok (.isub, 1) := by decide +kernel
theorem dX3_extract_36 : decode cX3_extract 36 = .ok (.iconst 1, 1) := by decide +kernel
theorem dX3_extract_37 : decode cX3_extract 37 = .ok (.iadd, 1) := by decide +kernel
theorem dX3_extract_38 : decode cX3_extract 38 = .ok (.istore 5, 2) := by decide +kernel
theorem dX3_extract_40 : decode cX3_extract 40 = .ok (.aload_n 0, 1) := by decide +kernel
theorem dX3_extract_41 : decode cX3_extract 41 = .ok (.iload 5, 2) := by decide +kernel
theorem dX3_extract_43 : decode cX3_extract 43 = .ok (.invokevirtual 36, 3) := by decide +kernel
theorem dX3_extract_46 : decode cX3_extract 46 = .ok (.aload_n 0, 1) := by decide +kernel
theorem dX3_extract_47 : decode cX3_extract 47 = .ok (.new 45, 3) := by decide +kernel
theorem dX3_extract_50 : decode cX3_extract 50 = .ok (.dup, 1) := by decide +kernel
theorem dX3_extract_51 : decode cX3_extract 51 = .ok (.aload 4, 2) := by decide +kernel
theorem dX3_extract_53 : decode cX3_extract 53 = .ok (.iload_n 3, 1) := by decide +kernel
theorem dX3_extract_54 : decode cX3_extract 54 = .ok (.iload_n 2, 1) := by decide +kernel
theorem dX3_extract_55 : decode cX3_extract 55 = .ok (.iconst 1, 1) := by decide +kernel
theorem dX3_extract_56 : decode cX3_extract 56 = .ok (.iadd, 1) := by decide +kernel
theorem dX3_extract_57 : decode cX3_extract 57 = .ok (.invokestatic 114, 3) := by decide +kernel
theorem dX3_extract_60 : decode cX3_extract 60 = .ok (.iconst 0, 1) := by decide +kernel
theorem dX3_extract_61 : decode cX3_extract 61 = .ok (.invokespecial 47, 3) := by decide +kernel
theorem dX3_extract_64 : decode cX3_extract 64 = .ok (.iload 5, 2) := by decide +kernel
theorem dX3_extract_66 : decode cX3_extract 66 = .ok (.invokevirtual 50, 3) := by decide +kernel
theorem dX3_extract_69 : decode cX3_extract 69 = .ok (.ireturn, 1) := by decide +kernel
theorem dX3_extend_0 : decode cX3_extend 0 = .ok (.aload_n 0, 1) := by decide +kernel
theorem dX3_extend_1 : decode cX3_extend 1 = .ok (.iload_n 1, 1) := by decide +kernel
theorem dX3_extend_2 : decode cX3_extend 2 = .ok (.invokevirtual 62, 3) := by decide +kernel
theorem dX3_extend_5 : decode cX3_extend 5 = .ok (.astore 4, 2) := by decide +kernel
theorem dX3_extend_7 : decode cX3_extend 7 = .ok (.iload_n 2, 1) := by decide +kernel
theorem dX3_extend_8 : decode cX3_extend 8 = .ok (.ifCond .lt 13, 3) := by decide +kernel
theorem dX3_extend_11 : decode cX3_extend 11 = .ok (.iload_n 2, 1) := by decide +kernel
theorem dX3_extend_12 : decode cX3_extend 12 = .ok (.bipush 64, 2) := by decide +kernel
theorem dX3_extend_14 : decode cX3_extend 14 = .ok (.aload 4, 2) := by decide +kernel
theorem dX3_extend_16 : decode cX3_extend 16 = .ok (.arraylength, 1) := by decide +kernel
theorem dX3_extend_17 : decode cX3_extend 17 = .ok (.isub, 1) := by decide +kernel
theorem dX3_extend_18 : decode cX3_extend 18 = .ok (.if_icmp .le 13, 3) := by decide +kernel
theorem dX3_extend_21 : decode cX3_extend 21 = .ok (.new 90, 3) := by decide +kernel
theorem dX3_extend_24 : decode cX3_extend 24 = .ok (.dup, 1) := by decide +kernel
theorem dX3_extend_25 : decode cX3_extend 25 = .ok (.ldc 118, 2) := by decide +kernel
theorem dX3_extend_27 : decode cX3_extend 27 = .ok (.invokespecial 94, 3) := by decide +kernel
theorem dX3_extend_30 : decode cX3_extend 30 = .ok (.athrow, 1) := by decide +kernel
theorem dX3_extend_31 : decode cX3_extend 31 = .ok (.aload 4, 2) := by decide +kernel
theorem dX3_extend_33 : decode cX3_extend 33 = .ok (.arraylength, 1) := by decide +kernel
theorem dX3_extend_34 : decode cX3_extend 34 = .ok (.iload_n 2, 1) := by decide +kernel
theorem dX3_extend_35 : decode cX3_extend 35 = .ok (.iadd, 1) := by decide +kernel
theorem dX3_extend_36 : decode cX3_extend 36 = .ok (.istore 5, 2) := by decide +kernel
theorem dX3_extend_38 : decode cX3_extend 38 = .ok (.aload_n 0, 1) := by decide +kernel
theorem dX3_extend_39 : decode cX3_extend 39 = .ok (.iload 5, 2) := by decide +kernel
theorem dX3_extend_41 : decode cX3_extend 41 = .ok (.invokevirtual 36, 3) := by decide +kernel
theorem dX3_extend_44 : decode cX3_extend 44 = .ok (.aload 4, 2) := by decide +kernel
theorem dX3_extend_46 : decode cX3_extend 46 = .ok (.iload 5, 2) := by decide +kernel
theorem dX3_extend_48 : decode cX3_extend 48 = .ok (.invokestatic 100, 3) := by decide +kernel
theorem dX3_extend_51 : decode cX3_extend 51 = .ok (.astore 6, 2) := by decide +kernel
theorem dX3_extend_53 : decode cX3_extend 53 = .ok (.aload 6, 2) := by decide +kernel
theorem dX3_extend_55 : decode cX3_extend 55 = .ok (.aload 4, 2) := by decide +kernel
theorem dX3_extend_57 : decode cX3_extend 57 = .ok (.arraylength, 1) := by decide +kernel
theorem dX3_extend_58 : decode cX3_extend 58 = .ok (.iload 5, 2) := by decide +kernel
theorem dX3_extend_60 : decode cX3_extend 60 = .ok (.iload_n 3, 1) := by decide +kernel
theorem dX3_extend_61 : decode cX3_extend 61 = .ok (.ifCond .eq 14, 3) := by decide +kernel
theorem dX3_extend_64 : decode cX3_extend 64 = .ok (.aload 4, 2) := by decide +kernel
theorem dX3_extend_66 : decode cX3_extend 66 = .ok (.aload 4, 2) := by decide +kernel
theorem dX3_extend_68 : decode cX3_extend 68 = .ok (.arraylength, 1) := by decide +kernel
theorem dX3_extend_69 : decode cX3_extend 69 = .ok (.iconst 1, 1) := by decide +kernel
theorem dX3_extend_70 : decode cX3_extend 70 = .ok (.isub, 1) := by decide +kernel
theorem dX3_extend_71 : decode cX3_extend 71 = .ok (.iaload, 1) := by decide +kernel
theorem dX3_extend_72 : decode cX3_extend 72 = .ok (.goto 4, 3) := by decide +kernel
theorem dX3_extend_75 : decode cX3_extend 75 = .ok (.iconst 0, 1) := by decide +kernel
theorem dX3_extend_76 : decode cX3_extend 76 = .ok (.invokestatic 120, 3) := by decide +kernel
theorem dX3_extend_79 : decode cX3_extend 79 = .ok (.aload_n 0, 1) := by decide +kernel
theorem dX3_extend_80 : decode cX3_extend 80 = .ok (.new 45, 3) := by decide +kernel
theorem dX3_extend_83 : decode cX3_extend 83 = .ok (.dup, 1) := by decide +kernel
theorem dX3_extend_84 : decode cX3_extend 84 = .ok (.aload 6, 2) := by decide +kernel
theorem dX3_extend_86 : decode cX3_extend 86 = .ok (.iconst 0, 1) := by decide +kernel
theorem dX3_extend_87 : decode cX3_extend 87 = .ok (.invokespecial 47, 3) := by decide +kernel
theorem dX3_extend_90 : decode cX3_extend 90 = .ok (.iload 5, 2) := by decide +kernel
theorem dX3_extend_92 : decode cX3_extend 92 = .ok (.invokevirtual 50, 3) := by decide +kernel
theorem dX3_extend_95 : decode cX3_extend 95 = .ok (.ireturn, 1) := by decide +kernel
theorem dX3_set_0 : decode cX3_set 0 = .ok (.aload_n 0, 1) := by decide +kernel
theorem dX3_set_1 : decode cX3_set 1 = .ok (.iload_n 1, 1) := by decide +kernel
theorem dX3_set_2 : decode cX3_set 2 = .ok (.invokevirtual 62, 3) := by decide +kernel
theorem dX3_set_5 : decode cX3_set 5 = .ok (.astore 4, 2) := by decide +kernel
theorem dX3_set_7 : decode cX3_set 7 = .ok (.aload_n 0, 1) := by decide +kernel
theorem dX3_set_8 : decode cX3_set 8 = .ok (.getfield 24, 3) := by decide +kernel
theorem dX3_set_11 : decode cX3_set 11 = .ok (.iload_n 1, 1) := by decide +kernel
theorem dX3_set_12 : decode cX3_set 12 = .ok (.invokevirtual 124, 3) := by decide +kernel
theorem dX3_set_15 : decode cX3_set 15 = .ok (.checkcast 45, 3) := by decide +kernel
theorem dX3_set_18 : decode cX3_set 18 = .ok (.getfield 128, 3) := by decide +kernel
theorem dX3_set_21 : decode cX3_set 21 = .ok (.ifCond .ne 13, 3) := by decide +kernel
theorem dX3_set_24 : decode cX3_set 24 = .ok (.new 90, 3) := by decide +kernel
theorem dX3_set_27 : decode cX3_set 27 = .ok (.dup, 1) := by decide +kernel
theorem dX3_set_28 : decode cX3_set 28 = .ok (.ldc 132, 2) := by decide +kernel
theorem dX3_set_30 : decode cX3_set 30 = .ok (.invokespecial 94, 3) := by decide +kernel
theorem dX3_set_33 : decode cX3_set 33 = .ok (.athrow, 1) := by decide +kernel
theorem dX3_set_34 : decode cX3_set 34 = .ok (.lconst 0, 1) := by decide +kernel
theorem dX3_set_35 : decode cX3_set 35 = .ok (.lstore 5, 2) := by decide +kernel
theorem dX3_set_37 : decode cX3_set 37 = .ok (.iconst 0, 1) := by decide +kernel
theorem dX3_set_38 : decode cX3_set 38 = .ok (.istore 7, 2) := by decide +kernel
theorem dX3_set_40 : decode cX3_set 40 = .ok (.iload 7, 2) := by decide +kernel
theorem dX3_set_42 : decode cX3_set 42 = .ok (.aload 4, 2) := by decide +kernel
theorem dX3_set_44 : decode cX3_set 44 = .ok (.arraylength, 1) := by decide +kernel
theorem dX3_set_45 : decode cX3_set 45 = .ok (.if_icmp .ge 36, 3) := by decide +kernel
theorem dX3_set_48 : decode cX3_set 48 = .ok (.lload 5, 2) := by decide +kernel
theorem dX3_set_50 : decode cX3_set 50 = .ok (.aload_n 0, 1) := by decide +kernel
theorem dX3_set_51 : decode cX3_set 51 = .ok (.getfield 20, 3) := by decide +kernel
theorem dX3_set_54 : decode cX3_set 54 = .ok (.aload 4, 2) := by decide +kernel
theorem dX3_set_56 : decode cX3_set 56 = .ok (.iload 7, 2) := by decide +kernel
theorem dX3_set_58 : decode cX3_set 58 = .ok (.iaload, 1) := by decide +kernel
theorem dX3_set_59 : decode cX3_set 59 = .ok (.lload_n 2, 1) := by decide +kernel
theorem dX3_set_60 : decode cX3_set 60 = .ok (.iload 7, 2) := by decide +kernel
theorem dX3_set_62 : decode cX3_set 62 = .ok (.invokestatic 54, 3) := by decide +kernel
theorem dX3_set_65 : decode cX3_set 65 = .ok (.invokevirtual 134, 3) := by decide +kernel
theorem dX3_set_68 : decode cX3_set 68 = .ok (.i2l, 1) := by decide +kernel
theorem dX3_set_69 : decode cX3_set 69 = .ok (.iload 7, 2) := by decide +kernel
theorem dX3_set_71 : decode cX3_set 71 = .ok (.lshl, 1) := by decide +kernel
theorem dX3_set_72 : decode cX3_set 72 = .ok (.lor, 1) := by decide +kernel
theorem dX3_set_73 : decode cX3_set 73 = .ok (.lstore 5, 2) := by decide +kernel
theorem dX3_set_75 : decode cX3_set 75 = .ok (.iinc 7 1, 3) := by decide +kernel
theorem dX3_set_78 : decode cX3_set 78 = .ok (.goto (-38), 3) := by decide +kernel
theorem dX3_set_81 : decode cX3_set 81 = .ok (.lload 5, 2) := by decide +kernel
theorem dX3_set_83 : decode cX3_set 83 = .ok (.lreturn, 1) := by decide +kernel
theorem dX3_value_0 : decode cX3_value 0 = .ok (.aload_n 0, 1) := by decide +kernel
theorem dX3_value_1 : decode cX3_value 1 = .ok (.iload_n 1, 1) := by decide +kernel
theorem dX3_value_2 : decode cX3_value 2 = .ok (.invokevirtual 62, 3) := by decide +kernel
theorem dX3_value_5 : decode cX3_value 5 = .ok (.astore_n 2, 1) := by decide +kernel
theorem dX3_value_6 : decode cX3_value 6 = .ok (.lconst 0, 1) := by decide +kernel
theorem dX3_value_7 : decode cX3_value 7 = .ok (.lstore_n 3, 1) := by decide +kernel
theorem dX3_value_8 : decode cX3_value 8 = .ok (.iconst 0, 1) := by decide +kernel
theorem dX3_value_9 : decode cX3_value 9 = .ok (.istore 5, 2) := by decide +kernel
theorem dX3_value_11 : decode cX3_value 11 = .ok (.iload 5, 2) := by decide +kernel
theorem dX3_value_13 : decode cX3_value 13 = .ok (.aload_n 2, 1) := by decide +kernel
theorem dX3_value_14 : decode cX3_value 14 = .ok (.arraylength, 1) := by decide +kernel
theorem dX3_value_15 : decode cX3_value 15 = .ok (.if_icmp .ge 27, 3) := by decide +kernel
theorem dX3_value_18 : decode cX3_value 18 = .ok (.lload_n 3, 1) := by decide +kernel
theorem dX3_value_19 : decode cX3_value 19 = .ok (.aload_n 0, 1) := by decide +kernel
theorem dX3_value_20 : decode cX3_value 20 = .ok (.getfield 20, 3) := by decide +kernel
theorem dX3_value_23 : decode cX3_value 23 = .ok (.aload_n 2, 1) := by decide +kernel
theorem dX3_value_24 : decode cX3_value 24 = .ok (.iload 5, 2) := by decide +kernel
theorem dX3_value_26 : decode cX3_value 26 = .ok (.iaload, 1) := by decide +kernel
theorem dX3_value_27 : decode cX3_value 27 = .ok (.invokevirtual 137, 3) := by decide +kernel
theorem dX3_value_30 : decode cX3_value 30 = .ok (.i2l, 1) := by decide +kernel
theorem dX3_value_31 : decode cX3_value 31 = .ok (.iload 5, 2) := by decide +kernel
theorem dX3_value_33 : decode cX3_value 33 = .ok (.lshl, 1) := by decide +kernel
theorem dX3_value_34 : decode cX3_value 34 = .ok (.lor, 1) := by decide +kernel
theorem dX3_value_35 : decode cX3_value 35 = .ok (.lstore_n 3, 1) := by decide +kernel
theorem dX3_value_36 : decode cX3_value 36 = .ok (.iinc 5 1, 3) := by decide +kernel
theorem dX3_value_39 : decode cX3_value 39 = .ok (.goto (-28), 3) := by decide +kernel
theorem dX3_value_42 : decode cX3_value 42 = .ok (.lload_n 3, 1) := by decide +kernel
theorem dX3_value_43 : decode cX3_value 43 = .ok (.lreturn, 1) := by decide +kernel
theorem dX3_width_0 : decode cX3_width 0 = .ok (.aload_n 0, 1) := by decide +kernel
theorem dX3_width_1 : decode cX3_width 1 = .ok (.iload_n 1, 1) := by decide +kernel
theorem dX3_width_2 : decode cX3_width 2 = .ok (.invokevirtual 62, 3) := by decide +kernel
theorem dX3_width_5 : decode cX3_width 5 = .ok (.arraylength, 1) := by decide +kernel
theorem dX3_width_6 : decode cX3_width 6 = .ok (.ireturn, 1) := by decide +kernel
theorem dX3_weight_0 : decode cX3_weight 0 = .ok (.aload_n 0, 1) := by decide +kernel
theorem dX3_weight_1 : decode cX3_weight 1 = .ok (.getfield 28, 3) := by decide +kernel
theorem dX3_weight_4 : decode cX3_weight 4 = .ok (.ireturn, 1) := by decide +kernel
theorem dX3_vectors_0 : decode cX3_vectors 0 = .ok (.aload_n 0, 1) := by decide +kernel
theorem dX3_vectors_1 : decode cX3_vectors 1 = .ok (.getfield 24, 3) := by decide +kernel
theorem dX3_vectors_4 : decode cX3_vectors 4 = .ok (.invokevirtual 141, 3) := by decide +kernel
theorem dX3_vectors_7 : decode cX3_vectors 7 = .ok (.ireturn, 1) := by decide +kernel
theorem dX3_bitOf_0 : decode cX3_bitOf 0 = .ok (.lload_n 0, 1) := by decide +kernel
theorem dX3_bitOf_1 : decode cX3_bitOf 1 = .ok (.iload_n 2, 1) := by decide +kernel
theorem dX3_bitOf_2 : decode cX3_bitOf 2 = .ok (.lushr, 1) := by decide +kernel
theorem dX3_bitOf_3 : decode cX3_bitOf 3 = .ok (.lconst 1, 1) := by decide +kernel
theorem dX3_bitOf_4 : decode cX3_bitOf 4 = .ok (.land, 1) := by decide +kernel
theorem dX3_bitOf_5 : decode cX3_bitOf 5 = .ok (.l2i, 1) := by decide +kernel
theorem dX3_bitOf_6 : decode cX3_bitOf 6 = .ok (.ireturn, 1) := by decide +kernel
theorem dX3_needWidth_0 : decode cX3_needWidth 0 = .ok (.iload_n 0, 1) := by decide +kernel
theorem dX3_needWidth_1 : decode cX3_needWidth 1 = .ok (.iconst 1, 1) := by decide +kernel
theorem dX3_needWidth_2 : decode cX3_needWidth 2 = .ok (.if_icmp .lt 9, 3) := by decide +kernel
theorem dX3_needWidth_5 : decode cX3_needWidth 5 = .ok (.iload_n 0, 1) := by decide +kernel
theorem dX3_needWidth_6 : decode cX3_needWidth 6 = .ok (.bipush 64, 2) := by decide +kernel
theorem dX3_needWidth_8 : decode cX3_needWidth 8 = .ok (.if_icmp .le 13, 3) := by decide +kernel
theorem dX3_needWidth_11 : decode cX3_needWidth 11 = .ok (.new 90, 3) := by decide +kernel
theorem dX3_needWidth_14 : decode cX3_needWidth 14 = .ok (.dup, 1) := by decide +kernel
theorem dX3_needWidth_15 : decode cX3_needWidth 15 = .ok (.ldc 144, 2) := by decide +kernel
theorem dX3_needWidth_17 : decode cX3_needWidth 17 = .ok (.invokespecial 94, 3) := by decide +kernel
theorem dX3_needWidth_20 : decode cX3_needWidth 20 = .ok (.athrow, 1) := by decide +kernel
theorem dX3_needWidth_21 : decode cX3_needWidth 21 = .ok (.return_, 1) := by decide +kernel
theorem dX3_needKind_0 : decode cX3_needKind 0 = .ok (.iload_n 0, 1) := by decide +kernel
theorem dX3_needKind_1 : decode cX3_needKind 1 = .ok (.ifCond .lt 8, 3) := by decide +kernel
theorem dX3_needKind_4 : decode cX3_needKind 4 = .ok (.iload_n 0, 1) := by decide +kernel
theorem dX3_needKind_5 : decode cX3_needKind 5 = .ok (.iload_n 1, 1) := by decide +kernel
theorem dX3_needKind_6 : decode cX3_needKind 6 = .ok (.if_icmp .le 13, 3) := by decide +kernel
theorem dX3_needKind_9 : decode cX3_needKind 9 = .ok (.new 90, 3) := by decide +kernel
theorem dX3_needKind_12 : decode cX3_needKind 12 = .ok (.dup, 1) := by decide +kernel
theorem dX3_needKind_13 : decode cX3_needKind 13 = .ok (.ldc 146, 2) := by decide +kernel
theorem dX3_needKind_15 : decode cX3_needKind 15 = .ok (.invokespecial 94, 3) := by decide +kernel
theorem dX3_needKind_18 : decode cX3_needKind 18 = .ok (.athrow, 1) := by decide +kernel
theorem dX3_needKind_19 : decode cX3_needKind 19 = .ok (.return_, 1) := by decide +kernel
theorem dX3_needSameWidth_0 : decode cX3_needSameWidth 0 = .ok (.aload_n 0, 1) := by decide +kernel
theorem dX3_needSameWidth_1 : decode cX3_needSameWidth 1 = .ok (.arraylength, 1) := by decide +kernel
theorem dX3_needSameWidth_2 : decode cX3_needSameWidth 2 = .ok (.aload_n 1, 1) := by decide +kernel
theorem dX3_needSameWidth_3 : decode cX3_needSameWidth 3 = .ok (.arraylength, 1) := by decide +kernel
theorem dX3_needSameWidth_4 : decode cX3_needSameWidth 4 = .ok (.if_icmp .eq 13, 3) := by decide +kernel
theorem dX3_needSameWidth_7 : decode cX3_needSameWidth 7 = .ok (.new 90, 3) := by decide +kernel
theorem dX3_needSameWidth_10 : decode cX3_needSameWidth 10 = .ok (.dup, 1) := by decide +kernel
theorem dX3_needSameWidth_11 : decode cX3_needSameWidth 11 = .ok (.ldc 148, 2) := by decide +kernel
theorem dX3_needSameWidth_13 : decode cX3_needSameWidth 13 = .ok (.invokespecial 94, 3) := by decide +kernel
theorem dX3_needSameWidth_16 : decode cX3_needSameWidth 16 = .ok (.athrow, 1) := by decide +kernel
theorem dX3_needSameWidth_17 : decode cX3_needSameWidth 17 = .ok (.return_, 1) := by decide +kernel
theorem dX3_needRoom_0 : decode cX3_needRoom 0 = .ok (.aload_n 0, 1) := by decide +kernel
theorem dX3_needRoom_1 : decode cX3_needRoom 1 = .ok (.getfield 24, 3) := by decide +kernel
theorem dX3_needRoom_4 : decode cX3_needRoom 4 = .ok (.invokevirtual 141, 3) := by decide +kernel
theorem dX3_needRoom_7 : decode cX3_needRoom 7 = .ok (.sipush 4000, 3) := by decide +kernel
theorem dX3_needRoom_10 : decode cX3_needRoom 10 = .ok (.if_icmp .ge 14, 3) := by decide +kernel
theorem dX3_needRoom_13 : decode cX3_needRoom 13 = .ok (.iload_n 1, 1) := by decide +kernel
theorem dX3_needRoom_14 : decode cX3_needRoom 14 = .ok (.ldc 150, 2) := by decide +kernel
theorem dX3_needRoom_16 : decode cX3_needRoom 16 = .ok (.aload_n 0, 1) := by decide +kernel
theorem dX3_needRoom_17 : decode cX3_needRoom 17 = .ok (.getfield 28, 3) := by decide +kernel
theorem dX3_needRoom_20 : decode cX3_needRoom 20 = .ok (.isub, 1) := by decide +kernel
theorem dX3_needRoom_21 : decode cX3_needRoom 21 = .ok (.if_icmp .le 13, 3) := by decide +kernel
theorem dX3_needRoom_24 : decode cX3_needRoom 24 = .ok (.new 151, 3) := by decide +kernel
theorem dX3_needRoom_27 : decode cX3_needRoom 27 = .ok (.dup, 1) := by decide +kernel
theorem dX3_needRoom_28 : decode cX3_needRoom 28 = .ok (.ldc 153, 2) := by decide +kernel
theorem dX3_needRoom_30 : decode cX3_needRoom 30 = .ok (.invokespecial 155, 3) := by decide +kernel
theorem dX3_needRoom_33 : decode cX3_needRoom 33 = .ok (.athrow, 1) := by decide +kernel
theorem dX3_needRoom_34 : decode cX3_needRoom 34 = .ok (.return_, 1) := by decide +kernel
theorem dX3_bitsOf_0 : decode cX3_bitsOf 0 = .ok (.iload_n 1, 1) := by decide +kernel
theorem dX3_bitsOf_1 : decode cX3_bitsOf 1 = .ok (.ifCond .lt 14, 3) := by decide +kernel
theorem dX3_bitsOf_4 : decode cX3_bitsOf 4 = .ok (.iload_n 1, 1) := by decide +kernel
theorem dX3_bitsOf_5 : decode cX3_bitsOf 5 = .ok (.aload_n 0, 1) := by decide +kernel
theorem dX3_bitsOf_6 : decode cX3_bitsOf 6 = .ok (.getfield 24, 3) := by decide +kernel
theorem dX3_bitsOf_9 : decode cX3_bitsOf 9 = .ok (.invokevirtual 141, 3) := by decide +kernel
theorem dX3_bitsOf_12 : decode cX3_bitsOf 12 = .ok (.if_icmp .lt 13, 3) := by decide +kernel
theorem dX3_bitsOf_15 : decode cX3_bitsOf 15 = .ok (.new 90, 3) := by decide +kernel
theorem dX3_bitsOf_18 : decode cX3_bitsOf 18 = .ok (.dup, 1) := by decide +kernel
theorem dX3_bitsOf_19 : decode cX3_bitsOf 19 = .ok (.ldc 156, 2) := by decide +kernel
theorem dX3_bitsOf_21 : decode cX3_bitsOf 21 = .ok (.invokespecial 94, 3) := by decide +kernel
theorem dX3_bitsOf_24 : decode cX3_bitsOf 24 = .ok (.athrow, 1) := by decide +kernel
theorem dX3_bitsOf_25 : decode cX3_bitsOf 25 = .ok (.aload_n 0, 1) := by decide +kernel
theorem dX3_bitsOf_26 : decode cX3_bitsOf 26 = .ok (.getfield 24, 3) := by decide +kernel
theorem dX3_bitsOf_29 : decode cX3_bitsOf 29 = .ok (.iload_n 1, 1) := by decide +kernel
theorem dX3_bitsOf_30 : decode cX3_bitsOf 30 = .ok (.invokevirtual 124, 3) := by decide +kernel
theorem dX3_bitsOf_33 : decode cX3_bitsOf 33 = .ok (.checkcast 45, 3) := by decide +kernel
theorem dX3_bitsOf_36 : decode cX3_bitsOf 36 = .ok (.getfield 158, 3) := by decide +kernel
theorem dX3_bitsOf_39 : decode cX3_bitsOf 39 = .ok (.areturn, 1) := by decide +kernel
theorem dX3_keep_0 : decode cX3_keep 0 = .ok (.aload_n 0, 1) := by decide +kernel
theorem dX3_keep_1 : decode cX3_keep 1 = .ok (.getfield 24, 3) := by decide +kernel
theorem dX3_keep_4 : decode cX3_keep 4 = .ok (.aload_n 1, 1) := by decide +kernel
theorem dX3_keep_5 : decode cX3_keep 5 = .ok (.invokevirtual 162, 3) := by decide +kernel
theorem dX3_keep_8 : decode cX3_keep 8 = .ok (.pop, 1) := by decide +kernel
theorem dX3_keep_9 : decode cX3_keep 9 = .ok (.aload_n 0, 1) := by decide +kernel
theorem dX3_keep_10 : decode cX3_keep 10 = .ok (.dup, 1) := by decide +kernel
theorem dX3_keep_11 : decode cX3_keep 11 = .ok (.getfield 28, 3) := by decide +kernel
theorem dX3_keep_14 : decode cX3_keep 14 = .ok (.iload_n 2, 1) := by decide +kernel
theorem dX3_keep_15 : decode cX3_keep 15 = .ok (.iadd, 1) := by decide +kernel
theorem dX3_keep_16 : decode cX3_keep 16 = .ok (.putfield 28, 3) := by decide +kernel
theorem dX3_keep_19 : decode cX3_keep 19 = .ok (.aload_n 0, 1) := by decide +kernel
theorem dX3_keep_20 : decode cX3_keep 20 = .ok (.getfield 24, 3) := by decide +kernel
theorem dX3_keep_23 : decode cX3_keep 23 = .ok (.invokevirtual 141, 3) := by decide +kernel
theorem dX3_keep_26 : decode cX3_keep 26 = .ok (.iconst 1, 1) := by decide +kernel
theorem dX3_keep_27 : decode cX3_keep 27 = .ok (.isub, 1) := by decide +kernel
theorem dX3_keep_28 : decode cX3_keep 28 = .ok (.ireturn, 1) := by decide +kernel
theorem dX3_weightOfTwo_0 : decode cX3_weightOfTwo 0 = .ok (.iload_n 0, 1) := by decide +kernel
theorem dX3_weightOfTwo_1 : decode cX3_weightOfTwo 1 = .ok (.tableswitch 95 0 9 #[55, 55, 55, 59, 59, 64, 71, 71, 83, 83], 55) := by decide +kernel
theorem dX3_weightOfTwo_56 : decode cX3_weightOfTwo 56 = .ok (.iconst 4, 1) := by decide +kernel
theorem dX3_weightOfTwo_57 : decode cX3_weightOfTwo 57 = .ok (.iload_n 1, 1) := by decide +kernel
theorem dX3_weightOfTwo_58 : decode cX3_weightOfTwo 58 = .ok (.imul, 1) := by decide +kernel
theorem dX3_weightOfTwo_59 : decode cX3_weightOfTwo 59 = .ok (.ireturn, 1) := by decide +kernel
theorem dX3_weightOfTwo_60 : decode cX3_weightOfTwo 60 = .ok (.bipush 10, 2) := by decide +kernel
theorem dX3_weightOfTwo_62 : decode cX3_weightOfTwo 62 = .ok (.iload_n 1, 1) := by decide +kernel
theorem dX3_weightOfTwo_63 : decode cX3_weightOfTwo 63 = .ok (.imul, 1) := by decide +kernel
theorem dX3_weightOfTwo_64 : decode cX3_weightOfTwo 64 = .ok (.ireturn, 1) := by decide +kernel
theorem dX3_weightOfTwo_65 : decode cX3_weightOfTwo 65 = .ok (.bipush 14, 2) := by decide +kernel
theorem dX3_weightOfTwo_67 : decode cX3_weightOfTwo 67 = .ok (.iload_n 1, 1) := by decide +kernel
theorem dX3_weightOfTwo_68 : decode cX3_weightOfTwo 68 = .ok (.imul, 1) := by decide +kernel
theorem dX3_weightOfTwo_69 : decode cX3_weightOfTwo 69 = .ok (.iload_n 1, 1) := by decide +kernel
theorem dX3_weightOfTwo_70 : decode cX3_weightOfTwo 70 = .ok (.imul, 1) := by decide +kernel
theorem dX3_weightOfTwo_71 : decode cX3_weightOfTwo 71 = .ok (.ireturn, 1) := by decide +kernel
theorem dX3_weightOfTwo_72 : decode cX3_weightOfTwo 72 = .ok (.bipush 16, 2) := by decide +kernel
theorem dX3_weightOfTwo_74 : decode cX3_weightOfTwo 74 = .ok (.iload_n 1, 1) := by decide +kernel
theorem dX3_weightOfTwo_75 : decode cX3_weightOfTwo 75 = .ok (.imul, 1) := by decide +kernel
theorem dX3_weightOfTwo_76 : decode cX3_weightOfTwo 76 = .ok (.iload_n 1, 1) := by decide +kernel
theorem dX3_weightOfTwo_77 : decode cX3_weightOfTwo 77 = .ok (.imul, 1) := by decide +kernel
theorem dX3_weightOfTwo_78 : decode cX3_weightOfTwo 78 = .ok (.bipush 32, 2) := by decide +kernel
theorem dX3_weightOfTwo_80 : decode cX3_weightOfTwo 80 = .ok (.iload_n 1, 1) := by decide +kernel
theorem dX3_weightOfTwo_81 : decode cX3_weightOfTwo 81 = .ok (.imul, 1) := by decide +kernel
theorem dX3_weightOfTwo_82 : decode cX3_weightOfTwo 82 = .ok (.iadd, 1) := by decide +kernel
theorem dX3_weightOfTwo_83 : decode cX3_weightOfTwo 83 = .ok (.ireturn, 1) := by decide +kernel
theorem dX3_weightOfTwo_84 : decode cX3_weightOfTwo 84 = .ok (.bipush 16, 2) := by decide +kernel
theorem dX3_weightOfTwo_86 : decode cX3_weightOfTwo 86 = .ok (.iload_n 1, 1) := by decide +kernel
theorem dX3_weightOfTwo_87 : decode cX3_weightOfTwo 87 = .ok (.imul, 1) := by decide +kernel
theorem dX3_weightOfTwo_88 : decode cX3_weightOfTwo 88 = .ok (.iload_n 1, 1) := by decide +kernel
theorem dX3_weightOfTwo_89 : decode cX3_weightOfTwo 89 = .ok (.imul, 1) := by decide +kernel
theorem dX3_weightOfTwo_90 : decode cX3_weightOfTwo 90 = .ok (.bipush 80, 2) := by decide +kernel
theorem dX3_weightOfTwo_92 : decode cX3_weightOfTwo 92 = .ok (.iload_n 1, 1) := by decide +kernel
theorem dX3_weightOfTwo_93 : decode cX3_weightOfTwo 93 = .ok (.imul, 1) := by decide +kernel
theorem dX3_weightOfTwo_94 : decode cX3_weightOfTwo 94 = .ok (.iadd, 1) := by decide +kernel
theorem dX3_weightOfTwo_95 : decode cX3_weightOfTwo 95 = .ok (.ireturn, 1) := by decide +kernel
theorem dX3_weightOfTwo_96 : decode cX3_weightOfTwo 96 = .ok (.bipush 30, 2) := by decide +kernel
theorem dX3_weightOfTwo_98 : decode cX3_weightOfTwo 98 = .ok (.iload_n 1, 1) := by decide +kernel
theorem dX3_weightOfTwo_99 : decode cX3_weightOfTwo 99 = .ok (.imul, 1) := by decide +kernel
theorem dX3_weightOfTwo_100 : decode cX3_weightOfTwo 100 = .ok (.ireturn, 1) := by decide +kernel
theorem dX3_reckonTwo_0 : decode cX3_reckonTwo 0 = .ok (.iload_n 1, 1) := by decide +kernel
theorem dX3_reckonTwo_1 : decode cX3_reckonTwo 1 = .ok (.tableswitch 207 0 11 #[63, 74, 85, 96, 110, 131, 141, 141, 162, 162, 183, 195], 63) := by decide +kernel
theorem dX3_reckonTwo_64 : decode cX3_reckonTwo 64 = .ok (.aload_n 0, 1) := by decide +kernel
theorem dX3_reckonTwo_65 : decode cX3_reckonTwo 65 = .ok (.getfield 10, 3) := by decide +kernel
theorem dX3_reckonTwo_68 : decode cX3_reckonTwo 68 = .ok (.iconst 1, 1) := by decide +kernel
theorem dX3_reckonTwo_69 : decode cX3_reckonTwo 69 = .ok (.aload_n 2, 1) := by decide +kernel
theorem dX3_reckonTwo_70 : decode cX3_reckonTwo 70 = .ok (.aload_n 3, 1) := by decide +kernel
theorem dX3_reckonTwo_71 : decode cX3_reckonTwo 71 = .ok (.invokevirtual 166, 3) := by decide +kernel
theorem dX3_reckonTwo_74 : decode cX3_reckonTwo 74 = .ok (.areturn, 1) := by decide +kernel
theorem dX3_reckonTwo_75 : decode cX3_reckonTwo 75 = .ok (.aload_n 0, 1) := by decide +kernel
theorem dX3_reckonTwo_76 : decode cX3_reckonTwo 76 = .ok (.getfield 10, 3) := by decide +kernel
theorem dX3_reckonTwo_79 : decode cX3_reckonTwo 79 = .ok (.iconst 2, 1) := by decide +kernel
theorem dX3_reckonTwo_80 : decode cX3_reckonTwo 80 = .ok (.aload_n 2, 1) := by decide +kernel
theorem dX3_reckonTwo_81 : decode cX3_reckonTwo 81 = .ok (.aload_n 3, 1) := by decide +kernel
theorem dX3_reckonTwo_82 : decode cX3_reckonTwo 82 = .ok (.invokevirtual 166, 3) := by decide +kernel
theorem dX3_reckonTwo_85 : decode cX3_reckonTwo 85 = .ok (.areturn, 1) := by decide +kernel
theorem dX3_reckonTwo_86 : decode cX3_reckonTwo 86 = .ok (.aload_n 0, 1) := by decide +kernel
theorem dX3_reckonTwo_87 : decode cX3_reckonTwo 87 = .ok (.getfield 10, 3) := by decide +kernel
theorem dX3_reckonTwo_90 : decode cX3_reckonTwo 90 = .ok (.iconst 3, 1) := by decide +kernel
theorem dX3_reckonTwo_91 : decode cX3_reckonTwo 91 = .ok (.aload_n 2, 1) := by decide +kernel
theorem dX3_reckonTwo_92 : decode cX3_reckonTwo 92 = .ok (.aload_n 3, 1) := by decide +kernel
theorem dX3_reckonTwo_93 : decode cX3_reckonTwo 93 = .ok (.invokevirtual 166, 3) := by decide +kernel
theorem dX3_reckonTwo_96 : decode cX3_reckonTwo 96 = .ok (.areturn, 1) := by decide +kernel
theorem dX3_reckonTwo_97 : decode cX3_reckonTwo 97 = .ok (.aload_n 0, 1) := by decide +kernel
theorem dX3_reckonTwo_98 : decode cX3_reckonTwo 98 = .ok (.getfield 10, 3) := by decide +kernel
theorem dX3_reckonTwo_101 : decode cX3_reckonTwo 101 = .ok (.aload_n 2, 1) := by decide +kernel
theorem dX3_reckonTwo_102 : decode cX3_reckonTwo 102 = .ok (.aload_n 3, 1) := by decide +kernel
theorem dX3_reckonTwo_103 : decode cX3_reckonTwo 103 = .ok (.iconst 0, 1) := by decide +kernel
theorem dX3_reckonTwo_104 : decode cX3_reckonTwo 104 = .ok (.invokevirtual 169, 3) := by decide +kernel
theorem dX3_reckonTwo_107 : decode cX3_reckonTwo 107 = .ok (.invokestatic 173, 3) := by decide +kernel
theorem dX3_reckonTwo_110 : decode cX3_reckonTwo 110 = .ok (.areturn, 1) := by decide +kernel
theorem dX3_reckonTwo_111 : decode cX3_reckonTwo 111 = .ok (.aload_n 0, 1) := by decide +kernel
theorem dX3_reckonTwo_112 : decode cX3_reckonTwo 112 = .ok (.getfield 10, 3) := by decide +kernel
theorem dX3_reckonTwo_115 : decode cX3_reckonTwo 115 = .ok (.aload_n 2, 1) := by decide +kernel
theorem dX3_reckonTwo_116 : decode cX3_reckonTwo 116 = .ok (.aload_n 0, 1) := by decide +kernel
theorem dX3_reckonTwo_117 : decode cX3_reckonTwo 117 = .ok (.getfield 10, 3) := by decide +kernel
theorem dX3_reckonTwo_120 : decode cX3_reckonTwo 120 = .ok (.aload_n 3, 1) := by decide +kernel
theorem dX3_reckonTwo_121 : decode cX3_reckonTwo 121 = .ok (.invokevirtual 66, 3) := by decide +kernel
theorem dX3_reckonTwo_124 : decode cX3_reckonTwo 124 = .ok (.iconst 1, 1) := by decide +kernel
theorem dX3_reckonTwo_125 : decode cX3_reckonTwo 125 = .ok (.invokevirtual 169, 3) := by decide +kernel
theorem dX3_reckonTwo_128 : decode cX3_reckonTwo 128 = .ok (.invokestatic 173, 3) := by decide +kernel
theorem dX3_reckonTwo_131 : decode cX3_reckonTwo 131 = .ok (.areturn, 1) := by decide +kernel
theorem dX3_reckonTwo_132 : decode cX3_reckonTwo 132 = .ok (.aload_n 0, 1) := by decide +kernel
theorem dX3_reckonTwo_133 : decode cX3_reckonTwo 133 = .ok (.getfield 10, 3) := by decide +kernel
theorem dX3_reckonTwo_136 : decode cX3_reckonTwo 136 = .ok (.aload_n 2, 1) := by decide +kernel
theorem dX3_reckonTwo_137 : decode cX3_reckonTwo 137 = .ok (.aload_n 3, 1) := by decide +kernel
theorem dX3_reckonTwo_138 : decode cX3_reckonTwo 138 = .ok (.invokevirtual 176, 3) := by decide +kernel
theorem dX3_reckonTwo_141 : decode cX3_reckonTwo 141 = .ok (.areturn, 1) := by decide +kernel
theorem dX3_reckonTwo_142 : decode cX3_reckonTwo 142 = .ok (.aload_n 0, 1) := by decide +kernel
theorem dX3_reckonTwo_143 : decode cX3_reckonTwo 143 = .ok (.getfield 10, 3) := by decide +kernel
theorem dX3_reckonTwo_146 : decode cX3_reckonTwo 146 = .ok (.aload_n 2, 1) := by decide +kernel
theorem dX3_reckonTwo_147 : decode cX3_reckonTwo 147 = .ok (.aload_n 3, 1) := by decide +kernel
theorem dX3_reckonTwo_148 : decode cX3_reckonTwo 148 = .ok (.iload_n 1, 1) := by decide +kernel
theorem dX3_reckonTwo_149 : decode cX3_reckonTwo 149 = .ok (.bipush 7, 2) := by decide +kernel
theorem dX3_reckonTwo_151 : decode cX3_reckonTwo 151 = .ok (.if_icmp .ne 7, 3) := by decide +kernel
theorem dX3_reckonTwo_154 : decode cX3_reckonTwo 154 = .ok (.iconst 1, 1) := by decide +kernel
theorem dX3_reckonTwo_155 : decode cX3_reckonTwo 155 = .ok (.goto 4, 3) := by decide +kernel
theorem dX3_reckonTwo_158 : decode cX3_reckonTwo 158 = .ok (.iconst 0, 1) := by decide +kernel
theorem dX3_reckonTwo_159 : decode cX3_reckonTwo 159 = .ok (.invokevirtual 180, 3) := by decide +kernel
theorem dX3_reckonTwo_162 : decode cX3_reckonTwo 162 = .ok (.areturn, 1) := by decide +kernel
theorem dX3_reckonTwo_163 : decode cX3_reckonTwo 163 = .ok (.aload_n 0, 1) := by decide +kernel
theorem dX3_reckonTwo_164 : decode cX3_reckonTwo 164 = .ok (.getfield 10, 3) := by decide +kernel
theorem dX3_reckonTwo_167 : decode cX3_reckonTwo 167 = .ok (.aload_n 2, 1) := by decide +kernel
theorem dX3_reckonTwo_168 : decode cX3_reckonTwo 168 = .ok (.aload_n 3, 1) := by decide +kernel
theorem dX3_reckonTwo_169 : decode cX3_reckonTwo 169 = .ok (.iload_n 1, 1) := by decide +kernel
theorem dX3_reckonTwo_170 : decode cX3_reckonTwo 170 = .ok (.bipush 9, 2) := by decide +kernel
theorem dX3_reckonTwo_172 : decode cX3_reckonTwo 172 = .ok (.if_icmp .ne 7, 3) := by decide +kernel
theorem dX3_reckonTwo_175 : decode cX3_reckonTwo 175 = .ok (.iconst 1, 1) := by decide +kernel
theorem dX3_reckonTwo_176 : decode cX3_reckonTwo 176 = .ok (.goto 4, 3) := by decide +kernel
theorem dX3_reckonTwo_179 : decode cX3_reckonTwo 179 = .ok (.iconst 0, 1) := by decide +kernel
theorem dX3_reckonTwo_180 : decode cX3_reckonTwo 180 = .ok (.invokevirtual 184, 3) := by decide +kernel
theorem dX3_reckonTwo_183 : decode cX3_reckonTwo 183 = .ok (.areturn, 1) := by decide +kernel
theorem dX3_reckonTwo_184 : decode cX3_reckonTwo 184 = .ok (.aload_n 0, 1) := by decide +kernel
theorem dX3_reckonTwo_185 : decode cX3_reckonTwo 185 = .ok (.getfield 10, 3) := by decide +kernel
theorem dX3_reckonTwo_188 : decode cX3_reckonTwo 188 = .ok (.aload_n 2, 1) := by decide +kernel
theorem dX3_reckonTwo_189 : decode cX3_reckonTwo 189 = .ok (.aload_n 3, 1) := by decide +kernel
theorem dX3_reckonTwo_190 : decode cX3_reckonTwo 190 = .ok (.iconst 1, 1) := by decide +kernel
theorem dX3_reckonTwo_191 : decode cX3_reckonTwo 191 = .ok (.iconst 0, 1) := by decide +kernel
theorem dX3_reckonTwo_192 : decode cX3_reckonTwo 192 = .ok (.invokevirtual 187, 3) := by decide +kernel
theorem dX3_reckonTwo_195 : decode cX3_reckonTwo 195 = .ok (.areturn, 1) := by decide +kernel
theorem dX3_reckonTwo_196 : decode cX3_reckonTwo 196 = .ok (.aload_n 0, 1) := by decide +kernel
theorem dX3_reckonTwo_197 : decode cX3_reckonTwo 197 = .ok (.getfield 10, 3) := by decide +kernel
theorem dX3_reckonTwo_200 : decode cX3_reckonTwo 200 = .ok (.aload_n 2, 1) := by decide +kernel
theorem dX3_reckonTwo_201 : decode cX3_reckonTwo 201 = .ok (.aload_n 3, 1) := by decide +kernel
theorem dX3_reckonTwo_202 : decode cX3_reckonTwo 202 = .ok (.iconst 0, 1) := by decide +kernel
theorem dX3_reckonTwo_203 : decode cX3_reckonTwo 203 = .ok (.iconst 0, 1) := by decide +kernel
theorem dX3_reckonTwo_204 : decode cX3_reckonTwo 204 = .ok (.invokevirtual 187, 3) := by decide +kernel
theorem dX3_reckonTwo_207 : decode cX3_reckonTwo 207 = .ok (.areturn, 1) := by decide +kernel
theorem dX3_reckonTwo_208 : decode cX3_reckonTwo 208 = .ok (.aload_n 0, 1) := by decide +kernel
theorem dX3_reckonTwo_209 : decode cX3_reckonTwo 209 = .ok (.getfield 10, 3) := by decide +kernel
theorem dX3_reckonTwo_212 : decode cX3_reckonTwo 212 = .ok (.aload_n 2, 1) := by decide +kernel
theorem dX3_reckonTwo_213 : decode cX3_reckonTwo 213 = .ok (.aload_n 3, 1) := by decide +kernel
theorem dX3_reckonTwo_214 : decode cX3_reckonTwo 214 = .ok (.iconst 0, 1) := by decide +kernel
theorem dX3_reckonTwo_215 : decode cX3_reckonTwo 215 = .ok (.aload_n 2, 1) := by decide +kernel
theorem dX3_reckonTwo_216 : decode cX3_reckonTwo 216 = .ok (.aload_n 2, 1) := by decide +kernel
theorem dX3_reckonTwo_217 : decode cX3_reckonTwo 217 = .ok (.arraylength, 1) := by decide +kernel
theorem dX3_reckonTwo_218 : decode cX3_reckonTwo 218 = .ok (.iconst 1, 1) := by decide +kernel
theorem dX3_reckonTwo_219 : decode cX3_reckonTwo 219 = .ok (.isub, 1) := by decide +kernel
theorem dX3_reckonTwo_220 : decode cX3_reckonTwo 220 = .ok (.iaload, 1) := by decide +kernel
theorem dX3_reckonTwo_221 : decode cX3_reckonTwo 221 = .ok (.invokevirtual 187, 3) := by decide +kernel
theorem dX3_reckonTwo_224 : decode cX3_reckonTwo 224 = .ok (.areturn, 1) := by decide +kernel
theorem dX3_reckonComparison_0 : decode cX3_reckonComparison 0 = .ok (.iload_n 1, 1) := by decide +kernel
theorem dX3_reckonComparison_1 : decode cX3_reckonComparison 1 = .ok (.tableswitch 99 0 3 #[31, 41, 58, 68], 31) := by decide +kernel
theorem dX3_reckonComparison_32 : decode cX3_reckonComparison 32 = .ok (.aload_n 0, 1) := by decide +kernel
theorem dX3_reckonComparison_33 : decode cX3_reckonComparison 33 = .ok (.getfield 10, 3) := by decide +kernel
theorem dX3_reckonComparison_36 : decode cX3_reckonComparison 36 = .ok (.aload_n 2, 1) := by decide +kernel
theorem dX3_reckonComparison_37 : decode cX3_reckonComparison 37 = .ok (.aload_n 3, 1) := by decide +kernel
theorem dX3_reckonComparison_38 : decode cX3_reckonComparison 38 = .ok (.invokevirtual 191, 3) := by decide +kernel
theorem dX3_reckonComparison_41 : decode cX3_reckonComparison 41 = .ok (.ireturn, 1) := by decide +kernel
theorem dX3_reckonComparison_42 : decode cX3_reckonComparison 42 = .ok (.aload_n 0, 1) := by decide +kernel
theorem dX3_reckonComparison_43 : decode cX3_reckonComparison 43 = .ok (.getfield 20, 3) := by decide +kernel
theorem dX3_reckonComparison_46 : decode cX3_reckonComparison 46 = .ok (.aload_n 0, 1) := by decide +kernel
theorem dX3_reckonComparison_47 : decode cX3_reckonComparison 47 = .ok (.getfield 10, 3) := by decide +kernel
theorem dX3_reckonComparison_50 : decode cX3_reckonComparison 50 = .ok (.aload_n 2, 1) := by decide +kernel
theorem dX3_reckonComparison_51 : decode cX3_reckonComparison 51 = .ok (.aload_n 3, 1) := by decide +kernel
theorem dX3_reckonComparison_52 : decode cX3_reckonComparison 52 = .ok (.invokevirtual 195, 3) := by decide +kernel
theorem dX3_reckonComparison_55 : decode cX3_reckonComparison 55 = .ok (.invokevirtual 198, 3) := by decide +kernel
theorem dX3_reckonComparison_58 : decode cX3_reckonComparison 58 = .ok (.ireturn, 1) := by decide +kernel
theorem dX3_reckonComparison_59 : decode cX3_reckonComparison 59 = .ok (.aload_n 0, 1) := by decide +kernel
theorem dX3_reckonComparison_60 : decode cX3_reckonComparison 60 = .ok (.getfield 10, 3) := by decide +kernel
theorem dX3_reckonComparison_63 : decode cX3_reckonComparison 63 = .ok (.aload_n 3, 1) := by decide +kernel
theorem dX3_reckonComparison_64 : decode cX3_reckonComparison 64 = .ok (.aload_n 2, 1) := by decide +kernel
theorem dX3_reckonComparison_65 : decode cX3_reckonComparison 65 = .ok (.invokevirtual 195, 3) := by decide +kernel
theorem dX3_reckonComparison_68 : decode cX3_reckonComparison 68 = .ok (.ireturn, 1) := by decide +kernel
theorem dX3_reckonComparison_69 : decode cX3_reckonComparison 69 = .ok (.aload_n 0, 1) := by decide +kernel
theorem dX3_reckonComparison_70 : decode cX3_reckonComparison 70 = .ok (.getfield 20, 3) := by decide +kernel
theorem dX3_reckonComparison_73 : decode cX3_reckonComparison 73 = .ok (.aload_n 0, 1) := by decide +kernel
theorem dX3_reckonComparison_74 : decode cX3_reckonComparison 74 = .ok (.getfield 10, 3) := by decide +kernel
theorem dX3_reckonComparison_77 : decode cX3_reckonComparison 77 = .ok (.aload_n 0, 1) := by decide +kernel
theorem dX3_reckonComparison_78 : decode cX3_reckonComparison 78 = .ok (.getfield 10, 3) := by decide +kernel
theorem dX3_reckonComparison_81 : decode cX3_reckonComparison 81 = .ok (.aload_n 2, 1) := by decide +kernel
theorem dX3_reckonComparison_82 : decode cX3_reckonComparison 82 = .ok (.invokevirtual 201, 3) := by decide +kernel
theorem dX3_reckonComparison_85 : decode cX3_reckonComparison 85 = .ok (.aload_n 0, 1) := by decide +kernel
theorem dX3_reckonComparison_86 : decode cX3_reckonComparison 86 = .ok (.getfield 10, 3) := by decide +kernel
theorem dX3_reckonComparison_89 : decode cX3_reckonComparison 89 = .ok (.aload_n 3, 1) := by decide +kernel
theorem dX3_reckonComparison_90 : decode cX3_reckonComparison 90 = .ok (.invokevirtual 201, 3) := by decide +kernel
theorem dX3_reckonComparison_93 : decode cX3_reckonComparison 93 = .ok (.invokevirtual 195, 3) := by decide +kernel
theorem dX3_reckonComparison_96 : decode cX3_reckonComparison 96 = .ok (.invokevirtual 198, 3) := by decide +kernel
theorem dX3_reckonComparison_99 : decode cX3_reckonComparison 99 = .ok (.ireturn, 1) := by decide +kernel
theorem dX3_reckonComparison_100 : decode cX3_reckonComparison 100 = .ok (.aload_n 0, 1) := by decide +kernel
theorem dX3_reckonComparison_101 : decode cX3_reckonComparison 101 = .ok (.getfield 10, 3) := by decide +kernel
theorem dX3_reckonComparison_104 : decode cX3_reckonComparison 104 = .ok (.aload_n 0, 1) := by decide +kernel
theorem dX3_reckonComparison_105 : decode cX3_reckonComparison 105 = .ok (.getfield 10, 3) := by decide +kernel
theorem dX3_reckonComparison_108 : decode cX3_reckonComparison 108 = .ok (.aload_n 3, 1) := by decide +kernel
theorem dX3_reckonComparison_109 : decode cX3_reckonComparison 109 = .ok (.invokevirtual 201, 3) := by decide +kernel
theorem dX3_reckonComparison_112 : decode cX3_reckonComparison 112 = .ok (.aload_n 0, 1) := by decide +kernel
theorem dX3_reckonComparison_113 : decode cX3_reckonComparison 113 = .ok (.getfield 10, 3) := by decide +kernel
theorem dX3_reckonComparison_116 : decode cX3_reckonComparison 116 = .ok (.aload_n 2, 1) := by decide +kernel
theorem dX3_reckonComparison_117 : decode cX3_reckonComparison 117 = .ok (.invokevirtual 201, 3) := by decide +kernel
theorem dX3_reckonComparison_120 : decode cX3_reckonComparison 120 = .ok (.invokevirtual 195, 3) := by decide +kernel
theorem dX3_reckonComparison_123 : decode cX3_reckonComparison 123 = .ok (.ireturn, 1) := by decide +kernel
end
section
theorem dX4_init_0 : decode cX4_init 0 = .ok (.aload_n 0, 1) := by decide +kernel
theorem dX4_init_1 : decode cX4_init 1 = .ok (.invokespecial 1, 3) := by decide +kernel
theorem dX4_init_4 : decode cX4_init 4 = .ok (.aload_n 0, 1) := by decide +kernel
theorem dX4_init_5 : decode cX4_init 5 = .ok (.sipush 4000, 3) := by decide +kernel
theorem dX4_init_8 : decode cX4_init 8 = .ok (.newarray .byte, 2) := by decide +kernel
theorem dX4_init_10 : decode cX4_init 10 = .ok (.putfield 7, 3) := by decide +kernel
theorem dX4_init_13 : decode cX4_init 13 = .ok (.aload_n 0, 1) := by decide +kernel
theorem dX4_init_14 : decode cX4_init 14 = .ok (.sipush 4000, 3) := by decide +kernel
theorem dX4_init_17 : decode cX4_init 17 = .ok (.newarray .int, 2) := by decide +kernel
theorem dX4_init_19 : decode cX4_init 19 = .ok (.putfield 13, 3) := by decide +kernel
theorem dX4_init_22 : decode cX4_init 22 = .ok (.aload_n 0, 1) := by decide +kernel
theorem dX4_init_23 : decode cX4_init 23 = .ok (.sipush 4000, 3) := by decide +kernel
theorem dX4_init_26 : decode cX4_init 26 = .ok (.newarray .int, 2) := by decide +kernel
theorem dX4_init_28 : decode cX4_init 28 = .ok (.putfield 17, 3) := by decide +kernel
theorem dX4_init_31 : decode cX4_init 31 = .ok (.aload_n 0, 1) := by decide +kernel
theorem dX4_init_32 : decode cX4_init 32 = .ok (.sipush 4000, 3) := by decide +kernel
theorem dX4_init_35 : decode cX4_init 35 = .ok (.newarray .int, 2) := by decide +kernel
theorem dX4_init_37 : decode cX4_init 37 = .ok (.putfield 20, 3) := by decide +kernel
theorem dX4_init_40 : decode cX4_init 40 = .ok (.aload_n 0, 1) := by decide +kernel
theorem dX4_init_41 : decode cX4_init 41 = .ok (.sipush 4000, 3) := by decide +kernel
theorem dX4_init_44 : decode cX4_init 44 = .ok (.newarray .int, 2) := by decide +kernel
theorem dX4_init_46 : decode cX4_init 46 = .ok (.putfield 23, 3) := by decide +kernel
theorem dX4_init_49 : decode cX4_init 49 = .ok (.aload_n 0, 1) := by decide +kernel
theorem dX4_init_50 : decode cX4_init 50 = .ok (.sipush 4000, 3) := by decide +kernel
theorem dX4_init_53 : decode cX4_init 53 = .ok (.newarray .long, 2) := by decide +kernel
theorem dX4_init_55 : decode cX4_init 55 = .ok (.putfield 26, 3) := by decide +kernel
theorem dX4_init_58 : decode cX4_init 58 = .ok (.return_, 1) := by decide +kernel
theorem dX4_thrown_0 : decode cX4_thrown 0 = .ok (.aload_n 0, 1) := by decide +kernel
theorem dX4_thrown_1 : decode cX4_thrown 1 = .ok (.getfield 30, 3) := by decide +kernel
theorem dX4_thrown_4 : decode cX4_thrown 4 = .ok (.ireturn, 1) := by decide +kernel
theorem dX4_is_0 : decode cX4_is 0 = .ok (.iload_n 1, 1) := by decide +kernel
theorem dX4_is_1 : decode cX4_is 1 = .ok (.ifCond .lt 15, 3) := by decide +kernel
theorem dX4_is_4 : decode cX4_is 4 = .ok (.iload_n 1, 1) := by decide +kernel
theorem dX4_is_5 : decode cX4_is 5 = .ok (.aload_n 0, 1) := by decide +kernel
theorem dX4_is_6 : decode cX4_is 6 = .ok (.getfield 34, 3) := by decide +kernel
theorem dX4_is_9 : decode cX4_is 9 = .ok (.if_icmp .ge 7, 3) := by decide +kernel
theorem dX4_is_12 : decode cX4_is 12 = .ok (.iconst 1, 1) := by decide +kernel
theorem dX4_is_13 : decode cX4_is 13 = .ok (.goto 4, 3) := by decide +kernel
theorem dX4_is_16 : decode cX4_is 16 = .ok (.iconst 0, 1) := by decide +kernel
theorem dX4_is_17 : decode cX4_is 17 = .ok (.ireturn, 1) := by decide +kernel
theorem dX4_areAlike_0 : decode cX4_areAlike 0 = .ok (.aload_n 0, 1) := by decide +kernel
theorem dX4_areAlike_1 : decode cX4_areAlike 1 = .ok (.iload_n 1, 1) := by decide +kernel
theorem dX4_areAlike_2 : decode cX4_areAlike 2 = .ok (.invokevirtual 37, 3) := by decide +kernel
theorem dX4_areAlike_5 : decode cX4_areAlike 5 = .ok (.ifCond .eq 30, 3) := by decide +kernel
theorem dX4_areAlike_8 : decode cX4_areAlike 8 = .ok (.aload_n 0, 1) := by decide +kernel
theorem dX4_areAlike_9 : decode cX4_areAlike 9 = .ok (.iload_n 2, 1) := by decide +kernel
theorem dX4_areAlike_10 : decode cX4_areAlike 10 = .ok (.invokevirtual 37, 3) := by decide +kernel
theorem dX4_areAlike_13 : decode cX4_areAlike 13 = .ok (.ifCond .eq 22, 3) := by decide +kernel
theorem dX4_areAlike_16 : decode cX4_areAlike 16 = .ok (.aload_n 0, 1) := by decide +kernel
theorem dX4_areAlike_17 : decode cX4_areAlike 17 = .ok (.getfield 23, 3) := by decide +kernel
theorem dX4_areAlike_20 : decode cX4_areAlike 20 = .ok (.iload_n 1, 1) := by decide +kernel
theorem dX4_areAlike_21 : decode cX4_areAlike 21 = .ok (.iaload, 1) := by decide +kernel
theorem dX4_areAlike_22 : decode cX4_areAlike 22 = .ok (.aload_n 0, 1) := by decide +kernel
theorem dX4_areAlike_23 : decode cX4_areAlike 23 = .ok (.getfield 23, 3) := by decide +kernel
theorem dX4_areAlike_26 : decode cX4_areAlike 26 = .ok (.iload_n 2, 1) := by decide +kernel
theorem dX4_areAlike_27 : decode cX4_areAlike 27 = .ok (.iaload, 1) := by decide +kernel
theorem dX4_areAlike_28 : decode cX4_areAlike 28 = .ok (.if_icmp .ne 7, 3) := by decide +kernel
theorem dX4_areAlike_31 : decode cX4_areAlike 31 = .ok (.iconst 1, 1) := by decide +kernel
theorem dX4_areAlike_32 : decode cX4_areAlike 32 = .ok (.goto 4, 3) := by decide +kernel
theorem dX4_areAlike_35 : decode cX4_areAlike 35 = .ok (.iconst 0, 1) := by decide +kernel
theorem dX4_areAlike_36 : decode cX4_areAlike 36 = .ok (.ireturn, 1) := by decide +kernel
theorem dX4_mask_0 : decode cX4_mask 0 = .ok (.iload_n 0, 1) := by decide +kernel
theorem dX4_mask_1 : decode cX4_mask 1 = .ok (.bipush 64, 2) := by decide +kernel
theorem dX4_mask_3 : decode cX4_mask 3 = .ok (.if_icmp .ne 9, 3) := by decide +kernel
theorem dX4_mask_6 : decode cX4_mask 6 = .ok (.ldc2_w 41, 3) := by decide +kernel
theorem dX4_mask_9 : decode cX4_mask 9 = .ok (.goto 8, 3) := by decide +kernel
theorem dX4_mask_12 : decode cX4_mask 12 = .ok (.lconst 1, 1) := by decide +kernel
theorem dX4_mask_13 : decode cX4_mask 13 = .ok (.iload_n 0, 1) := by decide +kernel
theorem dX4_mask_14 : decode cX4_mask 14 = .ok (.lshl, 1) := by decide +kernel
theorem dX4_mask_15 : decode cX4_mask 15 = .ok (.lconst 1, 1) := by decide +kernel
theorem dX4_mask_16 : decode cX4_mask 16 = .ok (.lsub, 1) := by decide +kernel
theorem dX4_mask_17 : decode cX4_mask 17 = .ok (.lreturn, 1) := by decide +kernel
theorem dX4_add_0 : decode cX4_add 0 = .ok (.aload_n 0, 1) := by decide +kernel
theorem dX4_add_1 : decode cX4_add 1 = .ok (.iload_n 1, 1) := by decide +kernel
theorem dX4_add_2 : decode cX4_add 2 = .ok (.ifCond .ne 7, 3) := by decide +kernel
theorem dX4_add_5 : decode cX4_add 5 = .ok (.iconst 1, 1) := by decide +kernel
theorem dX4_add_6 : decode cX4_add 6 = .ok (.goto 29, 3) := by decide +kernel
theorem dX4_add_9 : decode cX4_add 9 = .ok (.aload_n 0, 1) := by decide +kernel
theorem dX4_add_10 : decode cX4_add 10 = .ok (.getfield 34, 3) := by decide +kernel
theorem dX4_add_13 : decode cX4_add 13 = .ok (.sipush 4000, 3) := by decide +kernel
theorem dX4_add_16 : decode cX4_add 16 = .ok (.if_icmp .eq 14, 3) := by decide +kernel
theorem dX4_add_19 : decode cX4_add 19 = .ok (.aload_n 0, 1) := by decide +kernel
theorem dX4_add_20 : decode cX4_add 20 = .ok (.getfield 43, 3) := by decide +kernel
theorem dX4_add_23 : decode cX4_add 23 = .ok (.iload_n 2, 1) := by decide +kernel
theorem dX4_add_24 : decode cX4_add 24 = .ok (.iadd, 1) := by decide +kernel
theorem dX4_add_25 : decode cX4_add 25 = .ok (.ldc 46, 2) := by decide +kernel
theorem dX4_add_27 : decode cX4_add 27 = .ok (.if_icmp .le 7, 3) := by decide +kernel
theorem dX4_add_30 : decode cX4_add 30 = .ok (.iconst 2, 1) := by decide +kernel
theorem dX4_add_31 : decode cX4_add 31 = .ok (.goto 4, 3) := by decide +kernel
theorem dX4_add_34 : decode cX4_add 34 = .ok (.iconst 0, 1) := by decide +kernel
theorem dX4_add_35 : decode cX4_add 35 = .ok (.putfield 30, 3) := by decide +kernel
theorem dX4_add_38 : decode cX4_add 38 = .ok (.aload_n 0, 1) := by decide +kernel
theorem dX4_add_39 : decode cX4_add 39 = .ok (.getfield 30, 3) := by decide +kernel
theorem dX4_add_42 : decode cX4_add 42 = .ok (.ifCond .le 5, 3) := by decide +kernel
theorem dX4_add_45 : decode cX4_add 45 = .ok (.iconst 0, 1) := by decide +kernel
theorem dX4_add_46 : decode cX4_add 46 = .ok (.ireturn, 1) := by decide +kernel
theorem dX4_add_47 : decode cX4_add 47 = .ok (.aload_n 0, 1) := by decide +kernel
theorem dX4_add_48 : decode cX4_add 48 = .ok (.dup, 1) := by decide +kernel
theorem dX4_add_49 : decode cX4_add 49 = .ok (.getfield 43, 3) := by decide +kernel
theorem dX4_add_52 : decode cX4_add 52 = .ok (.iload_n 2, 1) := by decide +kernel
theorem dX4_add_53 : decode cX4_add 53 = .ok (.iadd, 1) := by decide +kernel
theorem dX4_add_54 : decode cX4_add 54 = .ok (.putfield 43, 3) := by decide +kernel
theorem dX4_add_57 : decode cX4_add 57 = .ok (.aload_n 0, 1) := by decide +kernel
theorem dX4_add_58 : decode cX4_add 58 = .ok (.getfield 7, 3) := by decide +kernel
theorem dX4_add_61 : decode cX4_add 61 = .ok (.aload_n 0, 1) := by decide +kernel
theorem dX4_add_62 : decode cX4_add 62 = .ok (.getfield 34, 3) := by decide +kernel
theorem dX4_add_65 : decode cX4_add 65 = .ok (.iload_n 3, 1) := by decide +kernel
theorem dX4_add_66 : decode cX4_add 66 = .ok (.i2b, 1) := by decide +kernel
theorem dX4_add_67 : decode cX4_add 67 = .ok (.bastore, 1) := by decide +kernel
theorem dX4_add_68 : decode cX4_add 68 = .ok (.aload_n 0, 1) := by decide +kernel
theorem dX4_add_69 : decode cX4_add 69 = .ok (.getfield 13, 3) := by decide +kernel
theorem dX4_add_72 : decode cX4_add 72 = .ok (.aload_n 0, 1) := by decide +kernel
theorem dX4_add_73 : decode cX4_add 73 = .ok (.getfield 34, 3) := by decide +kernel
theorem dX4_add_76 : decode cX4_add 76 = .ok (.iload 4, 2) := by decide +kernel
theorem dX4_add_78 : decode cX4_add 78 = .ok (.iastore, 1) := by decide +kernel
theorem dX4_add_79 : decode cX4_add 79 = .ok (.aload_n 0, 1) := by decide +kernel
theorem dX4_add_80 : decode cX4_add 80 = .ok (.getfield 17, 3) := by decide +kernel
theorem dX4_add_83 : decode cX4_add 83 = .ok (.aload_n 0, 1) := by decide +kernel
theorem dX4_add_84 : decode cX4_add 84 = .ok (.getfield 34, 3) := by decide +kernel
theorem dX4_add_87 : decode cX4_add 87 = .ok (.iload 5, 2) := by decide +kernel
theorem dX4_add_89 : decode cX4_add 89 = .ok (.iastore, 1) := by decide +kernel
theorem dX4_add_90 : decode cX4_add 90 = .ok (.aload_n 0, 1) := by decide +kernel
theorem dX4_add_91 : decode cX4_add 91 = .ok (.getfield 20, 3) := by decide +kernel
theorem dX4_add_94 : decode cX4_add 94 = .ok (.aload_n 0, 1) := by decide +kernel
theorem dX4_add_95 : decode cX4_add 95 = .ok (.getfield 34, 3) := by decide +kernel
theorem dX4_add_98 : decode cX4_add 98 = .ok (.iload 6, 2) := by decide +kernel
theorem dX4_add_100 : decode cX4_add 100 = .ok (.iastore, 1) := by decide +kernel
theorem dX4_add_101 : decode cX4_add 101 = .ok (.aload_n 0, 1) := by decide +kernel
theorem dX4_add_102 : decode cX4_add 102 = .ok (.getfield 23, 3) := by decide +kernel
theorem dX4_add_105 : decode cX4_add 105 = .ok (.aload_n 0, 1) := by decide +kernel
theorem dX4_add_106 : decode cX4_add 106 = .ok (.getfield 34, 3) := by decide +kernel
theorem dX4_add_109 : decode cX4_add 109 = .ok (.iload 7, 2) := by decide +kernel
theorem dX4_add_111 : decode cX4_add 111 = .ok (.iastore, 1) := by decide +kernel
theorem dX4_add_112 : decode cX4_add 112 = .ok (.aload_n 0, 1) := by decide +kernel
theorem dX4_add_113 : decode cX4_add 113 = .ok (.getfield 26, 3) := by decide +kernel
theorem dX4_add_116 : decode cX4_add 116 = .ok (.aload_n 0, 1) := by decide +kernel
theorem dX4_add_117 : decode cX4_add 117 = .ok (.getfield 34, 3) := by decide +kernel
theorem dX4_add_120 : decode cX4_add 120 = .ok (.lconst 0, 1) := by decide +kernel
theorem dX4_add_121 : decode cX4_add 121 = .ok (.lastore, 1) := by decide +kernel
theorem dX4_add_122 : decode cX4_add 122 = .ok (.aload_n 0, 1) := by decide +kernel
theorem dX4_add_123 : decode cX4_add 123 = .ok (.dup, 1) := by decide +kernel
theorem dX4_add_124 : decode cX4_add 124 = .ok (.getfield 34, 3) := by decide +kernel
theorem dX4_add_127 : decode cX4_add 127 = .ok (.iconst 1, 1) := by decide +kernel
theorem dX4_add_128 : decode cX4_add 128 = .ok (.iadd, 1) := by decide +kernel
theorem dX4_add_129 : decode cX4_add 129 = .ok (.putfield 34, 3) := by decide +kernel
theorem dX4_add_132 : decode cX4_add 132 = .ok (.aload_n 0, 1) := by decide +kernel
theorem dX4_add_133 : decode cX4_add 133 = .ok (.getfield 34, 3) := by decide +kernel
theorem dX4_add_136 : decode cX4_add 136 = .ok (.iconst 1, 1) := by decide +kernel
theorem dX4_add_137 : decode cX4_add 137 = .ok (.isub, 1) := by decide +kernel
theorem dX4_add_138 : decode cX4_add 138 = .ok (.ireturn, 1) := by decide +kernel
theorem dX4_input_0 : decode cX4_input 0 = .ok (.aload_n 0, 1) := by decide +kernel
theorem dX4_input_1 : decode cX4_input 1 = .ok (.iload_n 1, 1) := by decide +kernel
theorem dX4_input_2 : decode cX4_input 2 = .ok (.iconst 1, 1) := by decide +kernel
theorem dX4_input_3 : decode cX4_input 3 = .ok (.if_icmp .lt 13, 3) := by decide +kernel
theorem dX4_input_6 : decode cX4_input 6 = .ok (.iload_n 1, 1) := by decide +kernel
theorem dX4_input_7 : decode cX4_input 7 = .ok (.bipush 64, 2) := by decide +kernel
theorem dX4_input_9 : decode cX4_input 9 = .ok (.if_icmp .gt 7, 3) := by decide +kernel
theorem dX4_input_12 : decode cX4_input 12 = .ok (.iconst 1, 1) := by decide +kernel
theorem dX4_input_13 : decode cX4_input 13 = .ok (.goto 4, 3) := by decide +kernel
theorem dX4_input_16 : decode cX4_input 16 = .ok (.iconst 0, 1) := by decide +kernel
theorem dX4_input_17 : decode cX4_input 17 = .ok (.iload_n 1, 1) := by decide +kernel
theorem dX4_input_18 : decode cX4_input 18 = .ok (.iconst 0, 1) := by decide +kernel
theorem dX4_input_19 : decode cX4_input 19 = .ok (.iconst 0, 1) := by decide +kernel
theorem dX4_input_20 : decode cX4_input 20 = .ok (.iconst 0, 1) := by decide +kernel
theorem dX4_input_21 : decode cX4_input 21 = .ok (.iconst 0, 1) := by decide +kernel
theorem dX4_input_22 : decode cX4_input 22 = .ok (.iload_n 1, 1) := by decide +kernel
theorem dX4_input_23 : decode cX4_input 23 = .ok (.invokevirtual 47, 3) := by decide +kernel
theorem dX4_input_26 : decode cX4_input 26 = .ok (.ireturn, 1) := by decide +kernel
theorem dX4_constant_0 : decode cX4_constant 0 = .ok (.aload_n 0, 1) := by decide +kernel
theorem dX4_constant_1 : decode cX4_constant 1 = .ok (.iload_n 1, 1) := by decide +kernel
theorem dX4_constant_2 : decode cX4_constant 2 = .ok (.iconst 1, 1) := by decide +kernel
theorem dX4_constant_3 : decode cX4_constant 3 = .ok (.if_icmp .lt 13, 3) := by decide +kernel
theorem dX4_constant_6 : decode cX4_constant 6 = .ok (.iload_n 1, 1) := by decide +kernel
theorem dX4_constant_7 : decode cX4_constant 7 = .ok (.bipush 64, 2) := by decide +kernel
theorem dX4_constant_9 : decode cX4_constant 9 = .ok (.if_icmp .gt 7, 3) := by decide +kernel
theorem dX4_constant_12 : decode cX4_constant 12 = .ok (.iconst 1, 1) := by decide +kernel
theorem dX4_constant_13 : decode cX4_constant 13 = .ok (.goto 4, 3) := by decide +kernel
theorem dX4_constant_16 : decode cX4_constant 16 = .ok (.iconst 0, 1) := by decide +kernel
theorem dX4_constant_17 : decode cX4_constant 17 = .ok (.iload_n 1, 1) := by decide +kernel
theorem dX4_constant_18 : decode cX4_constant 18 = .ok (.iconst 1, 1) := by decide +kernel
theorem dX4_constant_19 : decode cX4_constant 19 = .ok (.iconst 0, 1) := by decide +kernel
theorem dX4_constant_20 : decode cX4_constant 20 = .ok (.iconst 0, 1) := by decide +kernel
theorem dX4_constant_21 : decode cX4_constant 21 = .ok (.iconst 0, 1) := by decide +kernel
theorem dX4_constant_22 : decode cX4_constant 22 = .ok (.iload_n 1, 1) := by decide +kernel
theorem dX4_constant_23 : decode cX4_constant 23 = .ok (.invokevirtual 47, 3) := by decide +kernel
theorem dX4_constant_26 : decode cX4_constant 26 = .ok (.istore 4, 2) := by decide +kernel
theorem dX4_constant_28 : decode cX4_constant 28 = .ok (.aload_n 0, 1) := by decide +kernel
theorem dX4_constant_29 : decode cX4_constant 29 = .ok (.getfield 30, 3) := by decide +kernel
theorem dX4_constant_32 : decode cX4_constant 32 = .ok (.ifCond .ne 16, 3) := by decide +kernel
theorem dX4_constant_35 : decode cX4_constant 35 = .ok (.aload_n 0, 1) := by decide +kernel
theorem dX4_constant_36 : decode cX4_constant 36 = .ok (.getfield 26, 3) := by decide +kernel
theorem dX4_constant_39 : decode cX4_constant 39 = .ok (.iload 4, 2) := by decide +kernel
theorem dX4_constant_41 : decode cX4_constant 41 = .ok (.lload_n 2, 1) := by decide +kernel
theorem dX4_constant_42 : decode cX4_constant 42 = .ok (.iload_n 1, 1) := by decide +kernel
theorem dX4_constant_43 : decode cX4_constant 43 = .ok (.invokestatic 51, 3) := by decide +kernel
theorem dX4_constant_46 : decode cX4_constant 46 = .ok (.land, 1) := by decide +kernel
theorem dX4_constant_47 : decode cX4_constant 47 = .ok (.lastore, 1) := by decide +kernel
theorem dX4_constant_48 : decode cX4_constant 48 = .ok (.iload 4, 2) := by decide +kernel
theorem dX4_constant_50 : decode cX4_constant 50 = .ok (.ireturn, 1) := by decide +kernel
theorem dX4_one_0 : decode cX4_one 0 = .ok (.iload_n 1, 1) := by decide +kernel
theorem dX4_one_1 : decode cX4_one 1 = .ok (.ifCond .eq 8, 3) := by decide +kernel
theorem dX4_one_4 : decode cX4_one 4 = .ok (.iload_n 1, 1) := by decide +kernel
theorem dX4_one_5 : decode cX4_one 5 = .ok (.iconst 1, 1) := by decide +kernel
theorem dX4_one_6 : decode cX4_one 6 = .ok (.if_icmp .ne 15, 3) := by decide +kernel
theorem dX4_one_9 : decode cX4_one 9 = .ok (.aload_n 0, 1) := by decide +kernel
theorem dX4_one_10 : decode cX4_one 10 = .ok (.iload_n 2, 1) := by decide +kernel
theorem dX4_one_11 : decode cX4_one 11 = .ok (.invokevirtual 37, 3) := by decide +kernel
theorem dX4_one_14 : decode cX4_one 14 = .ok (.ifCond .eq 7, 3) := by decide +kernel
theorem dX4_one_17 : decode cX4_one 17 = .ok (.iconst 1, 1) := by decide +kernel
theorem dX4_one_18 : decode cX4_one 18 = .ok (.goto 4, 3) := by decide +kernel
theorem dX4_one_21 : decode cX4_one 21 = .ok (.iconst 0, 1) := by decide +kernel
theorem dX4_one_22 : decode cX4_one 22 = .ok (.istore_n 3, 1) := by decide +kernel
theorem dX4_one_23 : decode cX4_one 23 = .ok (.iload_n 3, 1) := by decide +kernel
theorem dX4_one_24 : decode cX4_one 24 = .ok (.ifCond .eq 12, 3) := by decide +kernel
theorem dX4_one_27 : decode cX4_one 27 = .ok (.aload_n 0, 1) := by decide +kernel
theorem dX4_one_28 : decode cX4_one 28 = .ok (.getfield 23, 3) := by decide +kernel
theorem dX4_one_31 : decode cX4_one 31 = .ok (.iload_n 2, 1) := by decide +kernel
theorem dX4_one_32 : decode cX4_one 32 = .ok (.iaload, 1) := by decide +kernel
theorem dX4_one_33 : decode cX4_one 33 = .ok (.goto 4, 3) := by decide +kernel
theorem dX4_one_36 : decode cX4_one 36 = .ok (.iconst 1, 1) := by decide +kernel
theorem dX4_one_37 : decode cX4_one 37 = .ok (.istore 4, 2) := by decide +kernel
theorem dX4_one_39 : decode cX4_one 39 = .ok (.aload_n 0, 1) := by decide +kernel
theorem dX4_one_40 : decode cX4_one 40 = .ok (.iload_n 3, 1) := by decide +kernel
theorem dX4_one_41 : decode cX4_one 41 = .ok (.iload_n 1, 1) := by decide +kernel
theorem dX4_one_42 : decode cX4_one 42 = .ok (.ifCond .ne 8, 3) := by decide +kernel
theorem dX4_one_45 : decode cX4_one 45 = .ok (.iload 4, 2) := by decide +kernel
theorem dX4_one_47 : decode cX4_one 47 = .ok (.goto 8, 3) := by decide +kernel
theorem dX4_one_50 : decode cX4_one 50 = .ok (.bipush 10, 2) := by decide +kernel
theorem dX4_one_52 : decode cX4_one 52 = .ok (.iload 4, 2) := by decide +kernel
theorem dX4_one_54 : decode cX4_one 54 = .ok (.imul, 1) := by decide +kernel
theorem dX4_one_55 : decode cX4_one 55 = .ok (.bipush 10, 2) := by decide +kernel
theorem dX4_one_57 : decode cX4_one 57 = .ok (.iload_n 1, 1) := by decide +kernel
theorem dX4_one_58 : decode cX4_one 58 = .ok (.iadd, 1) := by decide +kernel
theorem dX4_one_59 : decode cX4_one 59 = .ok (.iload_n 2, 1) := by decide +kernel
theorem dX4_one_60 : decode cX4_one 60 = .ok (.iconst 0, 1) := by decide +kernel
theorem dX4_one_61 : decode cX4_one 61 = .ok (.iconst 0, 1) := by decide +kernel
theorem dX4_one_62 : decode cX4_one 62 = .ok (.iload 4, 2) := by decide +kernel
theorem dX4_one_64 : decode cX4_one 64 = .ok (.invokevirtual 47, 3) := by decide +kernel
theorem dX4_one_67 : decode cX4_one 67 = .ok (.ireturn, 1) := by decide +kernel
theorem dX4_heavy_0 : decode cX4_heavy 0 = .ok (.iload_n 0, 1) := by decide +kernel
theorem dX4_heavy_1 : decode cX4_heavy 1 = .ok (.tableswitch 95 0 9 #[55, 55, 55, 59, 59, 64, 71, 71, 83, 83], 55) := by decide +kernel
theorem dX4_heavy_56 : decode cX4_heavy 56 = .ok (.iconst 4, 1) := by decide +kernel
theorem dX4_heavy_57 : decode cX4_heavy 57 = .ok (.iload_n 1, 1) := by decide +kernel
theorem dX4_heavy_58 : decode cX4_heavy 58 = .ok (.imul, 1) := by decide +kernel
theorem dX4_heavy_59 : decode cX4_heavy 59 = .ok (.ireturn, 1) := by decide +kernel
theorem dX4_heavy_60 : decode cX4_heavy 60 = .ok (.bipush 10, 2) := by decide +kernel
theorem dX4_heavy_62 : decode cX4_heavy 62 = .ok (.iload_n 1, 1) := by decide +kernel
theorem dX4_heavy_63 : decode cX4_heavy 63 = .ok (.imul, 1) := by decide +kernel
theorem dX4_heavy_64 : decode cX4_heavy 64 = .ok (.ireturn, 1) := by decide +kernel
theorem dX4_heavy_65 : decode cX4_heavy 65 = .ok (.bipush 14, 2) := by decide +kernel
theorem dX4_heavy_67 : decode cX4_heavy 67 = .ok (.iload_n 1, 1) := by decide +kernel
theorem dX4_heavy_68 : decode cX4_heavy 68 = .ok (.imul, 1) := by decide +kernel
theorem dX4_heavy_69 : decode cX4_heavy 69 = .ok (.iload_n 1, 1) := by decide +kernel
theorem dX4_heavy_70 : decode cX4_heavy 70 = .ok (.imul, 1) := by decide +kernel
theorem dX4_heavy_71 : decode cX4_heavy 71 = .ok (.ireturn, 1) := by decide +kernel
theorem dX4_heavy_72 : decode cX4_heavy 72 = .ok (.bipush 16, 2) := by decide +kernel
theorem dX4_heavy_74 : decode cX4_heavy 74 = .ok (.iload_n 1, 1) := by decide +kernel
theorem dX4_heavy_75 : decode cX4_heavy 75 = .ok (.imul, 1) := by decide +kernel
theorem dX4_heavy_76 : decode cX4_heavy 76 = .ok (.iload_n 1, 1) := by decide +kernel
theorem dX4_heavy_77 : decode cX4_heavy 77 = .ok (.imul, 1) := by decide +kernel
theorem dX4_heavy_78 : decode cX4_heavy 78 = .ok (.bipush 32, 2) := by decide +kernel
theorem dX4_heavy_80 : decode cX4_heavy 80 = .ok (.iload_n 1, 1) := by decide +kernel
theorem dX4_heavy_81 : decode cX4_heavy 81 = .ok (.imul, 1) := by decide +kernel
theorem dX4_heavy_82 : decode cX4_heavy 82 = .ok (.iadd, 1) := by decide +kernel
theorem dX4_heavy_83 : decode cX4_heavy 83 = .ok (.ireturn, 1) := by decide +kernel
theorem dX4_heavy_84 : decode cX4_heavy 84 = .ok (.bipush 16, 2) := by decide +kernel
theorem dX4_heavy_86 : decode cX4_heavy 86 = .ok (.iload_n 1, 1) := by decide +kernel
theorem dX4_heavy_87 : decode cX4_heavy 87 = .ok (.imul, 1) := by decide +kernel
theorem dX4_heavy_88 : decode cX4_heavy 88 = .ok (.iload_n 1, 1) := by decide +kernel
theorem dX4_heavy_89 : decode cX4_heavy 89 = .ok (.imul, 1) := by decide +kernel
theorem dX4_heavy_90 : decode cX4_heavy 90 = .ok (.bipush 80, 2) := by decide +kernel
theorem dX4_heavy_92 : decode cX4_heavy 92 = .ok (.iload_n 1, 1) := by decide +kernel
theorem dX4_heavy_93 : decode cX4_heavy 93 = .ok (.imul, 1) := by decide +kernel
theorem dX4_heavy_94 : decode cX4_heavy 94 = .ok (.iadd, 1) := by decide +kernel
theorem dX4_heavy_95 : decode cX4_heavy 95 = .ok (.ireturn, 1) := by decide +kernel
theorem dX4_heavy_96 : decode cX4_heavy 96 = .ok (.bipush 30, 2) := by decide +kernel
theorem dX4_heavy_98 : decode cX4_heavy 98 = .ok (.iload_n 1, 1) := by decide +kernel
theorem dX4_heavy_99 : decode cX4_heavy 99 = .ok (.imul, 1) := by decide +kernel
theorem dX4_heavy_100 : decode cX4_heavy 100 = .ok (.ireturn, 1) := by decide +kernel
theorem dX4_two_0 : decode cX4_two 0 = .ok (.iload_n 1, 1) := by decide +kernel
theorem dX4_two_1 : decode cX4_two 1 = .ok (.ifCond .lt 22, 3) := by decide +kernel
theorem dX4_two_4 : decode cX4_two 4 = .ok (.iload_n 1, 1) := by decide +kernel
theorem dX4_two_5 : decode cX4_two 5 = .ok (.bipush 12, 2) := by decide +kernel
theorem dX4_two_7 : decode cX4_two 7 = .ok (.if_icmp .gt 16, 3) := by decide +kernel
theorem dX4_two_10 : decode cX4_two 10 = .ok (.aload_n 0, 1) := by decide +kernel
theorem dX4_two_11 : decode cX4_two 11 = .ok (.iload_n 2, 1) := by decide +kernel
theorem dX4_two_12 : decode cX4_two 12 = .ok (.iload_n 3, 1) := by decide +kernel
theorem dX4_two_13 : decode cX4_two 13 = .ok (.invokevirtual 55, 3) := by decide +kernel
theorem dX4_two_16 : decode cX4_two 16 = .ok (.ifCond .eq 7, 3) := by decide +kernel
theorem dX4_two_19 : decode cX4_two 19 = .ok (.iconst 1, 1) := by decide +kernel
theorem dX4_two_20 : decode cX4_two 20 = .ok (.goto 4, 3) := by decide +kernel
theorem dX4_two_23 : decode cX4_two 23 = .ok (.iconst 0, 1) := by decide +kernel
theorem dX4_two_24 : decode cX4_two 24 = .ok (.istore 4, 2) := by decide +kernel
theorem dX4_two_26 : decode cX4_two 26 = .ok (.iload 4, 2) := by decide +kernel
theorem dX4_two_28 : decode cX4_two 28 = .ok (.ifCond .eq 12, 3) := by decide +kernel
theorem dX4_two_31 : decode cX4_two 31 = .ok (.aload_n 0, 1) := by decide +kernel
theorem dX4_two_32 : decode cX4_two 32 = .ok (.getfield 23, 3) := by decide +kernel
theorem dX4_two_35 : decode cX4_two 35 = .ok (.iload_n 2, 1) := by decide +kernel
theorem dX4_two_36 : decode cX4_two 36 = .ok (.iaload, 1) := by decide +kernel
theorem dX4_two_37 : decode cX4_two 37 = .ok (.goto 4, 3) := by decide +kernel
theorem dX4_two_40 : decode cX4_two 40 = .ok (.iconst 1, 1) := by decide +kernel
theorem dX4_two_41 : decode cX4_two 41 = .ok (.istore 5, 2) := by decide +kernel
theorem dX4_two_43 : decode cX4_two 43 = .ok (.aload_n 0, 1) := by decide +kernel
theorem dX4_two_44 : decode cX4_two 44 = .ok (.iload 4, 2) := by decide +kernel
theorem dX4_two_46 : decode cX4_two 46 = .ok (.iload_n 1, 1) := by decide +kernel
theorem dX4_two_47 : decode cX4_two 47 = .ok (.iload 5, 2) := by decide +kernel
theorem dX4_two_49 : decode cX4_two 49 = .ok (.invokestatic 59, 3) := by decide +kernel
theorem dX4_two_52 : decode cX4_two 52 = .ok (.bipush 20, 2) := by decide +kernel
theorem dX4_two_54 : decode cX4_two 54 = .ok (.iload_n 1, 1) := by decide +kernel
theorem dX4_two_55 : decode cX4_two 55 = .ok (.iadd, 1) := by decide +kernel
theorem dX4_two_56 : decode cX4_two 56 = .ok (.iload_n 2, 1) := by decide +kernel
theorem dX4_two_57 : decode cX4_two 57 = .ok (.iload_n 3, 1) := by decide +kernel
theorem dX4_two_58 : decode cX4_two 58 = .ok (.iconst 0, 1) := by decide +kernel
theorem dX4_two_59 : decode cX4_two 59 = .ok (.iload 5, 2) := by decide +kernel
theorem dX4_two_61 : decode cX4_two 61 = .ok (.invokevirtual 47, 3) := by decide +kernel
theorem dX4_two_64 : decode cX4_two 64 = .ok (.ireturn, 1) := by decide +kernel
theorem dX4_compare_0 : decode cX4_compare 0 = .ok (.iload_n 1, 1) := by decide +kernel
theorem dX4_compare_1 : decode cX4_compare 1 = .ok (.ifCond .lt 21, 3) := by decide +kernel
theorem dX4_compare_4 : decode cX4_compare 4 = .ok (.iload_n 1, 1) := by decide +kernel
theorem dX4_compare_5 : decode cX4_compare 5 = .ok (.iconst 4, 1) := by decide +kernel
theorem dX4_compare_6 : decode cX4_compare 6 = .ok (.if_icmp .gt 16, 3) := by decide +kernel
theorem dX4_compare_9 : decode cX4_compare 9 = .ok (.aload_n 0, 1) := by decide +kernel
theorem dX4_compare_10 : decode cX4_compare 10 = .ok (.iload_n 2, 1) := by decide +kernel
theorem dX4_compare_11 : decode cX4_compare 11 = .ok (.iload_n 3, 1) := by decide +kernel
theorem dX4_compare_12 : decode cX4_compare 12 = .ok (.invokevirtual 55, 3) := by decide +kernel
theorem dX4_compare_15 : decode cX4_compare 15 = .ok (.ifCond .eq 7, 3) := by decide +kernel
theorem dX4_compare_18 : decode cX4_compare 18 = .ok (.iconst 1, 1) := by decide +kernel
theorem dX4_compare_19 : decode cX4_compare 19 = .ok (.goto 4, 3) := by decide +kernel
theorem dX4_compare_22 : decode cX4_compare 22 = .ok (.iconst 0, 1) := by decide +kernel
theorem dX4_compare_23 : decode cX4_compare 23 = .ok (.istore 4, 2) := by decide +kernel
theorem dX4_compare_25 : decode cX4_compare 25 = .ok (.iload 4, 2) := by decide +kernel
theorem dX4_compare_27 : decode cX4_compare 27 = .ok (.ifCond .eq 12, 3) := by decide +kernel
theorem dX4_compare_30 : decode cX4_compare 30 = .ok (.aload_n 0, 1) := by decide +kernel
theorem dX4_compare_31 : decode cX4_compare 31 = .ok (.getfield 23, 3) := by decide +kernel
theorem dX4_compare_34 : decode cX4_compare 34 = .ok (.iload_n 2, 1) := by decide +kernel
theorem dX4_compare_35 : decode cX4_compare 35 = .ok (.iaload, 1) := by decide +kernel
theorem dX4_compare_36 : decode cX4_compare 36 = .ok (.goto 4, 3) := by decide +kernel
theorem dX4_compare_39 : decode cX4_compare 39 = .ok (.iconst 1, 1) := by decide +kernel
theorem dX4_compare_40 : decode cX4_compare 40 = .ok (.istore 5, 2) := by decide +kernel
theorem dX4_compare_42 : decode cX4_compare 42 = .ok (.aload_n 0, 1) := by decide +kernel
theorem dX4_compare_43 : decode cX4_compare 43 = .ok (.iload 4, 2) := by decide +kernel
theorem dX4_compare_45 : decode cX4_compare 45 = .ok (.bipush 10, 2) := by decide +kernel
theorem dX4_compare_47 : decode cX4_compare 47 = .ok (.iload 5, 2) := by decide +kernel
theorem dX4_compare_49 : decode cX4_compare 49 = .ok (.imul, 1) := by decide +kernel
theorem dX4_compare_50 : decode cX4_compare 50 = .ok (.bipush 40, 2) := by decide +kernel
theorem dX4_compare_52 : decode cX4_compare 52 = .ok (.iload_n 1, 1) := by decide +kernel
theorem dX4_compare_53 : decode cX4_compare 53 = .ok (.iadd, 1) := by decide +kernel
theorem dX4_compare_54 : decode cX4_compare 54 = .ok (.iload_n 2, 1) := by decide +kernel
theorem dX4_compare_55 : decode cX4_compare 55 = .ok (.iload_n 3, 1) := by decide +kernel
theorem dX4_compare_56 : decode cX4_compare 56 = .ok (.iconst 0, 1) := by decide +kernel
theorem dX4_compare_57 : decode cX4_compare 57 = .ok (.iconst 1, 1) := by decide +kernel
theorem dX4_compare_58 : decode cX4_compare 58 = .ok (.invokevirtual 47, 3) := by decide +kernel
theorem dX4_compare_61 : decode cX4_compare 61 = .ok (.ireturn, 1) := by decide +kernel
theorem dX4_choose_0 : decode cX4_choose 0 = .ok (.aload_n 0, 1) := by decide +kernel
theorem dX4_choose_1 : decode cX4_choose 1 = .ok (.iload_n 1, 1) := by decide +kernel
theorem dX4_choose_2 : decode cX4_choose 2 = .ok (.invokevirtual 37, 3) := by decide +kernel
theorem dX4_choose_5 : decode cX4_choose 5 = .ok (.ifCond .eq 26, 3) := by decide +kernel
theorem dX4_choose_8 : decode cX4_choose 8 = .ok (.aload_n 0, 1) := by decide +kernel
theorem dX4_choose_9 : decode cX4_choose 9 = .ok (.getfield 23, 3) := by decide +kernel
theorem dX4_choose_12 : decode cX4_choose 12 = .ok (.iload_n 1, 1) := by decide +kernel
theorem dX4_choose_13 : decode cX4_choose 13 = .ok (.iaload, 1) := by decide +kernel
theorem dX4_choose_14 : decode cX4_choose 14 = .ok (.iconst 1, 1) := by decide +kernel
theorem dX4_choose_15 : decode cX4_choose 15 = .ok (.if_icmp .ne 16, 3) := by decide +kernel
theorem dX4_choose_18 : decode cX4_choose 18 = .ok (.aload_n 0, 1) := by decide +kernel
theorem dX4_choose_19 : decode cX4_choose 19 = .ok (.iload_n 2, 1) := by decide +kernel
theorem dX4_choose_20 : decode cX4_choose 20 = .ok (.iload_n 3, 1) := by decide +kernel
theorem dX4_choose_21 : decode cX4_choose 21 = .ok (.invokevirtual 55, 3) := by decide +kernel
theorem dX4_choose_24 : decode cX4_choose 24 = .ok (.ifCond .eq 7, 3) := by decide +kernel
theorem dX4_choose_27 : decode cX4_choose 27 = .ok (.iconst 1, 1) := by decide +kernel
theorem dX4_choose_28 : decode cX4_choose 28 = .ok (.goto 4, 3) := by decide +kernel
theorem dX4_choose_31 : decode cX4_choose 31 = .ok (.iconst 0, 1) := by decide +kernel
theorem dX4_choose_32 : decode cX4_choose 32 = .ok (.istore 4, 2) := by decide +kernel
theorem dX4_choose_34 : decode cX4_choose 34 = .ok (.iload 4, 2) := by decide +kernel
theorem dX4_choose_36 : decode cX4_choose 36 = .ok (.ifCond .eq 12, 3) := by decide +kernel
theorem dX4_choose_39 : decode cX4_choose 39 = .ok (.aload_n 0, 1) := by decide +kernel
theorem dX4_choose_40 : decode cX4_choose 40 = .ok (.getfield 23, 3) := by decide +kernel
theorem dX4_choose_43 : decode cX4_choose 43 = .ok (.iload_n 2, 1) := by decide +kernel
theorem dX4_choose_44 : decode cX4_choose 44 = .ok (.iaload, 1) := by decide +kernel
theorem dX4_choose_45 : decode cX4_choose 45 = .ok (.goto 4, 3) := by decide +kernel
theorem dX4_choose_48 : decode cX4_choose 48 = .ok (.iconst 1, 1) := by decide +kernel
theorem dX4_choose_49 : decode cX4_choose 49 = .ok (.istore 5, 2) := by decide +kernel
theorem dX4_choose_51 : decode cX4_choose 51 = .ok (.aload_n 0, 1) := by decide +kernel
theorem dX4_choose_52 : decode cX4_choose 52 = .ok (.iload 4, 2) := by decide +kernel
theorem dX4_choose_54 : decode cX4_choose 54 = .ok (.iconst 4, 1) := by decide +kernel
theorem dX4_choose_55 : decode cX4_choose 55 = .ok (.iload 5, 2) := by decide +kernel
theorem dX4_choose_57 : decode cX4_choose 57 = .ok (.imul, 1) := by decide +kernel
theorem dX4_choose_58 : decode cX4_choose 58 = .ok (.bipush 50, 2) := by decide +kernel
theorem dX4_choose_60 : decode cX4_choose 60 = .ok (.iload_n 2, 1) := by decide +kernel
theorem dX4_choose_61 : decode cX4_choose 61 = .ok (.iload_n 3, 1) := by decide +kernel
theorem dX4_choose_62 : decode cX4_choose 62 = .ok (.iload_n 1, 1) := by decide +kernel
theorem dX4_choose_63 : decode cX4_choose 63 = .ok (.iload 5, 2) := by decide +kernel
theorem dX4_choose_65 : decode cX4_choose 65 = .ok (.invokevirtual 47, 3) := by decide +kernel
theorem dX4_choose_68 : decode cX4_choose 68 = .ok (.ireturn, 1) := by decide +kernel
theorem dX4_concat_0 : decode cX4_concat 0 = .ok (.aload_n 0, 1) := by decide +kernel
theorem dX4_concat_1 : decode cX4_concat 1 = .ok (.iload_n 1, 1) := by decide +kernel
theorem dX4_concat_2 : decode cX4_concat 2 = .ok (.invokevirtual 37, 3) := by decide +kernel
theorem dX4_concat_5 : decode cX4_concat 5 = .ok (.ifCond .eq 33, 3) := by decide +kernel
theorem dX4_concat_8 : decode cX4_concat 8 = .ok (.aload_n 0, 1) := by decide +kernel
theorem dX4_concat_9 : decode cX4_concat 9 = .ok (.iload_n 2, 1) := by decide +kernel
theorem dX4_concat_10 : decode cX4_concat 10 = .ok (.invokevirtual 37, 3) := by decide +kernel
theorem dX4_concat_13 : decode cX4_concat 13 = .ok (.ifCond .eq 25, 3) := by decide +kernel
theorem dX4_concat_16 : decode cX4_concat 16 = .ok (.aload_n 0, 1) := by decide +kernel
theorem dX4_concat_17 : decode cX4_concat 17 = .ok (.getfield 23, 3) := by decide +kernel
theorem dX4_concat_20 : decode cX4_concat 20 = .ok (.iload_n 1, 1) := by decide +kernel
theorem dX4_concat_21 : decode cX4_concat 21 = .ok (.iaload, 1) := by decide +kernel
theorem dX4_concat_22 : decode cX4_concat 22 = .ok (.aload_n 0, 1) := by decide +kernel
theorem dX4_concat_23 : decode cX4_concat 23 = .ok (.getfield 23, 3) := by decide +kernel
theorem dX4_concat_26 : decode cX4_concat 26 = .ok (.iload_n 2, 1) := by decide +kernel
theorem dX4_concat_27 : decode cX4_concat 27 = .ok (.iaload, 1) := by decide +kernel
theorem dX4_concat_28 : decode cX4_concat 28 = .ok (.iadd, 1) := by decide +kernel
theorem dX4_concat_29 : decode cX4_concat 29 = .ok (.bipush 64, 2) := by decide +kernel
theorem dX4_concat_31 : decode cX4_concat 31 = .ok (.if_icmp .gt 7, 3) := by decide +kernel
theorem dX4_concat_34 : decode cX4_concat 34 = .ok (.iconst 1, 1) := by decide +kernel
theorem dX4_concat_35 : decode cX4_concat 35 = .ok (.goto 4, 3) := by decide +kernel
theorem dX4_concat_38 : decode cX4_concat 38 = .ok (.iconst 0, 1) := by decide +kernel
theorem dX4_concat_39 : decode cX4_concat 39 = .ok (.istore_n 3, 1) := by decide +kernel
theorem dX4_concat_40 : decode cX4_concat 40 = .ok (.iload_n 3, 1) := by decide +kernel
theorem dX4_concat_41 : decode cX4_concat 41 = .ok (.ifCond .eq 19, 3) := by decide +kernel
theorem dX4_concat_44 : decode cX4_concat 44 = .ok (.aload_n 0, 1) := by decide +kernel
theorem dX4_concat_45 : decode cX4_concat 45 = .ok (.getfield 23, 3) := by decide +kernel
theorem dX4_concat_48 : decode cX4_concat 48 = .ok (.iload_n 1, 1) := by decide +kernel
theorem dX4_concat_49 : decode cX4_concat 49 = .ok (.iaload, 1) := by decide +kernel
theorem dX4_concat_50 : decode cX4_concat 50 = .ok (.aload_n 0, 1) := by decide +kernel
theorem dX4_concat_51 : decode cX4_concat 51 = .ok (.getfield 23, 3) := by decide +kernel
theorem dX4_concat_54 : decode cX4_concat 54 = .ok (.iload_n 2, 1) := by decide +kernel
theorem dX4_concat_55 : decode cX4_concat 55 = .ok (.iaload, 1) := by decide +kernel
theorem dX4_concat_56 : decode cX4_concat 56 = .ok (.iadd, 1) := by decide +kernel
theorem dX4_concat_57 : decode cX4_concat 57 = .ok (.goto 4, 3) := by decide +kernel
theorem dX4_concat_60 : decode cX4_concat 60 = .ok (.iconst 1, 1) := by decide +kernel
theorem dX4_concat_61 : decode cX4_concat 61 = .ok (.istore 4, 2) := by decide +kernel
theorem dX4_concat_63 : decode cX4_concat 63 = .ok (.aload_n 0, 1) := by decide +kernel
theorem dX4_concat_64 : decode cX4_concat 64 = .ok (.iload_n 3, 1) := by decide +kernel
theorem dX4_concat_65 : decode cX4_concat 65 = .ok (.iload 4, 2) := by decide +kernel
theorem dX4_concat_67 : decode cX4_concat 67 = .ok (.bipush 51, 2) := by decide +kernel
theorem dX4_concat_69 : decode cX4_concat 69 = .ok (.iload_n 1, 1) := by decide +kernel
theorem dX4_concat_70 : decode cX4_concat 70 = .ok (.iload_n 2, 1) := by decide +kernel
theorem dX4_concat_71 : decode cX4_concat 71 = .ok (.iconst 0, 1) := by decide +kernel
theorem dX4_concat_72 : decode cX4_concat 72 = .ok (.iload 4, 2) := by decide +kernel
theorem dX4_concat_74 : decode cX4_concat 74 = .ok (.invokevirtual 47, 3) := by decide +kernel
theorem dX4_concat_77 : decode cX4_concat 77 = .ok (.ireturn, 1) := by decide +kernel
theorem dX4_extract_0 : decode cX4_extract 0 = .ok (.aload_n 0, 1) := by decide +kernel
theorem dX4_extract_1 : decode cX4_extract 1 = .ok (.iload_n 1, 1) := by decide +kernel
theorem dX4_extract_2 : decode cX4_extract 2 = .ok (.invokevirtual 37, 3) := by decide +kernel
theorem dX4_extract_5 : decode cX4_extract 5 = .ok (.ifCond .eq 26, 3) := by decide +kernel
theorem dX4_extract_8 : decode cX4_extract 8 = .ok (.iload_n 3, 1) := by decide +kernel
theorem dX4_extract_9 : decode cX4_extract 9 = .ok (.ifCond .lt 22, 3) := by decide +kernel
theorem dX4_extract_12 : decode cX4_extract 12 = .ok (.iload_n 2, 1) := by decide +kernel
theorem dX4_extract_13 : decode cX4_extract 13 = .ok (.iload_n 3, 1) := by decide +kernel
theorem dX4_extract_14 : decode cX4_extract 14 = .ok (.if_icmp .lt 17, 3) := by decide +kernel
theorem dX4_extract_17 : decode cX4_extract 17 = .ok (.iload_n 2, 1) := by decide +kernel
theorem dX4_extract_18 : decode cX4_extract 18 = .ok (.aload_n 0, 1) := by decide +kernel
theorem dX4_extract_19 : decode cX4_extract 19 = .ok (.getfield 23, 3) := by decide +kernel
theorem dX4_extract_22 : decode cX4_extract 22 = .ok (.iload_n 1, 1) := by decide +kernel
theorem dX4_extract_23 : decode cX4_extract 23 = .ok (.iaload, 1) := by decide +kernel
theorem dX4_extract_24 : decode cX4_extract 24 = .ok (.if_icmp .ge 7, 3) := by decide +kernel
theorem dX4_extract_27 : decode cX4_extract 27 = .ok (.iconst 1, 1) := by decide +kernel
theorem dX4_extract_28 : decode cX4_extract 28 = .ok (.goto 4, 3) := by decide +kernel
theorem dX4_extract_31 : decode cX4_extract 31 = .ok (.iconst 0, 1) := by decide +kernel
theorem dX4_extract_32 : decode cX4_extract 32 = .ok (.istore 4, 2) := by decide +kernel
theorem dX4_extract_34 : decode cX4_extract 34 = .ok (.iload 4, 2) := by decide +kernel
theorem dX4_extract_36 : decode cX4_extract 36 = .ok (.ifCond .eq 11, 3) := by decide +kernel
theorem dX4_extract_39 : decode cX4_extract 39 = .ok (.iload_n 2, 1) := by decide +kernel
theorem dX4_extract_40 : decode cX4_extract 40 = .ok (.iload_n 3, 1) := by decide +kernel
theorem dX4_extract_41 : decode cX4_extract 41 = .ok (.isub, 1) := by decide +kernel
theorem dX4_extract_42 : decode cX4_extract 42 = .ok (.iconst 1, 1) := by decide +kernel
theorem dX4_extract_43 : decode cX4_extract 43 = .ok (.iadd, 1) := by decide +kernel
theorem dX4_extract_44 : decode cX4_extract 44 = .ok (.goto 4, 3) := by decide +kernel
theorem dX4_extract_47 : decode cX4_extract 47 = .ok (.iconst 1, 1) := by decide +kernel
theorem dX4_extract_48 : decode cX4_extract 48 = .ok (.istore 5, 2) := by decide +kernel
theorem dX4_extract_50 : decode cX4_extract 50 = .ok (.aload_n 0, 1) := by decide +kernel
theorem dX4_extract_51 : decode cX4_extract 51 = .ok (.iload 4, 2) := by decide +kernel
theorem dX4_extract_53 : decode cX4_extract 53 = .ok (.iload 5, 2) := by decide +kernel
theorem dX4_extract_55 : decode cX4_extract 55 = .ok (.bipush 52, 2) := by decide +kernel
theorem dX4_extract_57 : decode cX4_extract 57 = .ok (.iload_n 1, 1) := by decide +kernel
theorem dX4_extract_58 : decode cX4_extract 58 = .ok (.iload_n 3, 1) := by decide +kernel
theorem dX4_extract_59 : decode cX4_extract 59 = .ok (.iconst 0, 1) := by decide +kernel
theorem dX4_extract_60 : decode cX4_extract 60 = .ok (.iload 5, 2) := by decide +kernel
theorem dX4_extract_62 : decode cX4_extract 62 = .ok (.invokevirtual 47, 3) := by decide +kernel
theorem dX4_extract_65 : decode cX4_extract 65 = .ok (.ireturn, 1) := by decide +kernel
theorem dX4_extend_0 : decode cX4_extend 0 = .ok (.aload_n 0, 1) := by decide +kernel
theorem dX4_extend_1 : decode cX4_extend 1 = .ok (.iload_n 1, 1) := by decide +kernel
theorem dX4_extend_2 : decode cX4_extend 2 = .ok (.invokevirtual 37, 3) := by decide +kernel
theorem dX4_extend_5 : decode cX4_extend 5 = .ok (.ifCond .eq 24, 3) := by decide +kernel
theorem dX4_extend_8 : decode cX4_extend 8 = .ok (.iload_n 2, 1) := by decide +kernel
theorem dX4_extend_9 : decode cX4_extend 9 = .ok (.ifCond .lt 20, 3) := by decide +kernel
theorem dX4_extend_12 : decode cX4_extend 12 = .ok (.iload_n 2, 1) := by decide +kernel
theorem dX4_extend_13 : decode cX4_extend 13 = .ok (.bipush 64, 2) := by decide +kernel
theorem dX4_extend_15 : decode cX4_extend 15 = .ok (.aload_n 0, 1) := by decide +kernel
theorem dX4_extend_16 : decode cX4_extend 16 = .ok (.getfield 23, 3) := by decide +kernel
theorem dX4_extend_19 : decode cX4_extend 19 = .ok (.iload_n 1, 1) := by decide +kernel
theorem dX4_extend_20 : decode cX4_extend 20 = .ok (.iaload, 1) := by decide +kernel
theorem dX4_extend_21 : decode cX4_extend 21 = .ok (.isub, 1) := by decide +kernel
theorem dX4_extend_22 : decode cX4_extend 22 = .ok (.if_icmp .gt 7, 3) := by decide +kernel
theorem dX4_extend_25 : decode cX4_extend 25 = .ok (.iconst 1, 1) := by decide +kernel
theorem dX4_extend_26 : decode cX4_extend 26 = .ok (.goto 4, 3) := by decide +kernel
theorem dX4_extend_29 : decode cX4_extend 29 = .ok (.iconst 0, 1) := by decide +kernel
theorem dX4_extend_30 : decode cX4_extend 30 = .ok (.istore 4, 2) := by decide +kernel
theorem dX4_extend_32 : decode cX4_extend 32 = .ok (.iload 4, 2) := by decide +kernel
theorem dX4_extend_34 : decode cX4_extend 34 = .ok (.ifCond .eq 14, 3) := by decide +kernel
theorem dX4_extend_37 : decode cX4_extend 37 = .ok (.aload_n 0, 1) := by decide +kernel
theorem dX4_extend_38 : decode cX4_extend 38 = .ok (.getfield 23, 3) := by decide +kernel
theorem dX4_extend_41 : decode cX4_extend 41 = .ok (.iload_n 1, 1) := by decide +kernel
theorem dX4_extend_42 : decode cX4_extend 42 = .ok (.iaload, 1) := by decide +kernel
theorem dX4_extend_43 : decode cX4_extend 43 = .ok (.iload_n 2, 1) := by decide +kernel
theorem dX4_extend_44 : decode cX4_extend 44 = .ok (.iadd, 1) := by decide +kernel
theorem dX4_extend_45 : decode cX4_extend 45 = .ok (.goto 4, 3) := by decide +kernel
theorem dX4_extend_48 : decode cX4_extend 48 = .ok (.iconst 1, 1) := by decide +kernel
theorem dX4_extend_49 : decode cX4_extend 49 = .ok (.istore 5, 2) := by decide +kernel
theorem dX4_extend_51 : decode cX4_extend 51 = .ok (.aload_n 0, 1) := by decide +kernel
theorem dX4_extend_52 : decode cX4_extend 52 = .ok (.iload 4, 2) := by decide +kernel
theorem dX4_extend_54 : decode cX4_extend 54 = .ok (.iload 5, 2) := by decide +kernel
theorem dX4_extend_56 : decode cX4_extend 56 = .ok (.iload_n 3, 1) := by decide +kernel
theorem dX4_extend_57 : decode cX4_extend 57 = .ok (.ifCond .eq 8, 3) := by decide +kernel
theorem dX4_extend_60 : decode cX4_extend 60 = .ok (.bipush 54, 2) := by decide +kernel
theorem dX4_extend_62 : decode cX4_extend 62 = .ok (.goto 5, 3) := by decide +kernel
theorem dX4_extend_65 : decode cX4_extend 65 = .ok (.bipush 53, 2) := by decide +kernel
theorem dX4_extend_67 : decode cX4_extend 67 = .ok (.iload_n 1, 1) := by decide +kernel
theorem dX4_extend_68 : decode cX4_extend 68 = .ok (.iconst 0, 1) := by decide +kernel
theorem dX4_extend_69 : decode cX4_extend 69 = .ok (.iconst 0, 1) := by decide +kernel
theorem dX4_extend_70 : decode cX4_extend 70 = .ok (.iload 5, 2) := by decide +kernel
theorem dX4_extend_72 : decode cX4_extend 72 = .ok (.invokevirtual 47, 3) := by decide +kernel
theorem dX4_extend_75 : decode cX4_extend 75 = .ok (.ireturn, 1) := by decide +kernel
theorem dX4_signed_0 : decode cX4_signed 0 = .ok (.lload_n 0, 1) := by decide +kernel
theorem dX4_signed_1 : decode cX4_signed 1 = .ok (.bipush 64, 2) := by decide +kernel
theorem dX4_signed_3 : decode cX4_signed 3 = .ok (.iload_n 2, 1) := by decide +kernel
theorem dX4_signed_4 : decode cX4_signed 4 = .ok (.isub, 1) := by decide +kernel
theorem dX4_signed_5 : decode cX4_signed 5 = .ok (.lshl, 1) := by decide +kernel
theorem dX4_signed_6 : decode cX4_signed 6 = .ok (.bipush 64, 2) := by decide +kernel
theorem dX4_signed_8 : decode cX4_signed 8 = .ok (.iload_n 2, 1) := by decide +kernel
theorem dX4_signed_9 : decode cX4_signed 9 = .ok (.isub, 1) := by decide +kernel
theorem dX4_signed_10 : decode cX4_signed 10 = .ok (.lshr, 1) := by decide +kernel
theorem dX4_signed_11 : decode cX4_signed 11 = .ok (.lreturn, 1) := by decide +kernel
theorem dX4_isBelow_0 : decode cX4_isBelow 0 = .ok (.lload_n 0, 1) := by decide +kernel
theorem dX4_isBelow_1 : decode cX4_isBelow 1 = .ok (.ldc2_w 63, 3) := by decide +kernel
theorem dX4_isBelow_4 : decode cX4_isBelow 4 = .ok (.lsub, 1) := by decide +kernel
theorem dX4_isBelow_5 : decode cX4_isBelow 5 = .ok (.lconst 1, 1) := by decide +kernel
theorem dX4_isBelow_6 : decode cX4_isBelow 6 = .ok (.lsub, 1) := by decide +kernel
theorem dX4_isBelow_7 : decode cX4_isBelow 7 = .ok (.lload_n 2, 1) := by decide +kernel
theorem dX4_isBelow_8 : decode cX4_isBelow 8 = .ok (.ldc2_w 63, 3) := by decide +kernel
theorem dX4_isBelow_11 : decode cX4_isBelow 11 = .ok (.lsub, 1) := by decide +kernel
theorem dX4_isBelow_12 : decode cX4_isBelow 12 = .ok (.lconst 1, 1) := by decide +kernel
theorem dX4_isBelow_13 : decode cX4_isBelow 13 = .ok (.lsub, 1) := by decide +kernel
theorem dX4_isBelow_14 : decode cX4_isBelow 14 = .ok (.lcmp, 1) := by decide +kernel
theorem dX4_isBelow_15 : decode cX4_isBelow 15 = .ok (.ifCond .ge 7, 3) := by decide +kernel
theorem dX4_isBelow_18 : decode cX4_isBelow 18 = .ok (.iconst 1, 1) := by decide +kernel
theorem dX4_isBelow_19 : decode cX4_isBelow 19 = .ok (.goto 4, 3) := by decide +kernel
theorem dX4_isBelow_22 : decode cX4_isBelow 22 = .ok (.iconst 0, 1) := by decide +kernel
theorem dX4_isBelow_23 : decode cX4_isBelow 23 = .ok (.ireturn, 1) := by decide +kernel
theorem dX4_divide_0 : decode cX4_divide 0 = .ok (.lconst 0, 1) := by decide +kernel
theorem dX4_divide_1 : decode cX4_divide 1 = .ok (.lstore 5, 2) := by decide +kernel
theorem dX4_divide_3 : decode cX4_divide 3 = .ok (.lconst 0, 1) := by decide +kernel
theorem dX4_divide_4 : decode cX4_divide 4 = .ok (.lstore 7, 2) := by decide +kernel
theorem dX4_divide_6 : decode cX4_divide 6 = .ok (.bipush 63, 2) := by decide +kernel
theorem dX4_divide_8 : decode cX4_divide 8 = .ok (.istore 9, 2) := by decide +kernel
theorem dX4_divide_10 : decode cX4_divide 10 = .ok (.iload 9, 2) := by decide +kernel
theorem dX4_divide_12 : decode cX4_divide 12 = .ok (.ifCond .lt 65, 3) := by decide +kernel
theorem dX4_divide_15 : decode cX4_divide 15 = .ok (.lload 7, 2) := by decide +kernel
theorem dX4_divide_17 : decode cX4_divide 17 = .ok (.lconst 0, 1) := by decide +kernel
theorem dX4_divide_18 : decode cX4_divide 18 = .ok (.lcmp, 1) := by decide +kernel
theorem dX4_divide_19 : decode cX4_divide 19 = .ok (.ifCond .ge 7, 3) := by decide +kernel
theorem dX4_divide_22 : decode cX4_divide 22 = .ok (.iconst 1, 1) := by decide +kernel
theorem dX4_divide_23 : decode cX4_divide 23 = .ok (.goto 4, 3) := by decide +kernel
theorem dX4_divide_26 : decode cX4_divide 26 = .ok (.iconst 0, 1) := by decide +kernel
theorem dX4_divide_27 : decode cX4_divide 27 = .ok (.istore 10, 2) := by decide +kernel
theorem dX4_divide_29 : decode cX4_divide 29 = .ok (.lload 7, 2) := by decide +kernel
theorem dX4_divide_31 : decode cX4_divide 31 = .ok (.iconst 1, 1) := by decide +kernel
theorem dX4_divide_32 : decode cX4_divide 32 = .ok (.lshl, 1) := by decide +kernel
theorem dX4_divide_33 : decode cX4_divide 33 = .ok (.lload_n 0, 1) := by decide +kernel
theorem dX4_divide_34 : decode cX4_divide 34 = .ok (.iload 9, 2) := by decide +kernel
theorem dX4_divide_36 : decode cX4_divide 36 = .ok (.lshr, 1) := by decide +kernel
theorem dX4_divide_37 : decode cX4_divide 37 = .ok (.lconst 1, 1) := by decide +kernel
theorem dX4_divide_38 : decode cX4_divide 38 = .ok (.land, 1) := by decide +kernel
theorem dX4_divide_39 : decode cX4_divide 39 = .ok (.lor, 1) := by decide +kernel
theorem dX4_divide_40 : decode cX4_divide 40 = .ok (.lstore 7, 2) := by decide +kernel
theorem dX4_divide_42 : decode cX4_divide 42 = .ok (.iload 10, 2) := by decide +kernel
theorem dX4_divide_44 : decode cX4_divide 44 = .ok (.ifCond .ne 12, 3) := by decide +kernel
theorem dX4_divide_47 : decode cX4_divide 47 = .ok (.lload 7, 2) := by decide +kernel
theorem dX4_divide_49 : decode cX4_divide 49 = .ok (.lload_n 2, 1) := by decide +kernel
theorem dX4_divide_50 : decode cX4_divide 50 = .ok (.invokestatic 65, 3) := by decide +kernel
theorem dX4_divide_53 : decode cX4_divide 53 = .ok (.ifCond .ne 18, 3) := by decide +kernel
theorem dX4_divide_56 : decode cX4_divide 56 = .ok (.lload 7, 2) := by decide +kernel
theorem dX4_divide_58 : decode cX4_divide 58 = .ok (.lload_n 2, 1) := by decide +kernel
theorem dX4_divide_59 : decode cX4_divide 59 = .ok (.lsub, 1) := by decide +kernel
theorem dX4_divide_60 : decode cX4_divide 60 = .ok (.lstore 7, 2) := by decide +kernel
theorem dX4_divide_62 : decode cX4_divide 62 = .ok (.lload 5, 2) := by decide +kernel
theorem dX4_divide_64 : decode cX4_divide 64 = .ok (.lconst 1, 1) := by decide +kernel
theorem dX4_divide_65 : decode cX4_divide 65 = .ok (.iload 9, 2) := by decide +kernel
theorem dX4_divide_67 : decode cX4_divide 67 = .ok (.lshl, 1) := by decide +kernel
theorem dX4_divide_68 : decode cX4_divide 68 = .ok (.lor, 1) := by decide +kernel
theorem dX4_divide_69 : decode cX4_divide 69 = .ok (.lstore 5, 2) := by decide +kernel
theorem dX4_divide_71 : decode cX4_divide 71 = .ok (.iinc 9 (-1), 3) := by decide +kernel
theorem dX4_divide_74 : decode cX4_divide 74 = .ok (.goto (-64), 3) := by decide +kernel
theorem dX4_divide_77 : decode cX4_divide 77 = .ok (.iload 4, 2) := by decide +kernel
theorem dX4_divide_79 : decode cX4_divide 79 = .ok (.ifCond .eq 8, 3) := by decide +kernel
theorem dX4_divide_82 : decode cX4_divide 82 = .ok (.lload 7, 2) := by decide +kernel
theorem dX4_divide_84 : decode cX4_divide 84 = .ok (.goto 5, 3) := by decide +kernel
theorem dX4_divide_87 : decode cX4_divide 87 = .ok (.lload 5, 2) := by decide +kernel
theorem dX4_divide_89 : decode cX4_divide 89 = .ok (.lreturn, 1) := by decide +kernel
theorem dX4_divided_0 : decode cX4_divided 0 = .ok (.iload_n 0, 1) := by decide +kernel
theorem dX4_divided_1 : decode cX4_divided 1 = .ok (.bipush 8, 2) := by decide +kernel
theorem dX4_divided_3 : decode cX4_divided 3 = .ok (.if_icmp .ge 42, 3) := by decide +kernel
theorem dX4_divided_6 : decode cX4_divided 6 = .ok (.lload_n 3, 1) := by decide +kernel
theorem dX4_divided_7 : decode cX4_divided 7 = .ok (.lconst 0, 1) := by decide +kernel
theorem dX4_divided_8 : decode cX4_divided 8 = .ok (.lcmp, 1) := by decide +kernel
theorem dX4_divided_9 : decode cX4_divided 9 = .ok (.ifCond .ne 19, 3) := by decide +kernel
theorem dX4_divided_12 : decode cX4_divided 12 = .ok (.iload_n 0, 1) := by decide +kernel
theorem dX4_divided_13 : decode cX4_divided 13 = .ok (.bipush 6, 2) := by decide +kernel
theorem dX4_divided_15 : decode cX4_divided 15 = .ok (.if_icmp .ne 9, 3) := by decide +kernel
theorem dX4_divided_18 : decode cX4_divided 18 = .ok (.ldc2_w 41, 3) := by decide +kernel
theorem dX4_divided_21 : decode cX4_divided 21 = .ok (.goto 23, 3) := by decide +kernel
theorem dX4_divided_24 : decode cX4_divided 24 = .ok (.lload_n 1, 1) := by decide +kernel
theorem dX4_divided_25 : decode cX4_divided 25 = .ok (.goto 19, 3) := by decide +kernel
theorem dX4_divided_28 : decode cX4_divided 28 = .ok (.lload_n 1, 1) := by decide +kernel
theorem dX4_divided_29 : decode cX4_divided 29 = .ok (.lload_n 3, 1) := by decide +kernel
theorem dX4_divided_30 : decode cX4_divided 30 = .ok (.iload_n 0, 1) := by decide +kernel
theorem dX4_divided_31 : decode cX4_divided 31 = .ok (.bipush 7, 2) := by decide +kernel
theorem dX4_divided_33 : decode cX4_divided 33 = .ok (.if_icmp .ne 7, 3) := by decide +kernel
theorem dX4_divided_36 : decode cX4_divided 36 = .ok (.iconst 1, 1) := by decide +kernel
theorem dX4_divided_37 : decode cX4_divided 37 = .ok (.goto 4, 3) := by decide +kernel
theorem dX4_divided_40 : decode cX4_divided 40 = .ok (.iconst 0, 1) := by decide +kernel
theorem dX4_divided_41 : decode cX4_divided 41 = .ok (.invokestatic 69, 3) := by decide +kernel
theorem dX4_divided_44 : decode cX4_divided 44 = .ok (.lreturn, 1) := by decide +kernel
theorem dX4_divided_45 : decode cX4_divided 45 = .ok (.lload_n 1, 1) := by decide +kernel
theorem dX4_divided_46 : decode cX4_divided 46 = .ok (.iload 5, 2) := by decide +kernel
theorem dX4_divided_48 : decode cX4_divided 48 = .ok (.invokestatic 73, 3) := by decide +kernel
theorem dX4_divided_51 : decode cX4_divided 51 = .ok (.lstore 6, 2) := by decide +kernel
theorem dX4_divided_53 : decode cX4_divided 53 = .ok (.lload_n 3, 1) := by decide +kernel
theorem dX4_divided_54 : decode cX4_divided 54 = .ok (.iload 5, 2) := by decide +kernel
theorem dX4_divided_56 : decode cX4_divided 56 = .ok (.invokestatic 73, 3) := by decide +kernel
theorem dX4_divided_59 : decode cX4_divided 59 = .ok (.lstore 8, 2) := by decide +kernel
theorem dX4_divided_61 : decode cX4_divided 61 = .ok (.lload 8, 2) := by decide +kernel
theorem dX4_divided_63 : decode cX4_divided 63 = .ok (.lconst 0, 1) := by decide +kernel
theorem dX4_divided_64 : decode cX4_divided 64 = .ok (.lcmp, 1) := by decide +kernel
theorem dX4_divided_65 : decode cX4_divided 65 = .ok (.ifCond .ne 29, 3) := by decide +kernel
theorem dX4_divided_68 : decode cX4_divided 68 = .ok (.iload_n 0, 1) := by decide +kernel
theorem dX4_divided_69 : decode cX4_divided 69 = .ok (.bipush 9, 2) := by decide +kernel
theorem dX4_divided_71 : decode cX4_divided 71 = .ok (.if_icmp .ne 8, 3) := by decide +kernel
theorem dX4_divided_74 : decode cX4_divided 74 = .ok (.lload 6, 2) := by decide +kernel
theorem dX4_divided_76 : decode cX4_divided 76 = .ok (.goto 17, 3) := by decide +kernel
theorem dX4_divided_79 : decode cX4_divided 79 = .ok (.lload 6, 2) := by decide +kernel
theorem dX4_divided_81 : decode cX4_divided 81 = .ok (.lconst 0, 1) := by decide +kernel
theorem dX4_divided_82 : decode cX4_divided 82 = .ok (.lcmp, 1) := by decide +kernel
theorem dX4_divided_83 : decode cX4_divided 83 = .ok (.ifCond .ge 7, 3) := by decide +kernel
theorem dX4_divided_86 : decode cX4_divided 86 = .ok (.lconst 1, 1) := by decide +kernel
theorem dX4_divided_87 : decode cX4_divided 87 = .ok (.goto 6, 3) := by decide +kernel
theorem dX4_divided_90 : decode cX4_divided 90 = .ok (.ldc2_w 41, 3) := by decide +kernel
theorem dX4_divided_93 : decode cX4_divided 93 = .ok (.lreturn, 1) := by decide +kernel
theorem dX4_divided_94 : decode cX4_divided 94 = .ok (.lload 6, 2) := by decide +kernel
theorem dX4_divided_96 : decode cX4_divided 96 = .ok (.lconst 0, 1) := by decide +kernel
theorem dX4_divided_97 : decode cX4_divided 97 = .ok (.lcmp, 1) := by decide +kernel
theorem dX4_divided_98 : decode cX4_divided 98 = .ok (.ifCond .ge 9, 3) := by decide +kernel
theorem dX4_divided_101 : decode cX4_divided 101 = .ok (.lload 6, 2) := by decide +kernel
theorem dX4_divided_103 : decode cX4_divided 103 = .ok (.lneg, 1) := by decide +kernel
theorem dX4_divided_104 : decode cX4_divided 104 = .ok (.goto 5, 3) := by decide +kernel
theorem dX4_divided_107 : decode cX4_divided 107 = .ok (.lload 6, 2) := by decide +kernel
theorem dX4_divided_109 : decode cX4_divided 109 = .ok (.lload 8, 2) := by decide +kernel
theorem dX4_divided_111 : decode cX4_divided 111 = .ok (.lconst 0, 1) := by decide +kernel
theorem dX4_divided_112 : decode cX4_divided 112 = .ok (.lcmp, 1) := by decide +kernel
theorem dX4_divided_113 : decode cX4_divided 113 = .ok (.ifCond .ge 9, 3) := by decide +kernel
theorem dX4_divided_116 : decode cX4_divided 116 = .ok (.lload 8, 2) := by decide +kernel
theorem dX4_divided_118 : decode cX4_divided 118 = .ok (.lneg, 1) := by decide +kernel
theorem dX4_divided_119 : decode cX4_divided 119 = .ok (.goto 5, 3) := by decide +kernel
theorem dX4_divided_122 : decode cX4_divided 122 = .ok (.lload 8, 2) := by decide +kernel
theorem dX4_divided_124 : decode cX4_divided 124 = .ok (.iload_n 0, 1) := by decide +kernel
theorem dX4_divided_125 : decode cX4_divided 125 = .ok (.bipush 9, 2) := by decide +kernel
theorem dX4_divided_127 : decode cX4_divided 127 = .ok (.if_icmp .ne 7, 3) := by decide +kernel
theorem dX4_divided_130 : decode cX4_divided 130 = .ok (.iconst 1, 1) := by decide +kernel
theorem dX4_divided_131 : decode cX4_divided 131 = .ok (.goto 4, 3) := by decide +kernel
theorem dX4_divided_134 : decode cX4_divided 134 = .ok (.iconst 0, 1) := by decide +kernel
theorem dX4_divided_135 : decode cX4_divided 135 = .ok (.invokestatic 69, 3) := by decide +kernel
theorem dX4_divided_138 : decode cX4_divided 138 = .ok (.lstore 10, 2) := by decide +kernel
theorem dX4_divided_140 : decode cX4_divided 140 = .ok (.iload_n 0, 1) := by decide +kernel
theorem dX4_divided_141 : decode cX4_divided 141 = .ok (.bipush 9, 2) := by decide +kernel
theorem dX4_divided_143 : decode cX4_divided 143 = .ok (.if_icmp .ne 18, 3) := by decide +kernel
theorem dX4_divided_146 : decode cX4_divided 146 = .ok (.lload 6, 2) := by decide +kernel
theorem dX4_divided_148 : decode cX4_divided 148 = .ok (.lconst 0, 1) := by decide +kernel
theorem dX4_divided_149 : decode cX4_divided 149 = .ok (.lcmp, 1) := by decide +kernel
theorem dX4_divided_150 : decode cX4_divided 150 = .ok (.ifCond .ge 7, 3) := by decide +kernel
theorem dX4_divided_153 : decode cX4_divided 153 = .ok (.iconst 1, 1) := by decide +kernel
theorem dX4_divided_154 : decode cX4_divided 154 = .ok (.goto 39, 3) := by decide +kernel
theorem dX4_divided_157 : decode cX4_divided 157 = .ok (.iconst 0, 1) := by decide +kernel
theorem dX4_divided_158 : decode cX4_divided 158 = .ok (.goto 35, 3) := by decide +kernel
theorem dX4_divided_161 : decode cX4_divided 161 = .ok (.lload 6, 2) := by decide +kernel
theorem dX4_divided_163 : decode cX4_divided 163 = .ok (.lconst 0, 1) := by decide +kernel
theorem dX4_divided_164 : decode cX4_divided 164 = .ok (.lcmp, 1) := by decide +kernel
theorem dX4_divided_165 : decode cX4_divided 165 = .ok (.ifCond .ge 7, 3) := by decide +kernel
theorem dX4_divided_168 : decode cX4_divided 168 = .ok (.iconst 1, 1) := by decide +kernel
theorem dX4_divided_169 : decode cX4_divided 169 = .ok (.goto 4, 3) := by decide +kernel
theorem dX4_divided_172 : decode cX4_divided 172 = .ok (.iconst 0, 1) := by decide +kernel
theorem dX4_divided_173 : decode cX4_divided 173 = .ok (.lload 8, 2) := by decide +kernel
theorem dX4_divided_175 : decode cX4_divided 175 = .ok (.lconst 0, 1) := by decide +kernel
theorem dX4_divided_176 : decode cX4_divided 176 = .ok (.lcmp, 1) := by decide +kernel
theorem dX4_divided_177 : decode cX4_divided 177 = .ok (.ifCond .ge 7, 3) := by decide +kernel
theorem dX4_divided_180 : decode cX4_divided 180 = .ok (.iconst 1, 1) := by decide +kernel
theorem dX4_divided_181 : decode cX4_divided 181 = .ok (.goto 4, 3) := by decide +kernel
theorem dX4_divided_184 : decode cX4_divided 184 = .ok (.iconst 0, 1) := by decide +kernel
theorem dX4_divided_185 : decode cX4_divided 185 = .ok (.if_icmp .eq 7, 3) := by decide +kernel
theorem dX4_divided_188 : decode cX4_divided 188 = .ok (.iconst 1, 1) := by decide +kernel
theorem dX4_divided_189 : decode cX4_divided 189 = .ok (.goto 4, 3) := by decide +kernel
theorem dX4_divided_192 : decode cX4_divided 192 = .ok (.iconst 0, 1) := by decide +kernel
theorem dX4_divided_193 : decode cX4_divided 193 = .ok (.istore 12, 2) := by decide +kernel
theorem dX4_divided_195 : decode cX4_divided 195 = .ok (.iload 12, 2) := by decide +kernel
theorem dX4_divided_197 : decode cX4_divided 197 = .ok (.ifCond .eq 9, 3) := by decide +kernel
theorem dX4_divided_200 : decode cX4_divided 200 = .ok (.lload 10, 2) := by decide +kernel
theorem dX4_divided_202 : decode cX4_divided 202 = .ok (.lneg, 1) := by decide +kernel
theorem dX4_divided_203 : decode cX4_divided 203 = .ok (.goto 5, 3) := by decide +kernel
theorem dX4_divided_206 : decode cX4_divided 206 = .ok (.lload 10, 2) := by decide +kernel
theorem dX4_divided_208 : decode cX4_divided 208 = .ok (.lreturn, 1) := by decide +kernel
theorem dX4_shifted_0 : decode cX4_shifted 0 = .ok (.lload_n 3, 1) := by decide +kernel
theorem dX4_shifted_1 : decode cX4_shifted 1 = .ok (.iload 5, 2) := by decide +kernel
theorem dX4_shifted_3 : decode cX4_shifted 3 = .ok (.i2l, 1) := by decide +kernel
theorem dX4_shifted_4 : decode cX4_shifted 4 = .ok (.invokestatic 65, 3) := by decide +kernel
theorem dX4_shifted_7 : decode cX4_shifted 7 = .ok (.istore 6, 2) := by decide +kernel
theorem dX4_shifted_9 : decode cX4_shifted 9 = .ok (.iload_n 0, 1) := by decide +kernel
theorem dX4_shifted_10 : decode cX4_shifted 10 = .ok (.bipush 12, 2) := by decide +kernel
theorem dX4_shifted_12 : decode cX4_shifted 12 = .ok (.if_icmp .ne 12, 3) := by decide +kernel
theorem dX4_shifted_15 : decode cX4_shifted 15 = .ok (.lload_n 1, 1) := by decide +kernel
theorem dX4_shifted_16 : decode cX4_shifted 16 = .ok (.iload 5, 2) := by decide +kernel
theorem dX4_shifted_18 : decode cX4_shifted 18 = .ok (.invokestatic 73, 3) := by decide +kernel
theorem dX4_shifted_21 : decode cX4_shifted 21 = .ok (.goto 4, 3) := by decide +kernel
theorem dX4_shifted_24 : decode cX4_shifted 24 = .ok (.lload_n 1, 1) := by decide +kernel
theorem dX4_shifted_25 : decode cX4_shifted 25 = .ok (.lstore 7, 2) := by decide +kernel
theorem dX4_shifted_27 : decode cX4_shifted 27 = .ok (.iload 6, 2) := by decide +kernel
theorem dX4_shifted_29 : decode cX4_shifted 29 = .ok (.ifCond .ne 24, 3) := by decide +kernel
theorem dX4_shifted_32 : decode cX4_shifted 32 = .ok (.iload_n 0, 1) := by decide +kernel
theorem dX4_shifted_33 : decode cX4_shifted 33 = .ok (.bipush 12, 2) := by decide +kernel
theorem dX4_shifted_35 : decode cX4_shifted 35 = .ok (.if_icmp .ne 16, 3) := by decide +kernel
theorem dX4_shifted_38 : decode cX4_shifted 38 = .ok (.lload 7, 2) := by decide +kernel
theorem dX4_shifted_40 : decode cX4_shifted 40 = .ok (.lconst 0, 1) := by decide +kernel
theorem dX4_shifted_41 : decode cX4_shifted 41 = .ok (.lcmp, 1) := by decide +kernel
theorem dX4_shifted_42 : decode cX4_shifted 42 = .ok (.ifCond .ge 9, 3) := by decide +kernel
theorem dX4_shifted_45 : decode cX4_shifted 45 = .ok (.ldc2_w 41, 3) := by decide +kernel
theorem dX4_shifted_48 : decode cX4_shifted 48 = .ok (.goto 4, 3) := by decide +kernel
theorem dX4_shifted_51 : decode cX4_shifted 51 = .ok (.lconst 0, 1) := by decide +kernel
theorem dX4_shifted_52 : decode cX4_shifted 52 = .ok (.lreturn, 1) := by decide +kernel
theorem dX4_shifted_53 : decode cX4_shifted 53 = .ok (.lload_n 3, 1) := by decide +kernel
theorem dX4_shifted_54 : decode cX4_shifted 54 = .ok (.l2i, 1) := by decide +kernel
theorem dX4_shifted_55 : decode cX4_shifted 55 = .ok (.istore 9, 2) := by decide +kernel
theorem dX4_shifted_57 : decode cX4_shifted 57 = .ok (.iload_n 0, 1) := by decide +kernel
theorem dX4_shifted_58 : decode cX4_shifted 58 = .ok (.bipush 10, 2) := by decide +kernel
theorem dX4_shifted_60 : decode cX4_shifted 60 = .ok (.if_icmp .ne 11, 3) := by decide +kernel
theorem dX4_shifted_63 : decode cX4_shifted 63 = .ok (.lload 7, 2) := by decide +kernel
theorem dX4_shifted_65 : decode cX4_shifted 65 = .ok (.iload 9, 2) := by decide +kernel
theorem dX4_shifted_67 : decode cX4_shifted 67 = .ok (.lshl, 1) := by decide +kernel
theorem dX4_shifted_68 : decode cX4_shifted 68 = .ok (.goto 22, 3) := by decide +kernel
theorem dX4_shifted_71 : decode cX4_shifted 71 = .ok (.iload_n 0, 1) := by decide +kernel
theorem dX4_shifted_72 : decode cX4_shifted 72 = .ok (.bipush 12, 2) := by decide +kernel
theorem dX4_shifted_74 : decode cX4_shifted 74 = .ok (.if_icmp .ne 11, 3) := by decide +kernel
theorem dX4_shifted_77 : decode cX4_shifted 77 = .ok (.lload 7, 2) := by decide +kernel
theorem dX4_shifted_79 : decode cX4_shifted 79 = .ok (.iload 9, 2) := by decide +kernel
theorem dX4_shifted_81 : decode cX4_shifted 81 = .ok (.lshr, 1) := by decide +kernel
theorem dX4_shifted_82 : decode cX4_shifted 82 = .ok (.goto 8, 3) := by decide +kernel
theorem dX4_shifted_85 : decode cX4_shifted 85 = .ok (.lload 7, 2) := by decide +kernel
theorem dX4_shifted_87 : decode cX4_shifted 87 = .ok (.iload 9, 2) := by decide +kernel
theorem dX4_shifted_89 : decode cX4_shifted 89 = .ok (.lushr, 1) := by decide +kernel
theorem dX4_shifted_90 : decode cX4_shifted 90 = .ok (.lreturn, 1) := by decide +kernel
theorem dX4_both_0 : decode cX4_both 0 = .ok (.iload_n 0, 1) := by decide +kernel
theorem dX4_both_1 : decode cX4_both 1 = .ok (.tableswitch 88 0 9 #[55, 59, 63, 67, 71, 75, 79, 79, 79, 79], 55) := by decide +kernel
theorem dX4_both_56 : decode cX4_both 56 = .ok (.lload_n 1, 1) := by decide +kernel
theorem dX4_both_57 : decode cX4_both 57 = .ok (.lload_n 3, 1) := by decide +kernel
theorem dX4_both_58 : decode cX4_both 58 = .ok (.land, 1) := by decide +kernel
theorem dX4_both_59 : decode cX4_both 59 = .ok (.lreturn, 1) := by decide +kernel
theorem dX4_both_60 : decode cX4_both 60 = .ok (.lload_n 1, 1) := by decide +kernel
theorem dX4_both_61 : decode cX4_both 61 = .ok (.lload_n 3, 1) := by decide +kernel
theorem dX4_both_62 : decode cX4_both 62 = .ok (.lor, 1) := by decide +kernel
theorem dX4_both_63 : decode cX4_both 63 = .ok (.lreturn, 1) := by decide +kernel
theorem dX4_both_64 : decode cX4_both 64 = .ok (.lload_n 1, 1) := by decide +kernel
theorem dX4_both_65 : decode cX4_both 65 = .ok (.lload_n 3, 1) := by decide +kernel
theorem dX4_both_66 : decode cX4_both 66 = .ok (.lxor, 1) := by decide +kernel
theorem dX4_both_67 : decode cX4_both 67 = .ok (.lreturn, 1) := by decide +kernel
theorem dX4_both_68 : decode cX4_both 68 = .ok (.lload_n 1, 1) := by decide +kernel
theorem dX4_both_69 : decode cX4_both 69 = .ok (.lload_n 3, 1) := by decide +kernel
theorem dX4_both_70 : decode cX4_both 70 = .ok (.ladd, 1) := by decide +kernel
theorem dX4_both_71 : decode cX4_both 71 = .ok (.lreturn, 1) := by decide +kernel
theorem dX4_both_72 : decode cX4_both 72 = .ok (.lload_n 1, 1) := by decide +kernel
theorem dX4_both_73 : decode cX4_both 73 = .ok (.lload_n 3, 1) := by decide +kernel
theorem dX4_both_74 : decode cX4_both 74 = .ok (.lsub, 1) := by decide +kernel
theorem dX4_both_75 : decode cX4_both 75 = .ok (.lreturn, 1) := by decide +kernel
theorem dX4_both_76 : decode cX4_both 76 = .ok (.lload_n 1, 1) := by decide +kernel
theorem dX4_both_77 : decode cX4_both 77 = .ok (.lload_n 3, 1) := by decide +kernel
theorem dX4_both_78 : decode cX4_both 78 = .ok (.lmul, 1) := by decide +kernel
theorem dX4_both_79 : decode cX4_both 79 = .ok (.lreturn, 1) := by decide +kernel
theorem dX4_both_80 : decode cX4_both 80 = .ok (.iload_n 0, 1) := by decide +kernel
theorem dX4_both_81 : decode cX4_both 81 = .ok (.lload_n 1, 1) := by decide +kernel
theorem dX4_both_82 : decode cX4_both 82 = .ok (.lload_n 3, 1) := by decide +kernel
theorem dX4_both_83 : decode cX4_both 83 = .ok (.iload 5, 2) := by decide +kernel
theorem dX4_both_85 : decode cX4_both 85 = .ok (.invokestatic 77, 3) := by decide +kernel
theorem dX4_both_88 : decode cX4_both 88 = .ok (.lreturn, 1) := by decide +kernel
theorem dX4_both_89 : decode cX4_both 89 = .ok (.iload_n 0, 1) := by decide +kernel
theorem dX4_both_90 : decode cX4_both 90 = .ok (.lload_n 1, 1) := by decide +kernel
theorem dX4_both_91 : decode cX4_both 91 = .ok (.lload_n 3, 1) := by decide +kernel
theorem dX4_both_92 : decode cX4_both 92 = .ok (.iload 5, 2) := by decide +kernel
theorem dX4_both_94 : decode cX4_both 94 = .ok (.invokestatic 81, 3) := by decide +kernel
theorem dX4_both_97 : decode cX4_both 97 = .ok (.lreturn, 1) := by decide +kernel
theorem dX4_holds_0 : decode cX4_holds 0 = .ok (.iload_n 0, 1) := by decide +kernel
theorem dX4_holds_1 : decode cX4_holds 1 = .ok (.tableswitch 85 0 3 #[31, 43, 49, 63], 31) := by decide +kernel
theorem dX4_holds_32 : decode cX4_holds 32 = .ok (.lload_n 1, 1) := by decide +kernel
theorem dX4_holds_33 : decode cX4_holds 33 = .ok (.lload_n 3, 1) := by decide +kernel
theorem dX4_holds_34 : decode cX4_holds 34 = .ok (.lcmp, 1) := by decide +kernel
theorem dX4_holds_35 : decode cX4_holds 35 = .ok (.ifCond .ne 7, 3) := by decide +kernel
theorem dX4_holds_38 : decode cX4_holds 38 = .ok (.iconst 1, 1) := by decide +kernel
theorem dX4_holds_39 : decode cX4_holds 39 = .ok (.goto 4, 3) := by decide +kernel
theorem dX4_holds_42 : decode cX4_holds 42 = .ok (.iconst 0, 1) := by decide +kernel
theorem dX4_holds_43 : decode cX4_holds 43 = .ok (.ireturn, 1) := by decide +kernel
theorem dX4_holds_44 : decode cX4_holds 44 = .ok (.lload_n 1, 1) := by decide +kernel
theorem dX4_holds_45 : decode cX4_holds 45 = .ok (.lload_n 3, 1) := by decide +kernel
theorem dX4_holds_46 : decode cX4_holds 46 = .ok (.invokestatic 65, 3) := by decide +kernel
theorem dX4_holds_49 : decode cX4_holds 49 = .ok (.ireturn, 1) := by decide +kernel
theorem dX4_holds_50 : decode cX4_holds 50 = .ok (.lload_n 3, 1) := by decide +kernel
theorem dX4_holds_51 : decode cX4_holds 51 = .ok (.lload_n 1, 1) := by decide +kernel
theorem dX4_holds_52 : decode cX4_holds 52 = .ok (.invokestatic 65, 3) := by decide +kernel
theorem dX4_holds_55 : decode cX4_holds 55 = .ok (.ifCond .ne 7, 3) := by decide +kernel
theorem dX4_holds_58 : decode cX4_holds 58 = .ok (.iconst 1, 1) := by decide +kernel
theorem dX4_holds_59 : decode cX4_holds 59 = .ok (.goto 4, 3) := by decide +kernel
theorem dX4_holds_62 : decode cX4_holds 62 = .ok (.iconst 0, 1) := by decide +kernel
theorem dX4_holds_63 : decode cX4_holds 63 = .ok (.ireturn, 1) := by decide +kernel
theorem dX4_holds_64 : decode cX4_holds 64 = .ok (.lload_n 1, 1) := by decide +kernel
theorem dX4_holds_65 : decode cX4_holds 65 = .ok (.iload 5, 2) := by decide +kernel
theorem dX4_holds_67 : decode cX4_holds 67 = .ok (.invokestatic 73, 3) := by decide +kernel
theorem dX4_holds_70 : decode cX4_holds 70 = .ok (.lload_n 3, 1) := by decide +kernel
theorem dX4_holds_71 : decode cX4_holds 71 = .ok (.iload 5, 2) := by decide +kernel
theorem dX4_holds_73 : decode cX4_holds 73 = .ok (.invokestatic 73, 3) := by decide +kernel
theorem dX4_holds_76 : decode cX4_holds 76 = .ok (.lcmp, 1) := by decide +kernel
theorem dX4_holds_77 : decode cX4_holds 77 = .ok (.ifCond .ge 7, 3) := by decide +kernel
theorem dX4_holds_80 : decode cX4_holds 80 = .ok (.iconst 1, 1) := by decide +kernel
theorem dX4_holds_81 : decode cX4_holds 81 = .ok (.goto 4, 3) := by decide +kernel
theorem dX4_holds_84 : decode cX4_holds 84 = .ok (.iconst 0, 1) := by decide +kernel
theorem dX4_holds_85 : decode cX4_holds 85 = .ok (.ireturn, 1) := by decide +kernel
theorem dX4_holds_86 : decode cX4_holds 86 = .ok (.lload_n 1, 1) := by decide +kernel
theorem dX4_holds_87 : decode cX4_holds 87 = .ok (.iload 5, 2) := by decide +kernel
theorem dX4_holds_89 : decode cX4_holds 89 = .ok (.invokestatic 73, 3) := by decide +kernel
theorem dX4_holds_92 : decode cX4_holds 92 = .ok (.lload_n 3, 1) := by decide +kernel
theorem dX4_holds_93 : decode cX4_holds 93 = .ok (.iload 5, 2) := by decide +kernel
theorem dX4_holds_95 : decode cX4_holds 95 = .ok (.invokestatic 73, 3) := by decide +kernel
theorem dX4_holds_98 : decode cX4_holds 98 = .ok (.lcmp, 1) := by decide +kernel
theorem dX4_holds_99 : decode cX4_holds 99 = .ok (.ifCond .gt 7, 3) := by decide +kernel
theorem dX4_holds_102 : decode cX4_holds 102 = .ok (.iconst 1, 1) := by decide +kernel
theorem dX4_holds_103 : decode cX4_holds 103 = .ok (.goto 4, 3) := by decide +kernel
theorem dX4_holds_106 : decode cX4_holds 106 = .ok (.iconst 0, 1) := by decide +kernel
theorem dX4_holds_107 : decode cX4_holds 107 = .ok (.ireturn, 1) := by decide +kernel
theorem dX4_reckon_0 : decode cX4_reckon 0 = .ok (.aload_n 0, 1) := by decide +kernel
theorem dX4_reckon_1 : decode cX4_reckon 1 = .ok (.getfield 7, 3) := by decide +kernel
theorem dX4_reckon_4 : decode cX4_reckon 4 = .ok (.iload_n 1, 1) := by decide +kernel
theorem dX4_reckon_5 : decode cX4_reckon 5 = .ok (.baload, 1) := by decide +kernel
theorem dX4_reckon_6 : decode cX4_reckon 6 = .ok (.istore_n 2, 1) := by decide +kernel
theorem dX4_reckon_7 : decode cX4_reckon 7 = .ok (.aload_n 0, 1) := by decide +kernel
theorem dX4_reckon_8 : decode cX4_reckon 8 = .ok (.getfield 26, 3) := by decide +kernel
theorem dX4_reckon_11 : decode cX4_reckon 11 = .ok (.aload_n 0, 1) := by decide +kernel
theorem dX4_reckon_12 : decode cX4_reckon 12 = .ok (.getfield 13, 3) := by decide +kernel
theorem dX4_reckon_15 : decode cX4_reckon 15 = .ok (.iload_n 1, 1) := by decide +kernel
theorem dX4_reckon_16 : decode cX4_reckon 16 = .ok (.iaload, 1) := by decide +kernel
theorem dX4_reckon_17 : decode cX4_reckon 17 = .ok (.laload, 1) := by decide +kernel
theorem dX4_reckon_18 : decode cX4_reckon 18 = .ok (.lstore_n 3, 1) := by decide +kernel
theorem dX4_reckon_19 : decode cX4_reckon 19 = .ok (.aload_n 0, 1) := by decide +kernel
theorem dX4_reckon_20 : decode cX4_reckon 20 = .ok (.getfield 23, 3) := by decide +kernel
theorem dX4_reckon_23 : decode cX4_reckon 23 = .ok (.aload_n 0, 1) := by decide +kernel
theorem dX4_reckon_24 : decode cX4_reckon 24 = .ok (.getfield 13, 3) := by decide +kernel
theorem dX4_reckon_27 : decode cX4_reckon 27 = .ok (.iload_n 1, 1) := by decide +kernel
theorem dX4_reckon_28 : decode cX4_reckon 28 = .ok (.iaload, 1) := by decide +kernel
theorem dX4_reckon_29 : decode cX4_reckon 29 = .ok (.iaload, 1) := by decide +kernel
theorem dX4_reckon_30 : decode cX4_reckon 30 = .ok (.istore 5, 2) := by decide +kernel
theorem dX4_reckon_32 : decode cX4_reckon 32 = .ok (.iload_n 2, 1) := by decide +kernel
theorem dX4_reckon_33 : decode cX4_reckon 33 = .ok (.iconst 2, 1) := by decide +kernel
theorem dX4_reckon_34 : decode cX4_reckon 34 = .ok (.if_icmp .ge 10, 3) := by decide +kernel
theorem dX4_reckon_37 : decode cX4_reckon 37 = .ok (.aload_n 0, 1) := by decide +kernel
theorem dX4_reckon_38 : decode cX4_reckon 38 = .ok (.getfield 26, 3) := by decide +kernel
theorem dX4_reckon_41 : decode cX4_reckon 41 = .ok (.iload_n 1, 1) := by decide +kernel
theorem dX4_reckon_42 : decode cX4_reckon 42 = .ok (.laload, 1) := by decide +kernel
theorem dX4_reckon_43 : decode cX4_reckon 43 = .ok (.lreturn, 1) := by decide +kernel
theorem dX4_reckon_44 : decode cX4_reckon 44 = .ok (.iload_n 2, 1) := by decide +kernel
theorem dX4_reckon_45 : decode cX4_reckon 45 = .ok (.bipush 20, 2) := by decide +kernel
theorem dX4_reckon_47 : decode cX4_reckon 47 = .ok (.if_icmp .ge 20, 3) := by decide +kernel
theorem dX4_reckon_50 : decode cX4_reckon 50 = .ok (.iload_n 2, 1) := by decide +kernel
theorem dX4_reckon_51 : decode cX4_reckon 51 = .ok (.bipush 10, 2) := by decide +kernel
theorem dX4_reckon_53 : decode cX4_reckon 53 = .ok (.if_icmp .ne 11, 3) := by decide +kernel
theorem dX4_reckon_56 : decode cX4_reckon 56 = .ok (.lload_n 3, 1) := by decide +kernel
theorem dX4_reckon_57 : decode cX4_reckon 57 = .ok (.ldc2_w 41, 3) := by decide +kernel
theorem dX4_reckon_60 : decode cX4_reckon 60 = .ok (.lxor, 1) := by decide +kernel
theorem dX4_reckon_61 : decode cX4_reckon 61 = .ok (.goto 5, 3) := by decide +kernel
theorem dX4_reckon_64 : decode cX4_reckon 64 = .ok (.lload_n 3, 1) := by decide +kernel
theorem dX4_reckon_65 : decode cX4_reckon 65 = .ok (.lneg, 1) := by decide +kernel
theorem dX4_reckon_66 : decode cX4_reckon 66 = .ok (.lreturn, 1) := by decide +kernel
theorem dX4_reckon_67 : decode cX4_reckon 67 = .ok (.iload_n 2, 1) := by decide +kernel
theorem dX4_reckon_68 : decode cX4_reckon 68 = .ok (.bipush 40, 2) := by decide +kernel
theorem dX4_reckon_70 : decode cX4_reckon 70 = .ok (.if_icmp .ge 25, 3) := by decide +kernel
theorem dX4_reckon_73 : decode cX4_reckon 73 = .ok (.iload_n 2, 1) := by decide +kernel
theorem dX4_reckon_74 : decode cX4_reckon 74 = .ok (.bipush 20, 2) := by decide +kernel
theorem dX4_reckon_76 : decode cX4_reckon 76 = .ok (.isub, 1) := by decide +kernel
theorem dX4_reckon_77 : decode cX4_reckon 77 = .ok (.lload_n 3, 1) := by decide +kernel
theorem dX4_reckon_78 : decode cX4_reckon 78 = .ok (.aload_n 0, 1) := by decide +kernel
theorem dX4_reckon_79 : decode cX4_reckon 79 = .ok (.getfield 26, 3) := by decide +kernel
theorem dX4_reckon_82 : decode cX4_reckon 82 = .ok (.aload_n 0, 1) := by decide +kernel
theorem dX4_reckon_83 : decode cX4_reckon 83 = .ok (.getfield 17, 3) := by decide +kernel
theorem dX4_reckon_86 : decode cX4_reckon 86 = .ok (.iload_n 1, 1) := by decide +kernel
theorem dX4_reckon_87 : decode cX4_reckon 87 = .ok (.iaload, 1) := by decide +kernel
theorem dX4_reckon_88 : decode cX4_reckon 88 = .ok (.laload, 1) := by decide +kernel
theorem dX4_reckon_89 : decode cX4_reckon 89 = .ok (.iload 5, 2) := by decide +kernel
theorem dX4_reckon_91 : decode cX4_reckon 91 = .ok (.invokestatic 84, 3) := by decide +kernel
theorem dX4_reckon_94 : decode cX4_reckon 94 = .ok (.lreturn, 1) := by decide +kernel
theorem dX4_reckon_95 : decode cX4_reckon 95 = .ok (.iload_n 2, 1) := by decide +kernel
theorem dX4_reckon_96 : decode cX4_reckon 96 = .ok (.bipush 50, 2) := by decide +kernel
theorem dX4_reckon_98 : decode cX4_reckon 98 = .ok (.if_icmp .ge 33, 3) := by decide +kernel
theorem dX4_reckon_101 : decode cX4_reckon 101 = .ok (.iload_n 2, 1) := by decide +kernel
theorem dX4_reckon_102 : decode cX4_reckon 102 = .ok (.bipush 40, 2) := by decide +kernel
theorem dX4_reckon_104 : decode cX4_reckon 104 = .ok (.isub, 1) := by decide +kernel
theorem dX4_reckon_105 : decode cX4_reckon 105 = .ok (.lload_n 3, 1) := by decide +kernel
theorem dX4_reckon_106 : decode cX4_reckon 106 = .ok (.aload_n 0, 1) := by decide +kernel
theorem dX4_reckon_107 : decode cX4_reckon 107 = .ok (.getfield 26, 3) := by decide +kernel
theorem dX4_reckon_110 : decode cX4_reckon 110 = .ok (.aload_n 0, 1) := by decide +kernel
theorem dX4_reckon_111 : decode cX4_reckon 111 = .ok (.getfield 17, 3) := by decide +kernel
theorem dX4_reckon_114 : decode cX4_reckon 114 = .ok (.iload_n 1, 1) := by decide +kernel
theorem dX4_reckon_115 : decode cX4_reckon 115 = .ok (.iaload, 1) := by decide +kernel
theorem dX4_reckon_116 : decode cX4_reckon 116 = .ok (.laload, 1) := by decide +kernel
theorem dX4_reckon_117 : decode cX4_reckon 117 = .ok (.iload 5, 2) := by decide +kernel
theorem dX4_reckon_119 : decode cX4_reckon 119 = .ok (.invokestatic 87, 3) := by decide +kernel
theorem dX4_reckon_122 : decode cX4_reckon 122 = .ok (.ifCond .eq 7, 3) := by decide +kernel
theorem dX4_reckon_125 : decode cX4_reckon 125 = .ok (.lconst 1, 1) := by decide +kernel
theorem dX4_reckon_126 : decode cX4_reckon 126 = .ok (.goto 4, 3) := by decide +kernel
theorem dX4_reckon_129 : decode cX4_reckon 129 = .ok (.lconst 0, 1) := by decide +kernel
theorem dX4_reckon_130 : decode cX4_reckon 130 = .ok (.lreturn, 1) := by decide +kernel
theorem dX4_reckon_131 : decode cX4_reckon 131 = .ok (.iload_n 2, 1) := by decide +kernel
theorem dX4_reckon_132 : decode cX4_reckon 132 = .ok (.tableswitch 99 50 53 #[32, 64, 88, 97], 32) := by decide +kernel
theorem dX4_reckon_164 : decode cX4_reckon 164 = .ok (.aload_n 0, 1) := by decide +kernel
theorem dX4_reckon_165 : decode cX4_reckon 165 = .ok (.getfield 26, 3) := by decide +kernel
theorem dX4_reckon_168 : decode cX4_reckon 168 = .ok (.aload_n 0, 1) := by decide +kernel
theorem dX4_reckon_169 : decode cX4_reckon 169 = .ok (.getfield 20, 3) := by decide +kernel
theorem dX4_reckon_172 : decode cX4_reckon 172 = .ok (.iload_n 1, 1) := by decide +kernel
theorem dX4_reckon_173 : decode cX4_reckon 173 = .ok (.iaload, 1) := by decide +kernel
theorem dX4_reckon_174 : decode cX4_reckon 174 = .ok (.laload, 1) := by decide +kernel
theorem dX4_reckon_175 : decode cX4_reckon 175 = .ok (.lconst 1, 1) := by decide +kernel
theorem dX4_reckon_176 : decode cX4_reckon 176 = .ok (.lcmp, 1) := by decide +kernel
theorem dX4_reckon_177 : decode cX4_reckon 177 = .ok (.ifCond .ne 7, 3) := by decide +kernel
theorem dX4_reckon_180 : decode cX4_reckon 180 = .ok (.lload_n 3, 1) := by decide +kernel
theorem dX4_reckon_181 : decode cX4_reckon 181 = .ok (.goto 14, 3) := by decide +kernel
theorem dX4_reckon_184 : decode cX4_reckon 184 = .ok (.aload_n 0, 1) := by decide +kernel
theorem dX4_reckon_185 : decode cX4_reckon 185 = .ok (.getfield 26, 3) := by decide +kernel
theorem dX4_reckon_188 : decode cX4_reckon 188 = .ok (.aload_n 0, 1) := by decide +kernel
theorem dX4_reckon_189 : decode cX4_reckon 189 = .ok (.getfield 17, 3) := by decide +kernel
theorem dX4_reckon_192 : decode cX4_reckon 192 = .ok (.iload_n 1, 1) := by decide +kernel
theorem dX4_reckon_193 : decode cX4_reckon 193 = .ok (.iaload, 1) := by decide +kernel
theorem dX4_reckon_194 : decode cX4_reckon 194 = .ok (.laload, 1) := by decide +kernel
theorem dX4_reckon_195 : decode cX4_reckon 195 = .ok (.lreturn, 1) := by decide +kernel
theorem dX4_reckon_196 : decode cX4_reckon 196 = .ok (.lload_n 3, 1) := by decide +kernel
theorem dX4_reckon_197 : decode cX4_reckon 197 = .ok (.aload_n 0, 1) := by decide +kernel
theorem dX4_reckon_198 : decode cX4_reckon 198 = .ok (.getfield 23, 3) := by decide +kernel
theorem dX4_reckon_201 : decode cX4_reckon 201 = .ok (.iload_n 1, 1) := by decide +kernel
theorem dX4_reckon_202 : decode cX4_reckon 202 = .ok (.iaload, 1) := by decide +kernel
theorem dX4_reckon_203 : decode cX4_reckon 203 = .ok (.iload 5, 2) := by decide +kernel
theorem dX4_reckon_205 : decode cX4_reckon 205 = .ok (.isub, 1) := by decide +kernel
theorem dX4_reckon_206 : decode cX4_reckon 206 = .ok (.lshl, 1) := by decide +kernel
theorem dX4_reckon_207 : decode cX4_reckon 207 = .ok (.aload_n 0, 1) := by decide +kernel
theorem dX4_reckon_208 : decode cX4_reckon 208 = .ok (.getfield 26, 3) := by decide +kernel
theorem dX4_reckon_211 : decode cX4_reckon 211 = .ok (.aload_n 0, 1) := by decide +kernel
theorem dX4_reckon_212 : decode cX4_reckon 212 = .ok (.getfield 17, 3) := by decide +kernel
theorem dX4_reckon_215 : decode cX4_reckon 215 = .ok (.iload_n 1, 1) := by decide +kernel
theorem dX4_reckon_216 : decode cX4_reckon 216 = .ok (.iaload, 1) := by decide +kernel
theorem dX4_reckon_217 : decode cX4_reckon 217 = .ok (.laload, 1) := by decide +kernel
theorem dX4_reckon_218 : decode cX4_reckon 218 = .ok (.lor, 1) := by decide +kernel
theorem dX4_reckon_219 : decode cX4_reckon 219 = .ok (.lreturn, 1) := by decide +kernel
theorem dX4_reckon_220 : decode cX4_reckon 220 = .ok (.lload_n 3, 1) := by decide +kernel
theorem dX4_reckon_221 : decode cX4_reckon 221 = .ok (.aload_n 0, 1) := by decide +kernel
theorem dX4_reckon_222 : decode cX4_reckon 222 = .ok (.getfield 17, 3) := by decide +kernel
theorem dX4_reckon_225 : decode cX4_reckon 225 = .ok (.iload_n 1, 1) := by decide +kernel
theorem dX4_reckon_226 : decode cX4_reckon 226 = .ok (.iaload, 1) := by decide +kernel
theorem dX4_reckon_227 : decode cX4_reckon 227 = .ok (.lushr, 1) := by decide +kernel
theorem dX4_reckon_228 : decode cX4_reckon 228 = .ok (.lreturn, 1) := by decide +kernel
theorem dX4_reckon_229 : decode cX4_reckon 229 = .ok (.lload_n 3, 1) := by decide +kernel
theorem dX4_reckon_230 : decode cX4_reckon 230 = .ok (.lreturn, 1) := by decide +kernel
theorem dX4_reckon_231 : decode cX4_reckon 231 = .ok (.lload_n 3, 1) := by decide +kernel
theorem dX4_reckon_232 : decode cX4_reckon 232 = .ok (.iload 5, 2) := by decide +kernel
theorem dX4_reckon_234 : decode cX4_reckon 234 = .ok (.invokestatic 73, 3) := by decide +kernel
theorem dX4_reckon_237 : decode cX4_reckon 237 = .ok (.lreturn, 1) := by decide +kernel
theorem dX4_reckonAll_0 : decode cX4_reckonAll 0 = .ok (.iconst 0, 1) := by decide +kernel
theorem dX4_reckonAll_1 : decode cX4_reckonAll 1 = .ok (.istore_n 1, 1) := by decide +kernel
theorem dX4_reckonAll_2 : decode cX4_reckonAll 2 = .ok (.iload_n 1, 1) := by decide +kernel
theorem dX4_reckonAll_3 : decode cX4_reckonAll 3 = .ok (.aload_n 0, 1) := by decide +kernel
theorem dX4_reckonAll_4 : decode cX4_reckonAll 4 = .ok (.getfield 34, 3) := by decide +kernel
theorem dX4_reckonAll_7 : decode cX4_reckonAll 7 = .ok (.if_icmp .ge 30, 3) := by decide +kernel
theorem dX4_reckonAll_10 : decode cX4_reckonAll 10 = .ok (.aload_n 0, 1) := by decide +kernel
theorem dX4_reckonAll_11 : decode cX4_reckonAll 11 = .ok (.getfield 26, 3) := by decide +kernel
theorem dX4_reckonAll_14 : decode cX4_reckonAll 14 = .ok (.iload_n 1, 1) := by decide +kernel
theorem dX4_reckonAll_15 : decode cX4_reckonAll 15 = .ok (.aload_n 0, 1) := by decide +kernel
theorem dX4_reckonAll_16 : decode cX4_reckonAll 16 = .ok (.iload_n 1, 1) := by decide +kernel
theorem dX4_reckonAll_17 : decode cX4_reckonAll 17 = .ok (.invokevirtual 91, 3) := by decide +kernel
theorem dX4_reckonAll_20 : decode cX4_reckonAll 20 = .ok (.aload_n 0, 1) := by decide +kernel
theorem dX4_reckonAll_21 : decode cX4_reckonAll 21 = .ok (.getfield 23, 3) := by decide +kernel
theorem dX4_reckonAll_24 : decode cX4_reckonAll 24 = .ok (.iload_n 1, 1) := by decide +kernel
theorem dX4_reckonAll_25 : decode cX4_reckonAll 25 = .ok (.iaload, 1) := by decide +kernel
theorem dX4_reckonAll_26 : decode cX4_reckonAll 26 = .ok (.invokestatic 51, 3) := by decide +kernel
theorem dX4_reckonAll_29 : decode cX4_reckonAll 29 = .ok (.land, 1) := by decide +kernel
theorem dX4_reckonAll_30 : decode cX4_reckonAll 30 = .ok (.lastore, 1) := by decide +kernel
theorem dX4_reckonAll_31 : decode cX4_reckonAll 31 = .ok (.iinc 1 1, 3) := by decide +kernel
theorem dX4_reckonAll_34 : decode cX4_reckonAll 34 = .ok (.goto (-32), 3) := by decide +kernel
theorem dX4_reckonAll_37 : decode cX4_reckonAll 37 = .ok (.return_, 1) := by decide +kernel
theorem dX4_set_0 : decode cX4_set 0 = .ok (.aload_n 0, 1) := by decide +kernel
theorem dX4_set_1 : decode cX4_set 1 = .ok (.aload_n 0, 1) := by decide +kernel
theorem dX4_set_2 : decode cX4_set 2 = .ok (.iload_n 1, 1) := by decide +kernel
theorem dX4_set_3 : decode cX4_set 3 = .ok (.invokevirtual 37, 3) := by decide +kernel
theorem dX4_set_6 : decode cX4_set 6 = .ok (.ifCond .eq 16, 3) := by decide +kernel
theorem dX4_set_9 : decode cX4_set 9 = .ok (.aload_n 0, 1) := by decide +kernel
theorem dX4_set_10 : decode cX4_set 10 = .ok (.getfield 7, 3) := by decide +kernel
theorem dX4_set_13 : decode cX4_set 13 = .ok (.iload_n 1, 1) := by decide +kernel
theorem dX4_set_14 : decode cX4_set 14 = .ok (.baload, 1) := by decide +kernel
theorem dX4_set_15 : decode cX4_set 15 = .ok (.ifCond .ne 7, 3) := by decide +kernel
theorem dX4_set_18 : decode cX4_set 18 = .ok (.iconst 0, 1) := by decide +kernel
theorem dX4_set_19 : decode cX4_set 19 = .ok (.goto 4, 3) := by decide +kernel
theorem dX4_set_22 : decode cX4_set 22 = .ok (.iconst 1, 1) := by decide +kernel
theorem dX4_set_23 : decode cX4_set 23 = .ok (.putfield 30, 3) := by decide +kernel
theorem dX4_set_26 : decode cX4_set 26 = .ok (.aload_n 0, 1) := by decide +kernel
theorem dX4_set_27 : decode cX4_set 27 = .ok (.getfield 30, 3) := by decide +kernel
theorem dX4_set_30 : decode cX4_set 30 = .ok (.ifCond .le 5, 3) := by decide +kernel
theorem dX4_set_33 : decode cX4_set 33 = .ok (.lconst 0, 1) := by decide +kernel
theorem dX4_set_34 : decode cX4_set 34 = .ok (.lreturn, 1) := by decide +kernel
theorem dX4_set_35 : decode cX4_set 35 = .ok (.aload_n 0, 1) := by decide +kernel
theorem dX4_set_36 : decode cX4_set 36 = .ok (.getfield 26, 3) := by decide +kernel
theorem dX4_set_39 : decode cX4_set 39 = .ok (.iload_n 1, 1) := by decide +kernel
theorem dX4_set_40 : decode cX4_set 40 = .ok (.laload, 1) := by decide +kernel
theorem dX4_set_41 : decode cX4_set 41 = .ok (.lstore 4, 2) := by decide +kernel
theorem dX4_set_43 : decode cX4_set 43 = .ok (.aload_n 0, 1) := by decide +kernel
theorem dX4_set_44 : decode cX4_set 44 = .ok (.getfield 26, 3) := by decide +kernel
theorem dX4_set_47 : decode cX4_set 47 = .ok (.iload_n 1, 1) := by decide +kernel
theorem dX4_set_48 : decode cX4_set 48 = .ok (.lload_n 2, 1) := by decide +kernel
theorem dX4_set_49 : decode cX4_set 49 = .ok (.aload_n 0, 1) := by decide +kernel
theorem dX4_set_50 : decode cX4_set 50 = .ok (.getfield 23, 3) := by decide +kernel
theorem dX4_set_53 : decode cX4_set 53 = .ok (.iload_n 1, 1) := by decide +kernel
theorem dX4_set_54 : decode cX4_set 54 = .ok (.iaload, 1) := by decide +kernel
theorem dX4_set_55 : decode cX4_set 55 = .ok (.invokestatic 51, 3) := by decide +kernel
theorem dX4_set_58 : decode cX4_set 58 = .ok (.land, 1) := by decide +kernel
theorem dX4_set_59 : decode cX4_set 59 = .ok (.lastore, 1) := by decide +kernel
theorem dX4_set_60 : decode cX4_set 60 = .ok (.lload 4, 2) := by decide +kernel
theorem dX4_set_62 : decode cX4_set 62 = .ok (.lreturn, 1) := by decide +kernel
theorem dX4_value_0 : decode cX4_value 0 = .ok (.aload_n 0, 1) := by decide +kernel
theorem dX4_value_1 : decode cX4_value 1 = .ok (.aload_n 0, 1) := by decide +kernel
theorem dX4_value_2 : decode cX4_value 2 = .ok (.iload_n 1, 1) := by decide +kernel
theorem dX4_value_3 : decode cX4_value 3 = .ok (.invokevirtual 37, 3) := by decide +kernel
theorem dX4_value_6 : decode cX4_value 6 = .ok (.ifCond .eq 7, 3) := by decide +kernel
theorem dX4_value_9 : decode cX4_value 9 = .ok (.iconst 0, 1) := by decide +kernel
theorem dX4_value_10 : decode cX4_value 10 = .ok (.goto 4, 3) := by decide +kernel
theorem dX4_value_13 : decode cX4_value 13 = .ok (.iconst 1, 1) := by decide +kernel
theorem dX4_value_14 : decode cX4_value 14 = .ok (.putfield 30, 3) := by decide +kernel
theorem dX4_value_17 : decode cX4_value 17 = .ok (.aload_n 0, 1) := by decide +kernel
theorem dX4_value_18 : decode cX4_value 18 = .ok (.getfield 30, 3) := by decide +kernel
theorem dX4_value_21 : decode cX4_value 21 = .ok (.ifCond .le 5, 3) := by decide +kernel
theorem dX4_value_24 : decode cX4_value 24 = .ok (.lconst 0, 1) := by decide +kernel
theorem dX4_value_25 : decode cX4_value 25 = .ok (.lreturn, 1) := by decide +kernel
theorem dX4_value_26 : decode cX4_value 26 = .ok (.aload_n 0, 1) := by decide +kernel
theorem dX4_value_27 : decode cX4_value 27 = .ok (.invokevirtual 94, 3) := by decide +kernel
theorem dX4_value_30 : decode cX4_value 30 = .ok (.aload_n 0, 1) := by decide +kernel
theorem dX4_value_31 : decode cX4_value 31 = .ok (.getfield 26, 3) := by decide +kernel
theorem dX4_value_34 : decode cX4_value 34 = .ok (.iload_n 1, 1) := by decide +kernel
theorem dX4_value_35 : decode cX4_value 35 = .ok (.laload, 1) := by decide +kernel
theorem dX4_value_36 : decode cX4_value 36 = .ok (.lreturn, 1) := by decide +kernel
theorem dX4_width_0 : decode cX4_width 0 = .ok (.aload_n 0, 1) := by decide +kernel
theorem dX4_width_1 : decode cX4_width 1 = .ok (.aload_n 0, 1) := by decide +kernel
theorem dX4_width_2 : decode cX4_width 2 = .ok (.iload_n 1, 1) := by decide +kernel
theorem dX4_width_3 : decode cX4_width 3 = .ok (.invokevirtual 37, 3) := by decide +kernel
theorem dX4_width_6 : decode cX4_width 6 = .ok (.ifCond .eq 7, 3) := by decide +kernel
theorem dX4_width_9 : decode cX4_width 9 = .ok (.iconst 0, 1) := by decide +kernel
theorem dX4_width_10 : decode cX4_width 10 = .ok (.goto 4, 3) := by decide +kernel
theorem dX4_width_13 : decode cX4_width 13 = .ok (.iconst 1, 1) := by decide +kernel
theorem dX4_width_14 : decode cX4_width 14 = .ok (.putfield 30, 3) := by decide +kernel
theorem dX4_width_17 : decode cX4_width 17 = .ok (.aload_n 0, 1) := by decide +kernel
theorem dX4_width_18 : decode cX4_width 18 = .ok (.getfield 30, 3) := by decide +kernel
theorem dX4_width_21 : decode cX4_width 21 = .ok (.ifCond .le 7, 3) := by decide +kernel
theorem dX4_width_24 : decode cX4_width 24 = .ok (.iconst 0, 1) := by decide +kernel
theorem dX4_width_25 : decode cX4_width 25 = .ok (.goto 9, 3) := by decide +kernel
theorem dX4_width_28 : decode cX4_width 28 = .ok (.aload_n 0, 1) := by decide +kernel
theorem dX4_width_29 : decode cX4_width 29 = .ok (.getfield 23, 3) := by decide +kernel
theorem dX4_width_32 : decode cX4_width 32 = .ok (.iload_n 1, 1) := by decide +kernel
theorem dX4_width_33 : decode cX4_width 33 = .ok (.iaload, 1) := by decide +kernel
theorem dX4_width_34 : decode cX4_width 34 = .ok (.ireturn, 1) := by decide +kernel
theorem dX4_weight_0 : decode cX4_weight 0 = .ok (.aload_n 0, 1) := by decide +kernel
theorem dX4_weight_1 : decode cX4_weight 1 = .ok (.iconst 0, 1) := by decide +kernel
theorem dX4_weight_2 : decode cX4_weight 2 = .ok (.putfield 30, 3) := by decide +kernel
theorem dX4_weight_5 : decode cX4_weight 5 = .ok (.aload_n 0, 1) := by decide +kernel
theorem dX4_weight_6 : decode cX4_weight 6 = .ok (.getfield 43, 3) := by decide +kernel
theorem dX4_weight_9 : decode cX4_weight 9 = .ok (.ireturn, 1) := by decide +kernel
theorem dX4_vectors_0 : decode cX4_vectors 0 = .ok (.aload_n 0, 1) := by decide +kernel
theorem dX4_vectors_1 : decode cX4_vectors 1 = .ok (.iconst 0, 1) := by decide +kernel
theorem dX4_vectors_2 : decode cX4_vectors 2 = .ok (.putfield 30, 3) := by decide +kernel
theorem dX4_vectors_5 : decode cX4_vectors 5 = .ok (.aload_n 0, 1) := by decide +kernel
theorem dX4_vectors_6 : decode cX4_vectors 6 = .ok (.getfield 34, 3) := by decide +kernel
theorem dX4_vectors_9 : decode cX4_vectors 9 = .ok (.ireturn, 1) := by decide +kernel
end
section
theorem dL_input_0 : decode cL_input 0 = .ok (.aload_n 2, 1) := by decide +kernel
theorem dL_input_1 : decode cL_input 1 = .ok (.iconst 0, 1) := by decide +kernel
theorem dL_input_2 : decode cL_input 2 = .ok (.aload_n 0, 1) := by decide +kernel
theorem dL_input_3 : decode cL_input 3 = .ok (.iload_n 1, 1) := by decide +kernel
theorem dL_input_4 : decode cL_input 4 = .ok (.invokevirtual 7, 3) := by decide +kernel
theorem dL_input_7 : decode cL_input 7 = .ok (.i2l, 1) := by decide +kernel
theorem dL_input_8 : decode cL_input 8 = .ok (.lastore, 1) := by decide +kernel
theorem dL_input_9 : decode cL_input 9 = .ok (.goto 9, 3) := by decide +kernel
theorem dL_input_12 : decode cL_input 12 = .ok (.astore_n 3, 1) := by decide +kernel
theorem dL_input_13 : decode cL_input 13 = .ok (.iconst 1, 1) := by decide +kernel
theorem dL_input_14 : decode cL_input 14 = .ok (.ireturn, 1) := by decide +kernel
theorem dL_input_15 : decode cL_input 15 = .ok (.astore_n 3, 1) := by decide +kernel
theorem dL_input_16 : decode cL_input 16 = .ok (.iconst 2, 1) := by decide +kernel
theorem dL_input_17 : decode cL_input 17 = .ok (.ireturn, 1) := by decide +kernel
theorem dL_input_18 : decode cL_input 18 = .ok (.iconst 0, 1) := by decide +kernel
theorem dL_input_19 : decode cL_input 19 = .ok (.ireturn, 1) := by decide +kernel
theorem dL_constant_0 : decode cL_constant 0 = .ok (.aload 4, 2) := by decide +kernel
theorem dL_constant_2 : decode cL_constant 2 = .ok (.iconst 0, 1) := by decide +kernel
theorem dL_constant_3 : decode cL_constant 3 = .ok (.aload_n 0, 1) := by decide +kernel
theorem dL_constant_4 : decode cL_constant 4 = .ok (.iload_n 1, 1) := by decide +kernel
theorem dL_constant_5 : decode cL_constant 5 = .ok (.lload_n 2, 1) := by decide +kernel
theorem dL_constant_6 : decode cL_constant 6 = .ok (.invokevirtual 17, 3) := by decide +kernel
theorem dL_constant_9 : decode cL_constant 9 = .ok (.i2l, 1) := by decide +kernel
theorem dL_constant_10 : decode cL_constant 10 = .ok (.lastore, 1) := by decide +kernel
theorem dL_constant_11 : decode cL_constant 11 = .ok (.goto 11, 3) := by decide +kernel
theorem dL_constant_14 : decode cL_constant 14 = .ok (.astore 5, 2) := by decide +kernel
theorem dL_constant_16 : decode cL_constant 16 = .ok (.iconst 1, 1) := by decide +kernel
theorem dL_constant_17 : decode cL_constant 17 = .ok (.ireturn, 1) := by decide +kernel
theorem dL_constant_18 : decode cL_constant 18 = .ok (.astore 5, 2) := by decide +kernel
theorem dL_constant_20 : decode cL_constant 20 = .ok (.iconst 2, 1) := by decide +kernel
theorem dL_constant_21 : decode cL_constant 21 = .ok (.ireturn, 1) := by decide +kernel
theorem dL_constant_22 : decode cL_constant 22 = .ok (.iconst 0, 1) := by decide +kernel
theorem dL_constant_23 : decode cL_constant 23 = .ok (.ireturn, 1) := by decide +kernel
theorem dL_one_0 : decode cL_one 0 = .ok (.aload_n 3, 1) := by decide +kernel
theorem dL_one_1 : decode cL_one 1 = .ok (.iconst 0, 1) := by decide +kernel
theorem dL_one_2 : decode cL_one 2 = .ok (.aload_n 0, 1) := by decide +kernel
theorem dL_one_3 : decode cL_one 3 = .ok (.iload_n 1, 1) := by decide +kernel
theorem dL_one_4 : decode cL_one 4 = .ok (.iload_n 2, 1) := by decide +kernel
theorem dL_one_5 : decode cL_one 5 = .ok (.invokevirtual 21, 3) := by decide +kernel
theorem dL_one_8 : decode cL_one 8 = .ok (.i2l, 1) := by decide +kernel
theorem dL_one_9 : decode cL_one 9 = .ok (.lastore, 1) := by decide +kernel
theorem dL_one_10 : decode cL_one 10 = .ok (.goto 11, 3) := by decide +kernel
theorem dL_one_13 : decode cL_one 13 = .ok (.astore 4, 2) := by decide +kernel
theorem dL_one_15 : decode cL_one 15 = .ok (.iconst 1, 1) := by decide +kernel
theorem dL_one_16 : decode cL_one 16 = .ok (.ireturn, 1) := by decide +kernel
theorem dL_one_17 : decode cL_one 17 = .ok (.astore 4, 2) := by decide +kernel
theorem dL_one_19 : decode cL_one 19 = .ok (.iconst 2, 1) := by decide +kernel
theorem dL_one_20 : decode cL_one 20 = .ok (.ireturn, 1) := by decide +kernel
theorem dL_one_21 : decode cL_one 21 = .ok (.iconst 0, 1) := by decide +kernel
theorem dL_one_22 : decode cL_one 22 = .ok (.ireturn, 1) := by decide +kernel
theorem dL_two_0 : decode cL_two 0 = .ok (.aload 4, 2) := by decide +kernel
theorem dL_two_2 : decode cL_two 2 = .ok (.iconst 0, 1) := by decide +kernel
theorem dL_two_3 : decode cL_two 3 = .ok (.aload_n 0, 1) := by decide +kernel
theorem dL_two_4 : decode cL_two 4 = .ok (.iload_n 1, 1) := by decide +kernel
theorem dL_two_5 : decode cL_two 5 = .ok (.iload_n 2, 1) := by decide +kernel
theorem dL_two_6 : decode cL_two 6 = .ok (.iload_n 3, 1) := by decide +kernel
theorem dL_two_7 : decode cL_two 7 = .ok (.invokevirtual 25, 3) := by decide +kernel
theorem dL_two_10 : decode cL_two 10 = .ok (.i2l, 1) := by decide +kernel
theorem dL_two_11 : decode cL_two 11 = .ok (.lastore, 1) := by decide +kernel
theorem dL_two_12 : decode cL_two 12 = .ok (.goto 11, 3) := by decide +kernel
theorem dL_two_15 : decode cL_two 15 = .ok (.astore 5, 2) := by decide +kernel
theorem dL_two_17 : decode cL_two 17 = .ok (.iconst 1, 1) := by decide +kernel
theorem dL_two_18 : decode cL_two 18 = .ok (.ireturn, 1) := by decide +kernel
theorem dL_two_19 : decode cL_two 19 = .ok (.astore 5, 2) := by decide +kernel
theorem dL_two_21 : decode cL_two 21 = .ok (.iconst 2, 1) := by decide +kernel
theorem dL_two_22 : decode cL_two 22 = .ok (.ireturn, 1) := by decide +kernel
theorem dL_two_23 : decode cL_two 23 = .ok (.iconst 0, 1) := by decide +kernel
theorem dL_two_24 : decode cL_two 24 = .ok (.ireturn, 1) := by decide +kernel
theorem dL_compare_0 : decode cL_compare 0 = .ok (.aload 4, 2) := by decide +kernel
theorem dL_compare_2 : decode cL_compare 2 = .ok (.iconst 0, 1) := by decide +kernel
theorem dL_compare_3 : decode cL_compare 3 = .ok (.aload_n 0, 1) := by decide +kernel
theorem dL_compare_4 : decode cL_compare 4 = .ok (.iload_n 1, 1) := by decide +kernel
theorem dL_compare_5 : decode cL_compare 5 = .ok (.iload_n 2, 1) := by decide +kernel
theorem dL_compare_6 : decode cL_compare 6 = .ok (.iload_n 3, 1) := by decide +kernel
theorem dL_compare_7 : decode cL_compare 7 = .ok (.invokevirtual 29, 3) := by decide +kernel
theorem dL_compare_10 : decode cL_compare 10 = .ok (.i2l, 1) := by decide +kernel
theorem dL_compare_11 : decode cL_compare 11 = .ok (.lastore, 1) := by decide +kernel
theorem dL_compare_12 : decode cL_compare 12 = .ok (.goto 11, 3) := by decide +kernel
theorem dL_compare_15 : decode cL_compare 15 = .ok (.astore 5, 2) := by decide +kernel
theorem dL_compare_17 : decode cL_compare 17 = .ok (.iconst 1, 1) := by decide +kernel
theorem dL_compare_18 : decode cL_compare 18 = .ok (.ireturn, 1) := by decide +kernel
theorem dL_compare_19 : decode cL_compare 19 = .ok (.astore 5, 2) := by decide +kernel
theorem dL_compare_21 : decode cL_compare 21 = .ok (.iconst 2, 1) := by decide +kernel
theorem dL_compare_22 : decode cL_compare 22 = .ok (.ireturn, 1) := by decide +kernel
theorem dL_compare_23 : decode cL_compare 23 = .ok (.iconst 0, 1) := by decide +kernel
theorem dL_compare_24 : decode cL_compare 24 = .ok (.ireturn, 1) := by decide +kernel
theorem dL_choose_0 : decode cL_choose 0 = .ok (.aload 4, 2) := by decide +kernel
theorem dL_choose_2 : decode cL_choose 2 = .ok (.iconst 0, 1) := by decide +kernel
theorem dL_choose_3 : decode cL_choose 3 = .ok (.aload_n 0, 1) := by decide +kernel
theorem dL_choose_4 : decode cL_choose 4 = .ok (.iload_n 1, 1) := by decide +kernel
theorem dL_choose_5 : decode cL_choose 5 = .ok (.iload_n 2, 1) := by decide +kernel
theorem dL_choose_6 : decode cL_choose 6 = .ok (.iload_n 3, 1) := by decide +kernel
theorem dL_choose_7 : decode cL_choose 7 = .ok (.invokevirtual 32, 3) := by decide +kernel
theorem dL_choose_10 : decode cL_choose 10 = .ok (.i2l, 1) := by decide +kernel
theorem dL_choose_11 : decode cL_choose 11 = .ok (.lastore, 1) := by decide +kernel
theorem dL_choose_12 : decode cL_choose 12 = .ok (.goto 11, 3) := by decide +kernel
theorem dL_choose_15 : decode cL_choose 15 = .ok (.astore 5, 2) := by decide +kernel
theorem dL_choose_17 : decode cL_choose 17 = .ok (.iconst 1, 1) := by decide +kernel
theorem dL_choose_18 : decode cL_choose 18 = .ok (.ireturn, 1) := by decide +kernel
theorem dL_choose_19 : decode cL_choose 19 = .ok (.astore 5, 2) := by decide +kernel
theorem dL_choose_21 : decode cL_choose 21 = .ok (.iconst 2, 1) := by decide +kernel
theorem dL_choose_22 : decode cL_choose 22 = .ok (.ireturn, 1) := by decide +kernel
theorem dL_choose_23 : decode cL_choose 23 = .ok (.iconst 0, 1) := by decide +kernel
theorem dL_choose_24 : decode cL_choose 24 = .ok (.ireturn, 1) := by decide +kernel
theorem dL_concat_0 : decode cL_concat 0 = .ok (.aload_n 3, 1) := by decide +kernel
theorem dL_concat_1 : decode cL_concat 1 = .ok (.iconst 0, 1) := by decide +kernel
theorem dL_concat_2 : decode cL_concat 2 = .ok (.aload_n 0, 1) := by decide +kernel
theorem dL_concat_3 : decode cL_concat 3 = .ok (.iload_n 1, 1) := by decide +kernel
theorem dL_concat_4 : decode cL_concat 4 = .ok (.iload_n 2, 1) := by decide +kernel
theorem dL_concat_5 : decode cL_concat 5 = .ok (.invokevirtual 35, 3) := by decide +kernel
theorem dL_concat_8 : decode cL_concat 8 = .ok (.i2l, 1) := by decide +kernel
theorem dL_concat_9 : decode cL_concat 9 = .ok (.lastore, 1) := by decide +kernel
theorem dL_concat_10 : decode cL_concat 10 = .ok (.goto 11, 3) := by decide +kernel
theorem dL_concat_13 : decode cL_concat 13 = .ok (.astore 4, 2) := by decide +kernel
theorem dL_concat_15 : decode cL_concat 15 = .ok (.iconst 1, 1) := by decide +kernel
theorem dL_concat_16 : decode cL_concat 16 = .ok (.ireturn, 1) := by decide +kernel
theorem dL_concat_17 : decode cL_concat 17 = .ok (.astore 4, 2) := by decide +kernel
theorem dL_concat_19 : decode cL_concat 19 = .ok (.iconst 2, 1) := by decide +kernel
theorem dL_concat_20 : decode cL_concat 20 = .ok (.ireturn, 1) := by decide +kernel
theorem dL_concat_21 : decode cL_concat 21 = .ok (.iconst 0, 1) := by decide +kernel
theorem dL_concat_22 : decode cL_concat 22 = .ok (.ireturn, 1) := by decide +kernel
theorem dL_extract_0 : decode cL_extract 0 = .ok (.aload 4, 2) := by decide +kernel
theorem dL_extract_2 : decode cL_extract 2 = .ok (.iconst 0, 1) := by decide +kernel
theorem dL_extract_3 : decode cL_extract 3 = .ok (.aload_n 0, 1) := by decide +kernel
theorem dL_extract_4 : decode cL_extract 4 = .ok (.iload_n 1, 1) := by decide +kernel
theorem dL_extract_5 : decode cL_extract 5 = .ok (.iload_n 2, 1) := by decide +kernel
theorem dL_extract_6 : decode cL_extract 6 = .ok (.iload_n 3, 1) := by decide +kernel
theorem dL_extract_7 : decode cL_extract 7 = .ok (.invokevirtual 38, 3) := by decide +kernel
theorem dL_extract_10 : decode cL_extract 10 = .ok (.i2l, 1) := by decide +kernel
theorem dL_extract_11 : decode cL_extract 11 = .ok (.lastore, 1) := by decide +kernel
theorem dL_extract_12 : decode cL_extract 12 = .ok (.goto 11, 3) := by decide +kernel
theorem dL_extract_15 : decode cL_extract 15 = .ok (.astore 5, 2) := by decide +kernel
theorem dL_extract_17 : decode cL_extract 17 = .ok (.iconst 1, 1) := by decide +kernel
theorem dL_extract_18 : decode cL_extract 18 = .ok (.ireturn, 1) := by decide +kernel
theorem dL_extract_19 : decode cL_extract 19 = .ok (.astore 5, 2) := by decide +kernel
theorem dL_extract_21 : decode cL_extract 21 = .ok (.iconst 2, 1) := by decide +kernel
theorem dL_extract_22 : decode cL_extract 22 = .ok (.ireturn, 1) := by decide +kernel
theorem dL_extract_23 : decode cL_extract 23 = .ok (.iconst 0, 1) := by decide +kernel
theorem dL_extract_24 : decode cL_extract 24 = .ok (.ireturn, 1) := by decide +kernel
theorem dL_extend_0 : decode cL_extend 0 = .ok (.aload 4, 2) := by decide +kernel
theorem dL_extend_2 : decode cL_extend 2 = .ok (.iconst 0, 1) := by decide +kernel
theorem dL_extend_3 : decode cL_extend 3 = .ok (.aload_n 0, 1) := by decide +kernel
theorem dL_extend_4 : decode cL_extend 4 = .ok (.iload_n 1, 1) := by decide +kernel
theorem dL_extend_5 : decode cL_extend 5 = .ok (.iload_n 2, 1) := by decide +kernel
theorem dL_extend_6 : decode cL_extend 6 = .ok (.iload_n 3, 1) := by decide +kernel
theorem dL_extend_7 : decode cL_extend 7 = .ok (.invokevirtual 41, 3) := by decide +kernel
theorem dL_extend_10 : decode cL_extend 10 = .ok (.i2l, 1) := by decide +kernel
theorem dL_extend_11 : decode cL_extend 11 = .ok (.lastore, 1) := by decide +kernel
theorem dL_extend_12 : decode cL_extend 12 = .ok (.goto 11, 3) := by decide +kernel
theorem dL_extend_15 : decode cL_extend 15 = .ok (.astore 5, 2) := by decide +kernel
theorem dL_extend_17 : decode cL_extend 17 = .ok (.iconst 1, 1) := by decide +kernel
theorem dL_extend_18 : decode cL_extend 18 = .ok (.ireturn, 1) := by decide +kernel
theorem dL_extend_19 : decode cL_extend 19 = .ok (.astore 5, 2) := by decide +kernel
theorem dL_extend_21 : decode cL_extend 21 = .ok (.iconst 2, 1) := by decide +kernel
theorem dL_extend_22 : decode cL_extend 22 = .ok (.ireturn, 1) := by decide +kernel
theorem dL_extend_23 : decode cL_extend 23 = .ok (.iconst 0, 1) := by decide +kernel
theorem dL_extend_24 : decode cL_extend 24 = .ok (.ireturn, 1) := by decide +kernel
theorem dL_set_0 : decode cL_set 0 = .ok (.aload 4, 2) := by decide +kernel
theorem dL_set_2 : decode cL_set 2 = .ok (.iconst 0, 1) := by decide +kernel
theorem dL_set_3 : decode cL_set 3 = .ok (.aload_n 0, 1) := by decide +kernel
theorem dL_set_4 : decode cL_set 4 = .ok (.iload_n 1, 1) := by decide +kernel
theorem dL_set_5 : decode cL_set 5 = .ok (.lload_n 2, 1) := by decide +kernel
theorem dL_set_6 : decode cL_set 6 = .ok (.invokevirtual 45, 3) := by decide +kernel
theorem dL_set_9 : decode cL_set 9 = .ok (.lastore, 1) := by decide +kernel
theorem dL_set_10 : decode cL_set 10 = .ok (.goto 7, 3) := by decide +kernel
theorem dL_set_13 : decode cL_set 13 = .ok (.astore 5, 2) := by decide +kernel
theorem dL_set_15 : decode cL_set 15 = .ok (.iconst 1, 1) := by decide +kernel
theorem dL_set_16 : decode cL_set 16 = .ok (.ireturn, 1) := by decide +kernel
theorem dL_set_17 : decode cL_set 17 = .ok (.iconst 0, 1) := by decide +kernel
theorem dL_set_18 : decode cL_set 18 = .ok (.ireturn, 1) := by decide +kernel
theorem dL_value_0 : decode cL_value 0 = .ok (.aload_n 2, 1) := by decide +kernel
theorem dL_value_1 : decode cL_value 1 = .ok (.iconst 0, 1) := by decide +kernel
theorem dL_value_2 : decode cL_value 2 = .ok (.aload_n 0, 1) := by decide +kernel
theorem dL_value_3 : decode cL_value 3 = .ok (.iload_n 1, 1) := by decide +kernel
theorem dL_value_4 : decode cL_value 4 = .ok (.invokevirtual 49, 3) := by decide +kernel
theorem dL_value_7 : decode cL_value 7 = .ok (.lastore, 1) := by decide +kernel
theorem dL_value_8 : decode cL_value 8 = .ok (.goto 6, 3) := by decide +kernel
theorem dL_value_11 : decode cL_value 11 = .ok (.astore_n 3, 1) := by decide +kernel
theorem dL_value_12 : decode cL_value 12 = .ok (.iconst 1, 1) := by decide +kernel
theorem dL_value_13 : decode cL_value 13 = .ok (.ireturn, 1) := by decide +kernel
theorem dL_value_14 : decode cL_value 14 = .ok (.iconst 0, 1) := by decide +kernel
theorem dL_value_15 : decode cL_value 15 = .ok (.ireturn, 1) := by decide +kernel
theorem dL_width_0 : decode cL_width 0 = .ok (.aload_n 2, 1) := by decide +kernel
theorem dL_width_1 : decode cL_width 1 = .ok (.iconst 0, 1) := by decide +kernel
theorem dL_width_2 : decode cL_width 2 = .ok (.aload_n 0, 1) := by decide +kernel
theorem dL_width_3 : decode cL_width 3 = .ok (.iload_n 1, 1) := by decide +kernel
theorem dL_width_4 : decode cL_width 4 = .ok (.invokevirtual 53, 3) := by decide +kernel
theorem dL_width_7 : decode cL_width 7 = .ok (.i2l, 1) := by decide +kernel
theorem dL_width_8 : decode cL_width 8 = .ok (.lastore, 1) := by decide +kernel
theorem dL_width_9 : decode cL_width 9 = .ok (.goto 6, 3) := by decide +kernel
theorem dL_width_12 : decode cL_width 12 = .ok (.astore_n 3, 1) := by decide +kernel
theorem dL_width_13 : decode cL_width 13 = .ok (.iconst 1, 1) := by decide +kernel
theorem dL_width_14 : decode cL_width 14 = .ok (.ireturn, 1) := by decide +kernel
theorem dL_width_15 : decode cL_width 15 = .ok (.iconst 0, 1) := by decide +kernel
theorem dL_width_16 : decode cL_width 16 = .ok (.ireturn, 1) := by decide +kernel
theorem dL_law_0 : decode cL_law 0 = .ok (.new 8, 3) := by decide +kernel
theorem dL_law_3 : decode cL_law 3 = .ok (.dup, 1) := by decide +kernel
theorem dL_law_4 : decode cL_law 4 = .ok (.invokespecial 56, 3) := by decide +kernel
theorem dL_law_7 : decode cL_law 7 = .ok (.astore_n 1, 1) := by decide +kernel
theorem dL_law_8 : decode cL_law 8 = .ok (.new 57, 3) := by decide +kernel
theorem dL_law_11 : decode cL_law 11 = .ok (.dup, 1) := by decide +kernel
theorem dL_law_12 : decode cL_law 12 = .ok (.invokespecial 59, 3) := by decide +kernel
theorem dL_law_15 : decode cL_law 15 = .ok (.astore_n 2, 1) := by decide +kernel
theorem dL_law_16 : decode cL_law 16 = .ok (.iconst 1, 1) := by decide +kernel
theorem dL_law_17 : decode cL_law 17 = .ok (.newarray .long, 2) := by decide +kernel
theorem dL_law_19 : decode cL_law 19 = .ok (.astore_n 3, 1) := by decide +kernel
theorem dL_law_20 : decode cL_law 20 = .ok (.iconst 0, 1) := by decide +kernel
theorem dL_law_21 : decode cL_law 21 = .ok (.istore 4, 2) := by decide +kernel
theorem dL_law_23 : decode cL_law 23 = .ok (.iload 4, 2) := by decide +kernel
theorem dL_law_25 : decode cL_law 25 = .ok (.aload_n 0, 1) := by decide +kernel
theorem dL_law_26 : decode cL_law 26 = .ok (.arraylength, 1) := by decide +kernel
theorem dL_law_27 : decode cL_law 27 = .ok (.iconst 4, 1) := by decide +kernel
theorem dL_law_28 : decode cL_law 28 = .ok (.isub, 1) := by decide +kernel
theorem dL_law_29 : decode cL_law 29 = .ok (.if_icmp .gt 1029, 3) := by decide +kernel
theorem dL_law_32 : decode cL_law 32 = .ok (.aload_n 0, 1) := by decide +kernel
theorem dL_law_33 : decode cL_law 33 = .ok (.iload 4, 2) := by decide +kernel
theorem dL_law_35 : decode cL_law 35 = .ok (.iaload, 1) := by decide +kernel
theorem dL_law_36 : decode cL_law 36 = .ok (.bipush 15, 2) := by decide +kernel
theorem dL_law_38 : decode cL_law 38 = .ok (.iand, 1) := by decide +kernel
theorem dL_law_39 : decode cL_law 39 = .ok (.tableswitch 1013 0 13 #[69, 125, 225, 293, 373, 453, 533, 601, 681, 777, 876, 931, 987, 1000], 69) := by decide +kernel
theorem dL_law_108 : decode cL_law 108 = .ok (.aload_n 1, 1) := by decide +kernel
theorem dL_law_109 : decode cL_law 109 = .ok (.aload_n 0, 1) := by decide +kernel
theorem dL_law_110 : decode cL_law 110 = .ok (.iload 4, 2) := by decide +kernel
theorem dL_law_112 : decode cL_law 112 = .ok (.iconst 1, 1) := by decide +kernel
theorem dL_law_113 : decode cL_law 113 = .ok (.iadd, 1) := by decide +kernel
theorem dL_law_114 : decode cL_law 114 = .ok (.iaload, 1) := by decide +kernel
theorem dL_law_115 : decode cL_law 115 = .ok (.aload_n 3, 1) := by decide +kernel
theorem dL_law_116 : decode cL_law 116 = .ok (.invokestatic 60, 3) := by decide +kernel
theorem dL_law_119 : decode cL_law 119 = .ok (.istore 5, 2) := by decide +kernel
theorem dL_law_121 : decode cL_law 121 = .ok (.aload_n 2, 1) := by decide +kernel
theorem dL_law_122 : decode cL_law 122 = .ok (.aload_n 0, 1) := by decide +kernel
theorem dL_law_123 : decode cL_law 123 = .ok (.iload 4, 2) := by decide +kernel
theorem dL_law_125 : decode cL_law 125 = .ok (.iconst 1, 1) := by decide +kernel
theorem dL_law_126 : decode cL_law 126 = .ok (.iadd, 1) := by decide +kernel
theorem dL_law_127 : decode cL_law 127 = .ok (.iaload, 1) := by decide +kernel
theorem dL_law_128 : decode cL_law 128 = .ok (.invokevirtual 65, 3) := by decide +kernel
theorem dL_law_131 : decode cL_law 131 = .ok (.istore 6, 2) := by decide +kernel
theorem dL_law_133 : decode cL_law 133 = .ok (.aload_n 2, 1) := by decide +kernel
theorem dL_law_134 : decode cL_law 134 = .ok (.invokevirtual 66, 3) := by decide +kernel
theorem dL_law_137 : decode cL_law 137 = .ok (.iload 5, 2) := by decide +kernel
theorem dL_law_139 : decode cL_law 139 = .ok (.if_icmp .eq 5, 3) := by decide +kernel
theorem dL_law_142 : decode cL_law 142 = .ok (.iconst 0, 1) := by decide +kernel
theorem dL_law_143 : decode cL_law 143 = .ok (.ireturn, 1) := by decide +kernel
theorem dL_law_144 : decode cL_law 144 = .ok (.iload 5, 2) := by decide +kernel
theorem dL_law_146 : decode cL_law 146 = .ok (.ifCond .ne 15, 3) := by decide +kernel
theorem dL_law_149 : decode cL_law 149 = .ok (.aload_n 3, 1) := by decide +kernel
theorem dL_law_150 : decode cL_law 150 = .ok (.iconst 0, 1) := by decide +kernel
theorem dL_law_151 : decode cL_law 151 = .ok (.laload, 1) := by decide +kernel
theorem dL_law_152 : decode cL_law 152 = .ok (.iload 6, 2) := by decide +kernel
theorem dL_law_154 : decode cL_law 154 = .ok (.i2l, 1) := by decide +kernel
theorem dL_law_155 : decode cL_law 155 = .ok (.lcmp, 1) := by decide +kernel
theorem dL_law_156 : decode cL_law 156 = .ok (.ifCond .eq 5, 3) := by decide +kernel
theorem dL_law_159 : decode cL_law 159 = .ok (.iconst 0, 1) := by decide +kernel
theorem dL_law_160 : decode cL_law 160 = .ok (.ireturn, 1) := by decide +kernel
theorem dL_law_161 : decode cL_law 161 = .ok (.goto 891, 3) := by decide +kernel
theorem dL_law_164 : decode cL_law 164 = .ok (.aload_n 1, 1) := by decide +kernel
theorem dL_law_165 : decode cL_law 165 = .ok (.aload_n 0, 1) := by decide +kernel
theorem dL_law_166 : decode cL_law 166 = .ok (.iload 4, 2) := by decide +kernel
theorem dL_law_168 : decode cL_law 168 = .ok (.iconst 1, 1) := by decide +kernel
theorem dL_law_169 : decode cL_law 169 = .ok (.iadd, 1) := by decide +kernel
theorem dL_law_170 : decode cL_law 170 = .ok (.iaload, 1) := by decide +kernel
theorem dL_law_171 : decode cL_law 171 = .ok (.aload_n 0, 1) := by decide +kernel
theorem dL_law_172 : decode cL_law 172 = .ok (.iload 4, 2) := by decide +kernel
theorem dL_law_174 : decode cL_law 174 = .ok (.iconst 2, 1) := by decide +kernel
theorem dL_law_175 : decode cL_law 175 = .ok (.iadd, 1) := by decide +kernel
theorem dL_law_176 : decode cL_law 176 = .ok (.iaload, 1) := by decide +kernel
theorem dL_law_177 : decode cL_law 177 = .ok (.i2l, 1) := by decide +kernel
theorem dL_law_178 : decode cL_law 178 = .ok (.bipush 32, 2) := by decide +kernel
theorem dL_law_180 : decode cL_law 180 = .ok (.lshl, 1) := by decide +kernel
theorem dL_law_181 : decode cL_law 181 = .ok (.aload_n 0, 1) := by decide +kernel
theorem dL_law_182 : decode cL_law 182 = .ok (.iload 4, 2) := by decide +kernel
theorem dL_law_184 : decode cL_law 184 = .ok (.iconst 3, 1) := by decide +kernel
theorem dL_law_185 : decode cL_law 185 = .ok (.iadd, 1) := by decide +kernel
theorem dL_law_186 : decode cL_law 186 = .ok (.iaload, 1) := by decide +kernel
theorem dL_law_187 : decode cL_law 187 = .ok (.i2l, 1) := by decide +kernel
theorem dL_law_188 : decode cL_law 188 = .ok (.ldc2_w 70, 3) := by decide +kernel
theorem dL_law_191 : decode cL_law 191 = .ok (.land, 1) := by decide +kernel
theorem dL_law_192 : decode cL_law 192 = .ok (.lor, 1) := by decide +kernel
theorem dL_law_193 : decode cL_law 193 = .ok (.aload_n 3, 1) := by decide +kernel
theorem dL_law_194 : decode cL_law 194 = .ok (.invokestatic 72, 3) := by decide +kernel
theorem dL_law_197 : decode cL_law 197 = .ok (.istore 5, 2) := by decide +kernel
theorem dL_law_199 : decode cL_law 199 = .ok (.aload_n 2, 1) := by decide +kernel
theorem dL_law_200 : decode cL_law 200 = .ok (.aload_n 0, 1) := by decide +kernel
theorem dL_law_201 : decode cL_law 201 = .ok (.iload 4, 2) := by decide +kernel
theorem dL_law_203 : decode cL_law 203 = .ok (.iconst 1, 1) := by decide +kernel
theorem dL_law_204 : decode cL_law 204 = .ok (.iadd, 1) := by decide +kernel
theorem dL_law_205 : decode cL_law 205 = .ok (.iaload, 1) := by decide +kernel
theorem dL_law_206 : decode cL_law 206 = .ok (.aload_n 0, 1) := by decide +kernel
theorem dL_law_207 : decode cL_law 207 = .ok (.iload 4, 2) := by decide +kernel
theorem dL_law_209 : decode cL_law 209 = .ok (.iconst 2, 1) := by decide +kernel
theorem dL_law_210 : decode cL_law 210 = .ok (.iadd, 1) := by decide +kernel
theorem dL_law_211 : decode cL_law 211 = .ok (.iaload, 1) := by decide +kernel
theorem dL_law_212 : decode cL_law 212 = .ok (.i2l, 1) := by decide +kernel
theorem dL_law_213 : decode cL_law 213 = .ok (.bipush 32, 2) := by decide +kernel
theorem dL_law_215 : decode cL_law 215 = .ok (.lshl, 1) := by decide +kernel
theorem dL_law_216 : decode cL_law 216 = .ok (.aload_n 0, 1) := by decide +kernel
theorem dL_law_217 : decode cL_law 217 = .ok (.iload 4, 2) := by decide +kernel
theorem dL_law_219 : decode cL_law 219 = .ok (.iconst 3, 1) := by decide +kernel
theorem dL_law_220 : decode cL_law 220 = .ok (.iadd, 1) := by decide +kernel
theorem dL_law_221 : decode cL_law 221 = .ok (.iaload, 1) := by decide +kernel
theorem dL_law_222 : decode cL_law 222 = .ok (.i2l, 1) := by decide +kernel
theorem dL_law_223 : decode cL_law 223 = .ok (.ldc2_w 70, 3) := by decide +kernel
theorem dL_law_226 : decode cL_law 226 = .ok (.land, 1) := by decide +kernel
theorem dL_law_227 : decode cL_law 227 = .ok (.lor, 1) := by decide +kernel
theorem dL_law_228 : decode cL_law 228 = .ok (.invokevirtual 75, 3) := by decide +kernel
theorem dL_law_231 : decode cL_law 231 = .ok (.istore 6, 2) := by decide +kernel
theorem dL_law_233 : decode cL_law 233 = .ok (.aload_n 2, 1) := by decide +kernel
theorem dL_law_234 : decode cL_law 234 = .ok (.invokevirtual 66, 3) := by decide +kernel
theorem dL_law_237 : decode cL_law 237 = .ok (.iload 5, 2) := by decide +kernel
theorem dL_law_239 : decode cL_law 239 = .ok (.if_icmp .eq 5, 3) := by decide +kernel
theorem dL_law_242 : decode cL_law 242 = .ok (.iconst 0, 1) := by decide +kernel
theorem dL_law_243 : decode cL_law 243 = .ok (.ireturn, 1) := by decide +kernel
theorem dL_law_244 : decode cL_law 244 = .ok (.iload 5, 2) := by decide +kernel
theorem dL_law_246 : decode cL_law 246 = .ok (.ifCond .ne 15, 3) := by decide +kernel
theorem dL_law_249 : decode cL_law 249 = .ok (.aload_n 3, 1) := by decide +kernel
theorem dL_law_250 : decode cL_law 250 = .ok (.iconst 0, 1) := by decide +kernel
theorem dL_law_251 : decode cL_law 251 = .ok (.laload, 1) := by decide +kernel
theorem dL_law_252 : decode cL_law 252 = .ok (.iload 6, 2) := by decide +kernel
theorem dL_law_254 : decode cL_law 254 = .ok (.i2l, 1) := by decide +kernel
theorem dL_law_255 : decode cL_law 255 = .ok (.lcmp, 1) := by decide +kernel
theorem dL_law_256 : decode cL_law 256 = .ok (.ifCond .eq 5, 3) := by decide +kernel
theorem dL_law_259 : decode cL_law 259 = .ok (.iconst 0, 1) := by decide +kernel
theorem dL_law_260 : decode cL_law 260 = .ok (.ireturn, 1) := by decide +kernel
theorem dL_law_261 : decode cL_law 261 = .ok (.goto 791, 3) := by decide +kernel
theorem dL_law_264 : decode cL_law 264 = .ok (.aload_n 1, 1) := by decide +kernel
theorem dL_law_265 : decode cL_law 265 = .ok (.aload_n 0, 1) := by decide +kernel
theorem dL_law_266 : decode cL_law 266 = .ok (.iload 4, 2) := by decide +kernel
theorem dL_law_268 : decode cL_law 268 = .ok (.iconst 1, 1) := by decide +kernel
theorem dL_law_269 : decode cL_law 269 = .ok (.iadd, 1) := by decide +kernel
theorem dL_law_270 : decode cL_law 270 = .ok (.iaload, 1) := by decide +kernel
theorem dL_law_271 : decode cL_law 271 = .ok (.aload_n 0, 1) := by decide +kernel
theorem dL_law_272 : decode cL_law 272 = .ok (.iload 4, 2) := by decide +kernel
theorem dL_law_274 : decode cL_law 274 = .ok (.iconst 2, 1) := by decide +kernel
theorem dL_law_275 : decode cL_law 275 = .ok (.iadd, 1) := by decide +kernel
theorem dL_law_276 : decode cL_law 276 = .ok (.iaload, 1) := by decide +kernel
theorem dL_law_277 : decode cL_law 277 = .ok (.aload_n 3, 1) := by decide +kernel
theorem dL_law_278 : decode cL_law 278 = .ok (.invokestatic 76, 3) := by decide +kernel
theorem dL_law_281 : decode cL_law 281 = .ok (.istore 5, 2) := by decide +kernel
theorem dL_law_283 : decode cL_law 283 = .ok (.aload_n 2, 1) := by decide +kernel
theorem dL_law_284 : decode cL_law 284 = .ok (.aload_n 0, 1) := by decide +kernel
theorem dL_law_285 : decode cL_law 285 = .ok (.iload 4, 2) := by decide +kernel
theorem dL_law_287 : decode cL_law 287 = .ok (.iconst 1, 1) := by decide +kernel
theorem dL_law_288 : decode cL_law 288 = .ok (.iadd, 1) := by decide +kernel
theorem dL_law_289 : decode cL_law 289 = .ok (.iaload, 1) := by decide +kernel
theorem dL_law_290 : decode cL_law 290 = .ok (.aload_n 0, 1) := by decide +kernel
theorem dL_law_291 : decode cL_law 291 = .ok (.iload 4, 2) := by decide +kernel
theorem dL_law_293 : decode cL_law 293 = .ok (.iconst 2, 1) := by decide +kernel
theorem dL_law_294 : decode cL_law 294 = .ok (.iadd, 1) := by decide +kernel
theorem dL_law_295 : decode cL_law 295 = .ok (.iaload, 1) := by decide +kernel
theorem dL_law_296 : decode cL_law 296 = .ok (.invokevirtual 79, 3) := by decide +kernel
theorem dL_law_299 : decode cL_law 299 = .ok (.istore 6, 2) := by decide +kernel
theorem dL_law_301 : decode cL_law 301 = .ok (.aload_n 2, 1) := by decide +kernel
theorem dL_law_302 : decode cL_law 302 = .ok (.invokevirtual 66, 3) := by decide +kernel
theorem dL_law_305 : decode cL_law 305 = .ok (.iload 5, 2) := by decide +kernel
theorem dL_law_307 : decode cL_law 307 = .ok (.if_icmp .eq 5, 3) := by decide +kernel
theorem dL_law_310 : decode cL_law 310 = .ok (.iconst 0, 1) := by decide +kernel
theorem dL_law_311 : decode cL_law 311 = .ok (.ireturn, 1) := by decide +kernel
theorem dL_law_312 : decode cL_law 312 = .ok (.iload 5, 2) := by decide +kernel
theorem dL_law_314 : decode cL_law 314 = .ok (.ifCond .ne 15, 3) := by decide +kernel
theorem dL_law_317 : decode cL_law 317 = .ok (.aload_n 3, 1) := by decide +kernel
theorem dL_law_318 : decode cL_law 318 = .ok (.iconst 0, 1) := by decide +kernel
theorem dL_law_319 : decode cL_law 319 = .ok (.laload, 1) := by decide +kernel
theorem dL_law_320 : decode cL_law 320 = .ok (.iload 6, 2) := by decide +kernel
theorem dL_law_322 : decode cL_law 322 = .ok (.i2l, 1) := by decide +kernel
theorem dL_law_323 : decode cL_law 323 = .ok (.lcmp, 1) := by decide +kernel
theorem dL_law_324 : decode cL_law 324 = .ok (.ifCond .eq 5, 3) := by decide +kernel
theorem dL_law_327 : decode cL_law 327 = .ok (.iconst 0, 1) := by decide +kernel
theorem dL_law_328 : decode cL_law 328 = .ok (.ireturn, 1) := by decide +kernel
theorem dL_law_329 : decode cL_law 329 = .ok (.goto 723, 3) := by decide +kernel
theorem dL_law_332 : decode cL_law 332 = .ok (.aload_n 1, 1) := by decide +kernel
theorem dL_law_333 : decode cL_law 333 = .ok (.aload_n 0, 1) := by decide +kernel
theorem dL_law_334 : decode cL_law 334 = .ok (.iload 4, 2) := by decide +kernel
theorem dL_law_336 : decode cL_law 336 = .ok (.iconst 1, 1) := by decide +kernel
theorem dL_law_337 : decode cL_law 337 = .ok (.iadd, 1) := by decide +kernel
theorem dL_law_338 : decode cL_law 338 = .ok (.iaload, 1) := by decide +kernel
theorem dL_law_339 : decode cL_law 339 = .ok (.aload_n 0, 1) := by decide +kernel
theorem dL_law_340 : decode cL_law 340 = .ok (.iload 4, 2) := by decide +kernel
theorem dL_law_342 : decode cL_law 342 = .ok (.iconst 2, 1) := by decide +kernel
theorem dL_law_343 : decode cL_law 343 = .ok (.iadd, 1) := by decide +kernel
theorem dL_law_344 : decode cL_law 344 = .ok (.iaload, 1) := by decide +kernel
theorem dL_law_345 : decode cL_law 345 = .ok (.aload_n 0, 1) := by decide +kernel
theorem dL_law_346 : decode cL_law 346 = .ok (.iload 4, 2) := by decide +kernel
theorem dL_law_348 : decode cL_law 348 = .ok (.iconst 3, 1) := by decide +kernel
theorem dL_law_349 : decode cL_law 349 = .ok (.iadd, 1) := by decide +kernel
theorem dL_law_350 : decode cL_law 350 = .ok (.iaload, 1) := by decide +kernel
theorem dL_law_351 : decode cL_law 351 = .ok (.aload_n 3, 1) := by decide +kernel
theorem dL_law_352 : decode cL_law 352 = .ok (.invokestatic 80, 3) := by decide +kernel
theorem dL_law_355 : decode cL_law 355 = .ok (.istore 5, 2) := by decide +kernel
theorem dL_law_357 : decode cL_law 357 = .ok (.aload_n 2, 1) := by decide +kernel
theorem dL_law_358 : decode cL_law 358 = .ok (.aload_n 0, 1) := by decide +kernel
theorem dL_law_359 : decode cL_law 359 = .ok (.iload 4, 2) := by decide +kernel
theorem dL_law_361 : decode cL_law 361 = .ok (.iconst 1, 1) := by decide +kernel
theorem dL_law_362 : decode cL_law 362 = .ok (.iadd, 1) := by decide +kernel
theorem dL_law_363 : decode cL_law 363 = .ok (.iaload, 1) := by decide +kernel
theorem dL_law_364 : decode cL_law 364 = .ok (.aload_n 0, 1) := by decide +kernel
theorem dL_law_365 : decode cL_law 365 = .ok (.iload 4, 2) := by decide +kernel
theorem dL_law_367 : decode cL_law 367 = .ok (.iconst 2, 1) := by decide +kernel
theorem dL_law_368 : decode cL_law 368 = .ok (.iadd, 1) := by decide +kernel
theorem dL_law_369 : decode cL_law 369 = .ok (.iaload, 1) := by decide +kernel
theorem dL_law_370 : decode cL_law 370 = .ok (.aload_n 0, 1) := by decide +kernel
theorem dL_law_371 : decode cL_law 371 = .ok (.iload 4, 2) := by decide +kernel
theorem dL_law_373 : decode cL_law 373 = .ok (.iconst 3, 1) := by decide +kernel
theorem dL_law_374 : decode cL_law 374 = .ok (.iadd, 1) := by decide +kernel
theorem dL_law_375 : decode cL_law 375 = .ok (.iaload, 1) := by decide +kernel
theorem dL_law_376 : decode cL_law 376 = .ok (.invokevirtual 83, 3) := by decide +kernel
theorem dL_law_379 : decode cL_law 379 = .ok (.istore 6, 2) := by decide +kernel
theorem dL_law_381 : decode cL_law 381 = .ok (.aload_n 2, 1) := by decide +kernel
theorem dL_law_382 : decode cL_law 382 = .ok (.invokevirtual 66, 3) := by decide +kernel
theorem dL_law_385 : decode cL_law 385 = .ok (.iload 5, 2) := by decide +kernel
theorem dL_law_387 : decode cL_law 387 = .ok (.if_icmp .eq 5, 3) := by decide +kernel
theorem dL_law_390 : decode cL_law 390 = .ok (.iconst 0, 1) := by decide +kernel
theorem dL_law_391 : decode cL_law 391 = .ok (.ireturn, 1) := by decide +kernel
theorem dL_law_392 : decode cL_law 392 = .ok (.iload 5, 2) := by decide +kernel
theorem dL_law_394 : decode cL_law 394 = .ok (.ifCond .ne 15, 3) := by decide +kernel
theorem dL_law_397 : decode cL_law 397 = .ok (.aload_n 3, 1) := by decide +kernel
theorem dL_law_398 : decode cL_law 398 = .ok (.iconst 0, 1) := by decide +kernel
theorem dL_law_399 : decode cL_law 399 = .ok (.laload, 1) := by decide +kernel
theorem dL_law_400 : decode cL_law 400 = .ok (.iload 6, 2) := by decide +kernel
theorem dL_law_402 : decode cL_law 402 = .ok (.i2l, 1) := by decide +kernel
theorem dL_law_403 : decode cL_law 403 = .ok (.lcmp, 1) := by decide +kernel
theorem dL_law_404 : decode cL_law 404 = .ok (.ifCond .eq 5, 3) := by decide +kernel
theorem dL_law_407 : decode cL_law 407 = .ok (.iconst 0, 1) := by decide +kernel
theorem dL_law_408 : decode cL_law 408 = .ok (.ireturn, 1) := by decide +kernel
theorem dL_law_409 : decode cL_law 409 = .ok (.goto 643, 3) := by decide +kernel
theorem dL_law_412 : decode cL_law 412 = .ok (.aload_n 1, 1) := by decide +kernel
theorem dL_law_413 : decode cL_law 413 = .ok (.aload_n 0, 1) := by decide +kernel
theorem dL_law_414 : decode cL_law 414 = .ok (.iload 4, 2) := by decide +kernel
theorem dL_law_416 : decode cL_law 416 = .ok (.iconst 1, 1) := by decide +kernel
theorem dL_law_417 : decode cL_law 417 = .ok (.iadd, 1) := by decide +kernel
theorem dL_law_418 : decode cL_law 418 = .ok (.iaload, 1) := by decide +kernel
theorem dL_law_419 : decode cL_law 419 = .ok (.aload_n 0, 1) := by decide +kernel
theorem dL_law_420 : decode cL_law 420 = .ok (.iload 4, 2) := by decide +kernel
theorem dL_law_422 : decode cL_law 422 = .ok (.iconst 2, 1) := by decide +kernel
theorem dL_law_423 : decode cL_law 423 = .ok (.iadd, 1) := by decide +kernel
theorem dL_law_424 : decode cL_law 424 = .ok (.iaload, 1) := by decide +kernel
theorem dL_law_425 : decode cL_law 425 = .ok (.aload_n 0, 1) := by decide +kernel
theorem dL_law_426 : decode cL_law 426 = .ok (.iload 4, 2) := by decide +kernel
theorem dL_law_428 : decode cL_law 428 = .ok (.iconst 3, 1) := by decide +kernel
theorem dL_law_429 : decode cL_law 429 = .ok (.iadd, 1) := by decide +kernel
theorem dL_law_430 : decode cL_law 430 = .ok (.iaload, 1) := by decide +kernel
theorem dL_law_431 : decode cL_law 431 = .ok (.aload_n 3, 1) := by decide +kernel
theorem dL_law_432 : decode cL_law 432 = .ok (.invokestatic 84, 3) := by decide +kernel
theorem dL_law_435 : decode cL_law 435 = .ok (.istore 5, 2) := by decide +kernel
theorem dL_law_437 : decode cL_law 437 = .ok (.aload_n 2, 1) := by decide +kernel
theorem dL_law_438 : decode cL_law 438 = .ok (.aload_n 0, 1) := by decide +kernel
theorem dL_law_439 : decode cL_law 439 = .ok (.iload 4, 2) := by decide +kernel
theorem dL_law_441 : decode cL_law 441 = .ok (.iconst 1, 1) := by decide +kernel
theorem dL_law_442 : decode cL_law 442 = .ok (.iadd, 1) := by decide +kernel
theorem dL_law_443 : decode cL_law 443 = .ok (.iaload, 1) := by decide +kernel
theorem dL_law_444 : decode cL_law 444 = .ok (.aload_n 0, 1) := by decide +kernel
theorem dL_law_445 : decode cL_law 445 = .ok (.iload 4, 2) := by decide +kernel
theorem dL_law_447 : decode cL_law 447 = .ok (.iconst 2, 1) := by decide +kernel
theorem dL_law_448 : decode cL_law 448 = .ok (.iadd, 1) := by decide +kernel
theorem dL_law_449 : decode cL_law 449 = .ok (.iaload, 1) := by decide +kernel
theorem dL_law_450 : decode cL_law 450 = .ok (.aload_n 0, 1) := by decide +kernel
theorem dL_law_451 : decode cL_law 451 = .ok (.iload 4, 2) := by decide +kernel
theorem dL_law_453 : decode cL_law 453 = .ok (.iconst 3, 1) := by decide +kernel
theorem dL_law_454 : decode cL_law 454 = .ok (.iadd, 1) := by decide +kernel
theorem dL_law_455 : decode cL_law 455 = .ok (.iaload, 1) := by decide +kernel
theorem dL_law_456 : decode cL_law 456 = .ok (.invokevirtual 86, 3) := by decide +kernel
theorem dL_law_459 : decode cL_law 459 = .ok (.istore 6, 2) := by decide +kernel
theorem dL_law_461 : decode cL_law 461 = .ok (.aload_n 2, 1) := by decide +kernel
theorem dL_law_462 : decode cL_law 462 = .ok (.invokevirtual 66, 3) := by decide +kernel
theorem dL_law_465 : decode cL_law 465 = .ok (.iload 5, 2) := by decide +kernel
theorem dL_law_467 : decode cL_law 467 = .ok (.if_icmp .eq 5, 3) := by decide +kernel
theorem dL_law_470 : decode cL_law 470 = .ok (.iconst 0, 1) := by decide +kernel
theorem dL_law_471 : decode cL_law 471 = .ok (.ireturn, 1) := by decide +kernel
theorem dL_law_472 : decode cL_law 472 = .ok (.iload 5, 2) := by decide +kernel
theorem dL_law_474 : decode cL_law 474 = .ok (.ifCond .ne 15, 3) := by decide +kernel
theorem dL_law_477 : decode cL_law 477 = .ok (.aload_n 3, 1) := by decide +kernel
theorem dL_law_478 : decode cL_law 478 = .ok (.iconst 0, 1) := by decide +kernel
theorem dL_law_479 : decode cL_law 479 = .ok (.laload, 1) := by decide +kernel
theorem dL_law_480 : decode cL_law 480 = .ok (.iload 6, 2) := by decide +kernel
theorem dL_law_482 : decode cL_law 482 = .ok (.i2l, 1) := by decide +kernel
theorem dL_law_483 : decode cL_law 483 = .ok (.lcmp, 1) := by decide +kernel
theorem dL_law_484 : decode cL_law 484 = .ok (.ifCond .eq 5, 3) := by decide +kernel
theorem dL_law_487 : decode cL_law 487 = .ok (.iconst 0, 1) := by decide +kernel
theorem dL_law_488 : decode cL_law 488 = .ok (.ireturn, 1) := by decide +kernel
theorem dL_law_489 : decode cL_law 489 = .ok (.goto 563, 3) := by decide +kernel
theorem dL_law_492 : decode cL_law 492 = .ok (.aload_n 1, 1) := by decide +kernel
theorem dL_law_493 : decode cL_law 493 = .ok (.aload_n 0, 1) := by decide +kernel
theorem dL_law_494 : decode cL_law 494 = .ok (.iload 4, 2) := by decide +kernel
theorem dL_law_496 : decode cL_law 496 = .ok (.iconst 1, 1) := by decide +kernel
theorem dL_law_497 : decode cL_law 497 = .ok (.iadd, 1) := by decide +kernel
theorem dL_law_498 : decode cL_law 498 = .ok (.iaload, 1) := by decide +kernel
theorem dL_law_499 : decode cL_law 499 = .ok (.aload_n 0, 1) := by decide +kernel
theorem dL_law_500 : decode cL_law 500 = .ok (.iload 4, 2) := by decide +kernel
theorem dL_law_502 : decode cL_law 502 = .ok (.iconst 2, 1) := by decide +kernel
theorem dL_law_503 : decode cL_law 503 = .ok (.iadd, 1) := by decide +kernel
theorem dL_law_504 : decode cL_law 504 = .ok (.iaload, 1) := by decide +kernel
theorem dL_law_505 : decode cL_law 505 = .ok (.aload_n 0, 1) := by decide +kernel
theorem dL_law_506 : decode cL_law 506 = .ok (.iload 4, 2) := by decide +kernel
theorem dL_law_508 : decode cL_law 508 = .ok (.iconst 3, 1) := by decide +kernel
theorem dL_law_509 : decode cL_law 509 = .ok (.iadd, 1) := by decide +kernel
theorem dL_law_510 : decode cL_law 510 = .ok (.iaload, 1) := by decide +kernel
theorem dL_law_511 : decode cL_law 511 = .ok (.aload_n 3, 1) := by decide +kernel
theorem dL_law_512 : decode cL_law 512 = .ok (.invokestatic 87, 3) := by decide +kernel
theorem dL_law_515 : decode cL_law 515 = .ok (.istore 5, 2) := by decide +kernel
theorem dL_law_517 : decode cL_law 517 = .ok (.aload_n 2, 1) := by decide +kernel
theorem dL_law_518 : decode cL_law 518 = .ok (.aload_n 0, 1) := by decide +kernel
theorem dL_law_519 : decode cL_law 519 = .ok (.iload 4, 2) := by decide +kernel
theorem dL_law_521 : decode cL_law 521 = .ok (.iconst 1, 1) := by decide +kernel
theorem dL_law_522 : decode cL_law 522 = .ok (.iadd, 1) := by decide +kernel
theorem dL_law_523 : decode cL_law 523 = .ok (.iaload, 1) := by decide +kernel
theorem dL_law_524 : decode cL_law 524 = .ok (.aload_n 0, 1) := by decide +kernel
theorem dL_law_525 : decode cL_law 525 = .ok (.iload 4, 2) := by decide +kernel
theorem dL_law_527 : decode cL_law 527 = .ok (.iconst 2, 1) := by decide +kernel
theorem dL_law_528 : decode cL_law 528 = .ok (.iadd, 1) := by decide +kernel
theorem dL_law_529 : decode cL_law 529 = .ok (.iaload, 1) := by decide +kernel
theorem dL_law_530 : decode cL_law 530 = .ok (.aload_n 0, 1) := by decide +kernel
theorem dL_law_531 : decode cL_law 531 = .ok (.iload 4, 2) := by decide +kernel
theorem dL_law_533 : decode cL_law 533 = .ok (.iconst 3, 1) := by decide +kernel
theorem dL_law_534 : decode cL_law 534 = .ok (.iadd, 1) := by decide +kernel
theorem dL_law_535 : decode cL_law 535 = .ok (.iaload, 1) := by decide +kernel
theorem dL_law_536 : decode cL_law 536 = .ok (.invokevirtual 89, 3) := by decide +kernel
theorem dL_law_539 : decode cL_law 539 = .ok (.istore 6, 2) := by decide +kernel
theorem dL_law_541 : decode cL_law 541 = .ok (.aload_n 2, 1) := by decide +kernel
theorem dL_law_542 : decode cL_law 542 = .ok (.invokevirtual 66, 3) := by decide +kernel
theorem dL_law_545 : decode cL_law 545 = .ok (.iload 5, 2) := by decide +kernel
theorem dL_law_547 : decode cL_law 547 = .ok (.if_icmp .eq 5, 3) := by decide +kernel
theorem dL_law_550 : decode cL_law 550 = .ok (.iconst 0, 1) := by decide +kernel
theorem dL_law_551 : decode cL_law 551 = .ok (.ireturn, 1) := by decide +kernel
theorem dL_law_552 : decode cL_law 552 = .ok (.iload 5, 2) := by decide +kernel
theorem dL_law_554 : decode cL_law 554 = .ok (.ifCond .ne 15, 3) := by decide +kernel
theorem dL_law_557 : decode cL_law 557 = .ok (.aload_n 3, 1) := by decide +kernel
theorem dL_law_558 : decode cL_law 558 = .ok (.iconst 0, 1) := by decide +kernel
theorem dL_law_559 : decode cL_law 559 = .ok (.laload, 1) := by decide +kernel
theorem dL_law_560 : decode cL_law 560 = .ok (.iload 6, 2) := by decide +kernel
theorem dL_law_562 : decode cL_law 562 = .ok (.i2l, 1) := by decide +kernel
theorem dL_law_563 : decode cL_law 563 = .ok (.lcmp, 1) := by decide +kernel
theorem dL_law_564 : decode cL_law 564 = .ok (.ifCond .eq 5, 3) := by decide +kernel
theorem dL_law_567 : decode cL_law 567 = .ok (.iconst 0, 1) := by decide +kernel
theorem dL_law_568 : decode cL_law 568 = .ok (.ireturn, 1) := by decide +kernel
theorem dL_law_569 : decode cL_law 569 = .ok (.goto 483, 3) := by decide +kernel
theorem dL_law_572 : decode cL_law 572 = .ok (.aload_n 1, 1) := by decide +kernel
theorem dL_law_573 : decode cL_law 573 = .ok (.aload_n 0, 1) := by decide +kernel
theorem dL_law_574 : decode cL_law 574 = .ok (.iload 4, 2) := by decide +kernel
theorem dL_law_576 : decode cL_law 576 = .ok (.iconst 1, 1) := by decide +kernel
theorem dL_law_577 : decode cL_law 577 = .ok (.iadd, 1) := by decide +kernel
theorem dL_law_578 : decode cL_law 578 = .ok (.iaload, 1) := by decide +kernel
theorem dL_law_579 : decode cL_law 579 = .ok (.aload_n 0, 1) := by decide +kernel
theorem dL_law_580 : decode cL_law 580 = .ok (.iload 4, 2) := by decide +kernel
theorem dL_law_582 : decode cL_law 582 = .ok (.iconst 2, 1) := by decide +kernel
theorem dL_law_583 : decode cL_law 583 = .ok (.iadd, 1) := by decide +kernel
theorem dL_law_584 : decode cL_law 584 = .ok (.iaload, 1) := by decide +kernel
theorem dL_law_585 : decode cL_law 585 = .ok (.aload_n 3, 1) := by decide +kernel
theorem dL_law_586 : decode cL_law 586 = .ok (.invokestatic 90, 3) := by decide +kernel
theorem dL_law_589 : decode cL_law 589 = .ok (.istore 5, 2) := by decide +kernel
theorem dL_law_591 : decode cL_law 591 = .ok (.aload_n 2, 1) := by decide +kernel
theorem dL_law_592 : decode cL_law 592 = .ok (.aload_n 0, 1) := by decide +kernel
theorem dL_law_593 : decode cL_law 593 = .ok (.iload 4, 2) := by decide +kernel
theorem dL_law_595 : decode cL_law 595 = .ok (.iconst 1, 1) := by decide +kernel
theorem dL_law_596 : decode cL_law 596 = .ok (.iadd, 1) := by decide +kernel
theorem dL_law_597 : decode cL_law 597 = .ok (.iaload, 1) := by decide +kernel
theorem dL_law_598 : decode cL_law 598 = .ok (.aload_n 0, 1) := by decide +kernel
theorem dL_law_599 : decode cL_law 599 = .ok (.iload 4, 2) := by decide +kernel
theorem dL_law_601 : decode cL_law 601 = .ok (.iconst 2, 1) := by decide +kernel
theorem dL_law_602 : decode cL_law 602 = .ok (.iadd, 1) := by decide +kernel
theorem dL_law_603 : decode cL_law 603 = .ok (.iaload, 1) := by decide +kernel
theorem dL_law_604 : decode cL_law 604 = .ok (.invokevirtual 92, 3) := by decide +kernel
theorem dL_law_607 : decode cL_law 607 = .ok (.istore 6, 2) := by decide +kernel
theorem dL_law_609 : decode cL_law 609 = .ok (.aload_n 2, 1) := by decide +kernel
theorem dL_law_610 : decode cL_law 610 = .ok (.invokevirtual 66, 3) := by decide +kernel
theorem dL_law_613 : decode cL_law 613 = .ok (.iload 5, 2) := by decide +kernel
theorem dL_law_615 : decode cL_law 615 = .ok (.if_icmp .eq 5, 3) := by decide +kernel
theorem dL_law_618 : decode cL_law 618 = .ok (.iconst 0, 1) := by decide +kernel
theorem dL_law_619 : decode cL_law 619 = .ok (.ireturn, 1) := by decide +kernel
theorem dL_law_620 : decode cL_law 620 = .ok (.iload 5, 2) := by decide +kernel
theorem dL_law_622 : decode cL_law 622 = .ok (.ifCond .ne 15, 3) := by decide +kernel
theorem dL_law_625 : decode cL_law 625 = .ok (.aload_n 3, 1) := by decide +kernel
theorem dL_law_626 : decode cL_law 626 = .ok (.iconst 0, 1) := by decide +kernel
theorem dL_law_627 : decode cL_law 627 = .ok (.laload, 1) := by decide +kernel
theorem dL_law_628 : decode cL_law 628 = .ok (.iload 6, 2) := by decide +kernel
theorem dL_law_630 : decode cL_law 630 = .ok (.i2l, 1) := by decide +kernel
theorem dL_law_631 : decode cL_law 631 = .ok (.lcmp, 1) := by decide +kernel
theorem dL_law_632 : decode cL_law 632 = .ok (.ifCond .eq 5, 3) := by decide +kernel
theorem dL_law_635 : decode cL_law 635 = .ok (.iconst 0, 1) := by decide +kernel
theorem dL_law_636 : decode cL_law 636 = .ok (.ireturn, 1) := by decide +kernel
theorem dL_law_637 : decode cL_law 637 = .ok (.goto 415, 3) := by decide +kernel
theorem dL_law_640 : decode cL_law 640 = .ok (.aload_n 1, 1) := by decide +kernel
theorem dL_law_641 : decode cL_law 641 = .ok (.aload_n 0, 1) := by decide +kernel
theorem dL_law_642 : decode cL_law 642 = .ok (.iload 4, 2) := by decide +kernel
theorem dL_law_644 : decode cL_law 644 = .ok (.iconst 1, 1) := by decide +kernel
theorem dL_law_645 : decode cL_law 645 = .ok (.iadd, 1) := by decide +kernel
theorem dL_law_646 : decode cL_law 646 = .ok (.iaload, 1) := by decide +kernel
theorem dL_law_647 : decode cL_law 647 = .ok (.aload_n 0, 1) := by decide +kernel
theorem dL_law_648 : decode cL_law 648 = .ok (.iload 4, 2) := by decide +kernel
theorem dL_law_650 : decode cL_law 650 = .ok (.iconst 2, 1) := by decide +kernel
theorem dL_law_651 : decode cL_law 651 = .ok (.iadd, 1) := by decide +kernel
theorem dL_law_652 : decode cL_law 652 = .ok (.iaload, 1) := by decide +kernel
theorem dL_law_653 : decode cL_law 653 = .ok (.aload_n 0, 1) := by decide +kernel
theorem dL_law_654 : decode cL_law 654 = .ok (.iload 4, 2) := by decide +kernel
theorem dL_law_656 : decode cL_law 656 = .ok (.iconst 3, 1) := by decide +kernel
theorem dL_law_657 : decode cL_law 657 = .ok (.iadd, 1) := by decide +kernel
theorem dL_law_658 : decode cL_law 658 = .ok (.iaload, 1) := by decide +kernel
theorem dL_law_659 : decode cL_law 659 = .ok (.aload_n 3, 1) := by decide +kernel
theorem dL_law_660 : decode cL_law 660 = .ok (.invokestatic 93, 3) := by decide +kernel
theorem dL_law_663 : decode cL_law 663 = .ok (.istore 5, 2) := by decide +kernel
theorem dL_law_665 : decode cL_law 665 = .ok (.aload_n 2, 1) := by decide +kernel
theorem dL_law_666 : decode cL_law 666 = .ok (.aload_n 0, 1) := by decide +kernel
theorem dL_law_667 : decode cL_law 667 = .ok (.iload 4, 2) := by decide +kernel
theorem dL_law_669 : decode cL_law 669 = .ok (.iconst 1, 1) := by decide +kernel
theorem dL_law_670 : decode cL_law 670 = .ok (.iadd, 1) := by decide +kernel
theorem dL_law_671 : decode cL_law 671 = .ok (.iaload, 1) := by decide +kernel
theorem dL_law_672 : decode cL_law 672 = .ok (.aload_n 0, 1) := by decide +kernel
theorem dL_law_673 : decode cL_law 673 = .ok (.iload 4, 2) := by decide +kernel
theorem dL_law_675 : decode cL_law 675 = .ok (.iconst 2, 1) := by decide +kernel
theorem dL_law_676 : decode cL_law 676 = .ok (.iadd, 1) := by decide +kernel
theorem dL_law_677 : decode cL_law 677 = .ok (.iaload, 1) := by decide +kernel
theorem dL_law_678 : decode cL_law 678 = .ok (.aload_n 0, 1) := by decide +kernel
theorem dL_law_679 : decode cL_law 679 = .ok (.iload 4, 2) := by decide +kernel
theorem dL_law_681 : decode cL_law 681 = .ok (.iconst 3, 1) := by decide +kernel
theorem dL_law_682 : decode cL_law 682 = .ok (.iadd, 1) := by decide +kernel
theorem dL_law_683 : decode cL_law 683 = .ok (.iaload, 1) := by decide +kernel
theorem dL_law_684 : decode cL_law 684 = .ok (.invokevirtual 95, 3) := by decide +kernel
theorem dL_law_687 : decode cL_law 687 = .ok (.istore 6, 2) := by decide +kernel
theorem dL_law_689 : decode cL_law 689 = .ok (.aload_n 2, 1) := by decide +kernel
theorem dL_law_690 : decode cL_law 690 = .ok (.invokevirtual 66, 3) := by decide +kernel
theorem dL_law_693 : decode cL_law 693 = .ok (.iload 5, 2) := by decide +kernel
theorem dL_law_695 : decode cL_law 695 = .ok (.if_icmp .eq 5, 3) := by decide +kernel
theorem dL_law_698 : decode cL_law 698 = .ok (.iconst 0, 1) := by decide +kernel
theorem dL_law_699 : decode cL_law 699 = .ok (.ireturn, 1) := by decide +kernel
theorem dL_law_700 : decode cL_law 700 = .ok (.iload 5, 2) := by decide +kernel
theorem dL_law_702 : decode cL_law 702 = .ok (.ifCond .ne 15, 3) := by decide +kernel
theorem dL_law_705 : decode cL_law 705 = .ok (.aload_n 3, 1) := by decide +kernel
theorem dL_law_706 : decode cL_law 706 = .ok (.iconst 0, 1) := by decide +kernel
theorem dL_law_707 : decode cL_law 707 = .ok (.laload, 1) := by decide +kernel
theorem dL_law_708 : decode cL_law 708 = .ok (.iload 6, 2) := by decide +kernel
theorem dL_law_710 : decode cL_law 710 = .ok (.i2l, 1) := by decide +kernel
theorem dL_law_711 : decode cL_law 711 = .ok (.lcmp, 1) := by decide +kernel
theorem dL_law_712 : decode cL_law 712 = .ok (.ifCond .eq 5, 3) := by decide +kernel
theorem dL_law_715 : decode cL_law 715 = .ok (.iconst 0, 1) := by decide +kernel
theorem dL_law_716 : decode cL_law 716 = .ok (.ireturn, 1) := by decide +kernel
theorem dL_law_717 : decode cL_law 717 = .ok (.goto 335, 3) := by decide +kernel
theorem dL_law_720 : decode cL_law 720 = .ok (.aload_n 1, 1) := by decide +kernel
theorem dL_law_721 : decode cL_law 721 = .ok (.aload_n 0, 1) := by decide +kernel
theorem dL_law_722 : decode cL_law 722 = .ok (.iload 4, 2) := by decide +kernel
theorem dL_law_724 : decode cL_law 724 = .ok (.iconst 1, 1) := by decide +kernel
theorem dL_law_725 : decode cL_law 725 = .ok (.iadd, 1) := by decide +kernel
theorem dL_law_726 : decode cL_law 726 = .ok (.iaload, 1) := by decide +kernel
theorem dL_law_727 : decode cL_law 727 = .ok (.aload_n 0, 1) := by decide +kernel
theorem dL_law_728 : decode cL_law 728 = .ok (.iload 4, 2) := by decide +kernel
theorem dL_law_730 : decode cL_law 730 = .ok (.iconst 2, 1) := by decide +kernel
theorem dL_law_731 : decode cL_law 731 = .ok (.iadd, 1) := by decide +kernel
theorem dL_law_732 : decode cL_law 732 = .ok (.iaload, 1) := by decide +kernel
theorem dL_law_733 : decode cL_law 733 = .ok (.aload_n 0, 1) := by decide +kernel
theorem dL_law_734 : decode cL_law 734 = .ok (.iload 4, 2) := by decide +kernel
theorem dL_law_736 : decode cL_law 736 = .ok (.iconst 3, 1) := by decide +kernel
theorem dL_law_737 : decode cL_law 737 = .ok (.iadd, 1) := by decide +kernel
theorem dL_law_738 : decode cL_law 738 = .ok (.iaload, 1) := by decide +kernel
theorem dL_law_739 : decode cL_law 739 = .ok (.ifCond .eq 7, 3) := by decide +kernel
theorem dL_law_742 : decode cL_law 742 = .ok (.iconst 1, 1) := by decide +kernel
theorem dL_law_743 : decode cL_law 743 = .ok (.goto 4, 3) := by decide +kernel
theorem dL_law_746 : decode cL_law 746 = .ok (.iconst 0, 1) := by decide +kernel
theorem dL_law_747 : decode cL_law 747 = .ok (.aload_n 3, 1) := by decide +kernel
theorem dL_law_748 : decode cL_law 748 = .ok (.invokestatic 96, 3) := by decide +kernel
theorem dL_law_751 : decode cL_law 751 = .ok (.istore 5, 2) := by decide +kernel
theorem dL_law_753 : decode cL_law 753 = .ok (.aload_n 2, 1) := by decide +kernel
theorem dL_law_754 : decode cL_law 754 = .ok (.aload_n 0, 1) := by decide +kernel
theorem dL_law_755 : decode cL_law 755 = .ok (.iload 4, 2) := by decide +kernel
theorem dL_law_757 : decode cL_law 757 = .ok (.iconst 1, 1) := by decide +kernel
theorem dL_law_758 : decode cL_law 758 = .ok (.iadd, 1) := by decide +kernel
theorem dL_law_759 : decode cL_law 759 = .ok (.iaload, 1) := by decide +kernel
theorem dL_law_760 : decode cL_law 760 = .ok (.aload_n 0, 1) := by decide +kernel
theorem dL_law_761 : decode cL_law 761 = .ok (.iload 4, 2) := by decide +kernel
theorem dL_law_763 : decode cL_law 763 = .ok (.iconst 2, 1) := by decide +kernel
theorem dL_law_764 : decode cL_law 764 = .ok (.iadd, 1) := by decide +kernel
theorem dL_law_765 : decode cL_law 765 = .ok (.iaload, 1) := by decide +kernel
theorem dL_law_766 : decode cL_law 766 = .ok (.aload_n 0, 1) := by decide +kernel
theorem dL_law_767 : decode cL_law 767 = .ok (.iload 4, 2) := by decide +kernel
theorem dL_law_769 : decode cL_law 769 = .ok (.iconst 3, 1) := by decide +kernel
theorem dL_law_770 : decode cL_law 770 = .ok (.iadd, 1) := by decide +kernel
theorem dL_law_771 : decode cL_law 771 = .ok (.iaload, 1) := by decide +kernel
theorem dL_law_772 : decode cL_law 772 = .ok (.ifCond .eq 7, 3) := by decide +kernel
theorem dL_law_775 : decode cL_law 775 = .ok (.iconst 1, 1) := by decide +kernel
theorem dL_law_776 : decode cL_law 776 = .ok (.goto 4, 3) := by decide +kernel
theorem dL_law_779 : decode cL_law 779 = .ok (.iconst 0, 1) := by decide +kernel
theorem dL_law_780 : decode cL_law 780 = .ok (.invokevirtual 99, 3) := by decide +kernel
theorem dL_law_783 : decode cL_law 783 = .ok (.istore 6, 2) := by decide +kernel
theorem dL_law_785 : decode cL_law 785 = .ok (.aload_n 2, 1) := by decide +kernel
theorem dL_law_786 : decode cL_law 786 = .ok (.invokevirtual 66, 3) := by decide +kernel
theorem dL_law_789 : decode cL_law 789 = .ok (.iload 5, 2) := by decide +kernel
theorem dL_law_791 : decode cL_law 791 = .ok (.if_icmp .eq 5, 3) := by decide +kernel
theorem dL_law_794 : decode cL_law 794 = .ok (.iconst 0, 1) := by decide +kernel
theorem dL_law_795 : decode cL_law 795 = .ok (.ireturn, 1) := by decide +kernel
theorem dL_law_796 : decode cL_law 796 = .ok (.iload 5, 2) := by decide +kernel
theorem dL_law_798 : decode cL_law 798 = .ok (.ifCond .ne 15, 3) := by decide +kernel
theorem dL_law_801 : decode cL_law 801 = .ok (.aload_n 3, 1) := by decide +kernel
theorem dL_law_802 : decode cL_law 802 = .ok (.iconst 0, 1) := by decide +kernel
theorem dL_law_803 : decode cL_law 803 = .ok (.laload, 1) := by decide +kernel
theorem dL_law_804 : decode cL_law 804 = .ok (.iload 6, 2) := by decide +kernel
theorem dL_law_806 : decode cL_law 806 = .ok (.i2l, 1) := by decide +kernel
theorem dL_law_807 : decode cL_law 807 = .ok (.lcmp, 1) := by decide +kernel
theorem dL_law_808 : decode cL_law 808 = .ok (.ifCond .eq 5, 3) := by decide +kernel
theorem dL_law_811 : decode cL_law 811 = .ok (.iconst 0, 1) := by decide +kernel
theorem dL_law_812 : decode cL_law 812 = .ok (.ireturn, 1) := by decide +kernel
theorem dL_law_813 : decode cL_law 813 = .ok (.goto 239, 3) := by decide +kernel
theorem dL_law_816 : decode cL_law 816 = .ok (.aload_n 1, 1) := by decide +kernel
theorem dL_law_817 : decode cL_law 817 = .ok (.aload_n 0, 1) := by decide +kernel
theorem dL_law_818 : decode cL_law 818 = .ok (.iload 4, 2) := by decide +kernel
theorem dL_law_820 : decode cL_law 820 = .ok (.iconst 1, 1) := by decide +kernel
theorem dL_law_821 : decode cL_law 821 = .ok (.iadd, 1) := by decide +kernel
theorem dL_law_822 : decode cL_law 822 = .ok (.iaload, 1) := by decide +kernel
theorem dL_law_823 : decode cL_law 823 = .ok (.aload_n 0, 1) := by decide +kernel
theorem dL_law_824 : decode cL_law 824 = .ok (.iload 4, 2) := by decide +kernel
theorem dL_law_826 : decode cL_law 826 = .ok (.iconst 2, 1) := by decide +kernel
theorem dL_law_827 : decode cL_law 827 = .ok (.iadd, 1) := by decide +kernel
theorem dL_law_828 : decode cL_law 828 = .ok (.iaload, 1) := by decide +kernel
theorem dL_law_829 : decode cL_law 829 = .ok (.i2l, 1) := by decide +kernel
theorem dL_law_830 : decode cL_law 830 = .ok (.bipush 32, 2) := by decide +kernel
theorem dL_law_832 : decode cL_law 832 = .ok (.lshl, 1) := by decide +kernel
theorem dL_law_833 : decode cL_law 833 = .ok (.aload_n 0, 1) := by decide +kernel
theorem dL_law_834 : decode cL_law 834 = .ok (.iload 4, 2) := by decide +kernel
theorem dL_law_836 : decode cL_law 836 = .ok (.iconst 3, 1) := by decide +kernel
theorem dL_law_837 : decode cL_law 837 = .ok (.iadd, 1) := by decide +kernel
theorem dL_law_838 : decode cL_law 838 = .ok (.iaload, 1) := by decide +kernel
theorem dL_law_839 : decode cL_law 839 = .ok (.i2l, 1) := by decide +kernel
theorem dL_law_840 : decode cL_law 840 = .ok (.ldc2_w 70, 3) := by decide +kernel
theorem dL_law_843 : decode cL_law 843 = .ok (.land, 1) := by decide +kernel
theorem dL_law_844 : decode cL_law 844 = .ok (.lor, 1) := by decide +kernel
theorem dL_law_845 : decode cL_law 845 = .ok (.aload_n 3, 1) := by decide +kernel
theorem dL_law_846 : decode cL_law 846 = .ok (.invokestatic 100, 3) := by decide +kernel
theorem dL_law_849 : decode cL_law 849 = .ok (.istore 5, 2) := by decide +kernel
theorem dL_law_851 : decode cL_law 851 = .ok (.aload_n 2, 1) := by decide +kernel
theorem dL_law_852 : decode cL_law 852 = .ok (.aload_n 0, 1) := by decide +kernel
theorem dL_law_853 : decode cL_law 853 = .ok (.iload 4, 2) := by decide +kernel
theorem dL_law_855 : decode cL_law 855 = .ok (.iconst 1, 1) := by decide +kernel
theorem dL_law_856 : decode cL_law 856 = .ok (.iadd, 1) := by decide +kernel
theorem dL_law_857 : decode cL_law 857 = .ok (.iaload, 1) := by decide +kernel
theorem dL_law_858 : decode cL_law 858 = .ok (.aload_n 0, 1) := by decide +kernel
theorem dL_law_859 : decode cL_law 859 = .ok (.iload 4, 2) := by decide +kernel
theorem dL_law_861 : decode cL_law 861 = .ok (.iconst 2, 1) := by decide +kernel
theorem dL_law_862 : decode cL_law 862 = .ok (.iadd, 1) := by decide +kernel
theorem dL_law_863 : decode cL_law 863 = .ok (.iaload, 1) := by decide +kernel
theorem dL_law_864 : decode cL_law 864 = .ok (.i2l, 1) := by decide +kernel
theorem dL_law_865 : decode cL_law 865 = .ok (.bipush 32, 2) := by decide +kernel
theorem dL_law_867 : decode cL_law 867 = .ok (.lshl, 1) := by decide +kernel
theorem dL_law_868 : decode cL_law 868 = .ok (.aload_n 0, 1) := by decide +kernel
theorem dL_law_869 : decode cL_law 869 = .ok (.iload 4, 2) := by decide +kernel
theorem dL_law_871 : decode cL_law 871 = .ok (.iconst 3, 1) := by decide +kernel
theorem dL_law_872 : decode cL_law 872 = .ok (.iadd, 1) := by decide +kernel
theorem dL_law_873 : decode cL_law 873 = .ok (.iaload, 1) := by decide +kernel
theorem dL_law_874 : decode cL_law 874 = .ok (.i2l, 1) := by decide +kernel
theorem dL_law_875 : decode cL_law 875 = .ok (.ldc2_w 70, 3) := by decide +kernel
theorem dL_law_878 : decode cL_law 878 = .ok (.land, 1) := by decide +kernel
theorem dL_law_879 : decode cL_law 879 = .ok (.lor, 1) := by decide +kernel
theorem dL_law_880 : decode cL_law 880 = .ok (.invokevirtual 102, 3) := by decide +kernel
theorem dL_law_883 : decode cL_law 883 = .ok (.lstore 6, 2) := by decide +kernel
theorem dL_law_885 : decode cL_law 885 = .ok (.aload_n 2, 1) := by decide +kernel
theorem dL_law_886 : decode cL_law 886 = .ok (.invokevirtual 66, 3) := by decide +kernel
theorem dL_law_889 : decode cL_law 889 = .ok (.iload 5, 2) := by decide +kernel
theorem dL_law_891 : decode cL_law 891 = .ok (.if_icmp .eq 5, 3) := by decide +kernel
theorem dL_law_894 : decode cL_law 894 = .ok (.iconst 0, 1) := by decide +kernel
theorem dL_law_895 : decode cL_law 895 = .ok (.ireturn, 1) := by decide +kernel
theorem dL_law_896 : decode cL_law 896 = .ok (.iload 5, 2) := by decide +kernel
theorem dL_law_898 : decode cL_law 898 = .ok (.ifCond .ne 14, 3) := by decide +kernel
theorem dL_law_901 : decode cL_law 901 = .ok (.aload_n 3, 1) := by decide +kernel
theorem dL_law_902 : decode cL_law 902 = .ok (.iconst 0, 1) := by decide +kernel
theorem dL_law_903 : decode cL_law 903 = .ok (.laload, 1) := by decide +kernel
theorem dL_law_904 : decode cL_law 904 = .ok (.lload 6, 2) := by decide +kernel
theorem dL_law_906 : decode cL_law 906 = .ok (.lcmp, 1) := by decide +kernel
theorem dL_law_907 : decode cL_law 907 = .ok (.ifCond .eq 5, 3) := by decide +kernel
theorem dL_law_910 : decode cL_law 910 = .ok (.iconst 0, 1) := by decide +kernel
theorem dL_law_911 : decode cL_law 911 = .ok (.ireturn, 1) := by decide +kernel
theorem dL_law_912 : decode cL_law 912 = .ok (.goto 140, 3) := by decide +kernel
theorem dL_law_915 : decode cL_law 915 = .ok (.aload_n 1, 1) := by decide +kernel
theorem dL_law_916 : decode cL_law 916 = .ok (.aload_n 0, 1) := by decide +kernel
theorem dL_law_917 : decode cL_law 917 = .ok (.iload 4, 2) := by decide +kernel
theorem dL_law_919 : decode cL_law 919 = .ok (.iconst 1, 1) := by decide +kernel
theorem dL_law_920 : decode cL_law 920 = .ok (.iadd, 1) := by decide +kernel
theorem dL_law_921 : decode cL_law 921 = .ok (.iaload, 1) := by decide +kernel
theorem dL_law_922 : decode cL_law 922 = .ok (.aload_n 3, 1) := by decide +kernel
theorem dL_law_923 : decode cL_law 923 = .ok (.invokestatic 103, 3) := by decide +kernel
theorem dL_law_926 : decode cL_law 926 = .ok (.istore 5, 2) := by decide +kernel
theorem dL_law_928 : decode cL_law 928 = .ok (.aload_n 2, 1) := by decide +kernel
theorem dL_law_929 : decode cL_law 929 = .ok (.aload_n 0, 1) := by decide +kernel
theorem dL_law_930 : decode cL_law 930 = .ok (.iload 4, 2) := by decide +kernel
theorem dL_law_932 : decode cL_law 932 = .ok (.iconst 1, 1) := by decide +kernel
theorem dL_law_933 : decode cL_law 933 = .ok (.iadd, 1) := by decide +kernel
theorem dL_law_934 : decode cL_law 934 = .ok (.iaload, 1) := by decide +kernel
theorem dL_law_935 : decode cL_law 935 = .ok (.invokevirtual 105, 3) := by decide +kernel
theorem dL_law_938 : decode cL_law 938 = .ok (.lstore 6, 2) := by decide +kernel
theorem dL_law_940 : decode cL_law 940 = .ok (.aload_n 2, 1) := by decide +kernel
theorem dL_law_941 : decode cL_law 941 = .ok (.invokevirtual 66, 3) := by decide +kernel
theorem dL_law_944 : decode cL_law 944 = .ok (.iload 5, 2) := by decide +kernel
theorem dL_law_946 : decode cL_law 946 = .ok (.if_icmp .eq 5, 3) := by decide +kernel
theorem dL_law_949 : decode cL_law 949 = .ok (.iconst 0, 1) := by decide +kernel
theorem dL_law_950 : decode cL_law 950 = .ok (.ireturn, 1) := by decide +kernel
theorem dL_law_951 : decode cL_law 951 = .ok (.iload 5, 2) := by decide +kernel
theorem dL_law_953 : decode cL_law 953 = .ok (.ifCond .ne 14, 3) := by decide +kernel
theorem dL_law_956 : decode cL_law 956 = .ok (.aload_n 3, 1) := by decide +kernel
theorem dL_law_957 : decode cL_law 957 = .ok (.iconst 0, 1) := by decide +kernel
theorem dL_law_958 : decode cL_law 958 = .ok (.laload, 1) := by decide +kernel
theorem dL_law_959 : decode cL_law 959 = .ok (.lload 6, 2) := by decide +kernel
theorem dL_law_961 : decode cL_law 961 = .ok (.lcmp, 1) := by decide +kernel
theorem dL_law_962 : decode cL_law 962 = .ok (.ifCond .eq 5, 3) := by decide +kernel
theorem dL_law_965 : decode cL_law 965 = .ok (.iconst 0, 1) := by decide +kernel
theorem dL_law_966 : decode cL_law 966 = .ok (.ireturn, 1) := by decide +kernel
theorem dL_law_967 : decode cL_law 967 = .ok (.goto 85, 3) := by decide +kernel
theorem dL_law_970 : decode cL_law 970 = .ok (.aload_n 1, 1) := by decide +kernel
theorem dL_law_971 : decode cL_law 971 = .ok (.aload_n 0, 1) := by decide +kernel
theorem dL_law_972 : decode cL_law 972 = .ok (.iload 4, 2) := by decide +kernel
theorem dL_law_974 : decode cL_law 974 = .ok (.iconst 1, 1) := by decide +kernel
theorem dL_law_975 : decode cL_law 975 = .ok (.iadd, 1) := by decide +kernel
theorem dL_law_976 : decode cL_law 976 = .ok (.iaload, 1) := by decide +kernel
theorem dL_law_977 : decode cL_law 977 = .ok (.aload_n 3, 1) := by decide +kernel
theorem dL_law_978 : decode cL_law 978 = .ok (.invokestatic 106, 3) := by decide +kernel
theorem dL_law_981 : decode cL_law 981 = .ok (.istore 5, 2) := by decide +kernel
theorem dL_law_983 : decode cL_law 983 = .ok (.aload_n 2, 1) := by decide +kernel
theorem dL_law_984 : decode cL_law 984 = .ok (.aload_n 0, 1) := by decide +kernel
theorem dL_law_985 : decode cL_law 985 = .ok (.iload 4, 2) := by decide +kernel
theorem dL_law_987 : decode cL_law 987 = .ok (.iconst 1, 1) := by decide +kernel
theorem dL_law_988 : decode cL_law 988 = .ok (.iadd, 1) := by decide +kernel
theorem dL_law_989 : decode cL_law 989 = .ok (.iaload, 1) := by decide +kernel
theorem dL_law_990 : decode cL_law 990 = .ok (.invokevirtual 108, 3) := by decide +kernel
theorem dL_law_993 : decode cL_law 993 = .ok (.istore 6, 2) := by decide +kernel
theorem dL_law_995 : decode cL_law 995 = .ok (.aload_n 2, 1) := by decide +kernel
theorem dL_law_996 : decode cL_law 996 = .ok (.invokevirtual 66, 3) := by decide +kernel
theorem dL_law_999 : decode cL_law 999 = .ok (.iload 5, 2) := by decide +kernel
theorem dL_law_1001 : decode cL_law 1001 = .ok (.if_icmp .eq 5, 3) := by decide +kernel
theorem dL_law_1004 : decode cL_law 1004 = .ok (.iconst 0, 1) := by decide +kernel
theorem dL_law_1005 : decode cL_law 1005 = .ok (.ireturn, 1) := by decide +kernel
theorem dL_law_1006 : decode cL_law 1006 = .ok (.iload 5, 2) := by decide +kernel
theorem dL_law_1008 : decode cL_law 1008 = .ok (.ifCond .ne 15, 3) := by decide +kernel
theorem dL_law_1011 : decode cL_law 1011 = .ok (.aload_n 3, 1) := by decide +kernel
theorem dL_law_1012 : decode cL_law 1012 = .ok (.iconst 0, 1) := by decide +kernel
theorem dL_law_1013 : decode cL_law 1013 = .ok (.laload, 1) := by decide +kernel
theorem dL_law_1014 : decode cL_law 1014 = .ok (.iload 6, 2) := by decide +kernel
theorem dL_law_1016 : decode cL_law 1016 = .ok (.i2l, 1) := by decide +kernel
theorem dL_law_1017 : decode cL_law 1017 = .ok (.lcmp, 1) := by decide +kernel
theorem dL_law_1018 : decode cL_law 1018 = .ok (.ifCond .eq 5, 3) := by decide +kernel
theorem dL_law_1021 : decode cL_law 1021 = .ok (.iconst 0, 1) := by decide +kernel
theorem dL_law_1022 : decode cL_law 1022 = .ok (.ireturn, 1) := by decide +kernel
theorem dL_law_1023 : decode cL_law 1023 = .ok (.goto 29, 3) := by decide +kernel
theorem dL_law_1026 : decode cL_law 1026 = .ok (.aload_n 1, 1) := by decide +kernel
theorem dL_law_1027 : decode cL_law 1027 = .ok (.invokevirtual 109, 3) := by decide +kernel
theorem dL_law_1030 : decode cL_law 1030 = .ok (.aload_n 2, 1) := by decide +kernel
theorem dL_law_1031 : decode cL_law 1031 = .ok (.invokevirtual 112, 3) := by decide +kernel
theorem dL_law_1034 : decode cL_law 1034 = .ok (.if_icmp .eq 18, 3) := by decide +kernel
theorem dL_law_1037 : decode cL_law 1037 = .ok (.iconst 0, 1) := by decide +kernel
theorem dL_law_1038 : decode cL_law 1038 = .ok (.ireturn, 1) := by decide +kernel
theorem dL_law_1039 : decode cL_law 1039 = .ok (.aload_n 1, 1) := by decide +kernel
theorem dL_law_1040 : decode cL_law 1040 = .ok (.invokevirtual 113, 3) := by decide +kernel
theorem dL_law_1043 : decode cL_law 1043 = .ok (.aload_n 2, 1) := by decide +kernel
theorem dL_law_1044 : decode cL_law 1044 = .ok (.invokevirtual 116, 3) := by decide +kernel
theorem dL_law_1047 : decode cL_law 1047 = .ok (.if_icmp .eq 5, 3) := by decide +kernel
theorem dL_law_1050 : decode cL_law 1050 = .ok (.iconst 0, 1) := by decide +kernel
theorem dL_law_1051 : decode cL_law 1051 = .ok (.ireturn, 1) := by decide +kernel
theorem dL_law_1052 : decode cL_law 1052 = .ok (.iinc 4 4, 3) := by decide +kernel
theorem dL_law_1055 : decode cL_law 1055 = .ok (.goto (-1032), 3) := by decide +kernel
theorem dL_law_1058 : decode cL_law 1058 = .ok (.iconst 1, 1) := by decide +kernel
theorem dL_law_1059 : decode cL_law 1059 = .ok (.ireturn, 1) := by decide +kernel
end
section
theorem dJ9_max_7cf53_0 : decode cJ9_max_7cf53 0 = .ok (.iload_n 0, 1) := by decide +kernel
theorem dJ9_max_7cf53_1 : decode cJ9_max_7cf53 1 = .ok (.iload_n 1, 1) := by decide +kernel
theorem dJ9_max_7cf53_2 : decode cJ9_max_7cf53 2 = .ok (.if_icmp .lt 7, 3) := by decide +kernel
theorem dJ9_max_7cf53_5 : decode cJ9_max_7cf53 5 = .ok (.iload_n 0, 1) := by decide +kernel
theorem dJ9_max_7cf53_6 : decode cJ9_max_7cf53 6 = .ok (.goto 4, 3) := by decide +kernel
theorem dJ9_max_7cf53_9 : decode cJ9_max_7cf53 9 = .ok (.iload_n 1, 1) := by decide +kernel
theorem dJ9_max_7cf53_10 : decode cJ9_max_7cf53 10 = .ok (.ireturn, 1) := by decide +kernel
theorem dJ9_min_7cf53_0 : decode cJ9_min_7cf53 0 = .ok (.iload_n 0, 1) := by decide +kernel
theorem dJ9_min_7cf53_1 : decode cJ9_min_7cf53 1 = .ok (.iload_n 1, 1) := by decide +kernel
theorem dJ9_min_7cf53_2 : decode cJ9_min_7cf53 2 = .ok (.if_icmp .gt 7, 3) := by decide +kernel
theorem dJ9_min_7cf53_5 : decode cJ9_min_7cf53 5 = .ok (.iload_n 0, 1) := by decide +kernel
theorem dJ9_min_7cf53_6 : decode cJ9_min_7cf53 6 = .ok (.goto 4, 3) := by decide +kernel
theorem dJ9_min_7cf53_9 : decode cJ9_min_7cf53 9 = .ok (.iload_n 1, 1) := by decide +kernel
theorem dJ9_min_7cf53_10 : decode cJ9_min_7cf53 10 = .ok (.ireturn, 1) := by decide +kernel
theorem dJxa1e45_init_da8c8_0 : decode cJxa1e45_init_da8c8 0 = .ok (.aload_n 0, 1) := by decide +kernel
theorem dJxa1e45_init_da8c8_1 : decode cJxa1e45_init_da8c8 1 = .ok (.invokespecial 1, 3) := by decide +kernel
theorem dJxa1e45_init_da8c8_4 : decode cJxa1e45_init_da8c8 4 = .ok (.return_, 1) := by decide +kernel
theorem dJxc12de_init_da8c8_0 : decode cJxc12de_init_da8c8 0 = .ok (.aload_n 0, 1) := by decide +kernel
theorem dJxc12de_init_da8c8_1 : decode cJxc12de_init_da8c8 1 = .ok (.invokespecial 1, 3) := by decide +kernel
theorem dJxc12de_init_da8c8_4 : decode cJxc12de_init_da8c8 4 = .ok (.aload_n 0, 1) := by decide +kernel
theorem dJxc12de_init_da8c8_5 : decode cJxc12de_init_da8c8 5 = .ok (.iconst 0, 1) := by decide +kernel
theorem dJxc12de_init_da8c8_6 : decode cJxc12de_init_da8c8 6 = .ok (.putfield 7, 3) := by decide +kernel
theorem dJxc12de_init_da8c8_9 : decode cJxc12de_init_da8c8 9 = .ok (.return_, 1) := by decide +kernel
theorem dJx4a65c_init_da8c8_0 : decode cJx4a65c_init_da8c8 0 = .ok (.aload_n 0, 1) := by decide +kernel
theorem dJx4a65c_init_da8c8_1 : decode cJx4a65c_init_da8c8 1 = .ok (.invokespecial 1, 3) := by decide +kernel
theorem dJx4a65c_init_da8c8_4 : decode cJx4a65c_init_da8c8 4 = .ok (.aload_n 0, 1) := by decide +kernel
theorem dJx4a65c_init_da8c8_5 : decode cJx4a65c_init_da8c8 5 = .ok (.getstatic 39, 3) := by decide +kernel
theorem dJx4a65c_init_da8c8_8 : decode cJx4a65c_init_da8c8 8 = .ok (.putfield 9, 3) := by decide +kernel
theorem dJx4a65c_init_da8c8_11 : decode cJx4a65c_init_da8c8 11 = .ok (.return_, 1) := by decide +kernel
theorem dJx4a65c_grow_92f84_0 : decode cJx4a65c_grow_92f84 0 = .ok (.aload_n 0, 1) := by decide +kernel
theorem dJx4a65c_grow_92f84_1 : decode cJx4a65c_grow_92f84 1 = .ok (.getfield 9, 3) := by decide +kernel
theorem dJx4a65c_grow_92f84_4 : decode cJx4a65c_grow_92f84 4 = .ok (.arraylength, 1) := by decide +kernel
theorem dJx4a65c_grow_92f84_5 : decode cJx4a65c_grow_92f84 5 = .ok (.istore_n 2, 1) := by decide +kernel
theorem dJx4a65c_grow_92f84_6 : decode cJx4a65c_grow_92f84 6 = .ok (.iload_n 2, 1) := by decide +kernel
theorem dJx4a65c_grow_92f84_7 : decode cJx4a65c_grow_92f84 7 = .ok (.ifCond .gt 13, 3) := by decide +kernel
theorem dJx4a65c_grow_92f84_10 : decode cJx4a65c_grow_92f84 10 = .ok (.aload_n 0, 1) := by decide +kernel
theorem dJx4a65c_grow_92f84_11 : decode cJx4a65c_grow_92f84 11 = .ok (.getfield 9, 3) := by decide +kernel
theorem dJx4a65c_grow_92f84_14 : decode cJx4a65c_grow_92f84 14 = .ok (.getstatic 39, 3) := by decide +kernel
theorem dJx4a65c_grow_92f84_17 : decode cJx4a65c_grow_92f84 17 = .ok (.if_acmp .eq 28, 3) := by decide +kernel
theorem dJx4a65c_grow_92f84_20 : decode cJx4a65c_grow_92f84 20 = .ok (.iload_n 2, 1) := by decide +kernel
theorem dJx4a65c_grow_92f84_21 : decode cJx4a65c_grow_92f84 21 = .ok (.iload_n 1, 1) := by decide +kernel
theorem dJx4a65c_grow_92f84_22 : decode cJx4a65c_grow_92f84 22 = .ok (.iload_n 2, 1) := by decide +kernel
theorem dJx4a65c_grow_92f84_23 : decode cJx4a65c_grow_92f84 23 = .ok (.isub, 1) := by decide +kernel
theorem dJx4a65c_grow_92f84_24 : decode cJx4a65c_grow_92f84 24 = .ok (.iload_n 2, 1) := by decide +kernel
theorem dJx4a65c_grow_92f84_25 : decode cJx4a65c_grow_92f84 25 = .ok (.iconst 1, 1) := by decide +kernel
theorem dJx4a65c_grow_92f84_26 : decode cJx4a65c_grow_92f84 26 = .ok (.ishr, 1) := by decide +kernel
theorem dJx4a65c_grow_92f84_27 : decode cJx4a65c_grow_92f84 27 = .ok (.invokestatic 73, 3) := by decide +kernel
theorem dJx4a65c_grow_92f84_30 : decode cJx4a65c_grow_92f84 30 = .ok (.istore_n 3, 1) := by decide +kernel
theorem dJx4a65c_grow_92f84_31 : decode cJx4a65c_grow_92f84 31 = .ok (.aload_n 0, 1) := by decide +kernel
theorem dJx4a65c_grow_92f84_32 : decode cJx4a65c_grow_92f84 32 = .ok (.aload_n 0, 1) := by decide +kernel
theorem dJx4a65c_grow_92f84_33 : decode cJx4a65c_grow_92f84 33 = .ok (.getfield 9, 3) := by decide +kernel
theorem dJx4a65c_grow_92f84_36 : decode cJx4a65c_grow_92f84 36 = .ok (.iload_n 3, 1) := by decide +kernel
theorem dJx4a65c_grow_92f84_37 : decode cJx4a65c_grow_92f84 37 = .ok (.invokestatic 66, 3) := by decide +kernel
theorem dJx4a65c_grow_92f84_40 : decode cJx4a65c_grow_92f84 40 = .ok (.dup_x1, 1) := by decide +kernel
theorem dJx4a65c_grow_92f84_41 : decode cJx4a65c_grow_92f84 41 = .ok (.putfield 9, 3) := by decide +kernel
theorem dJx4a65c_grow_92f84_44 : decode cJx4a65c_grow_92f84 44 = .ok (.areturn, 1) := by decide +kernel
theorem dJx4a65c_grow_92f84_45 : decode cJx4a65c_grow_92f84 45 = .ok (.aload_n 0, 1) := by decide +kernel
theorem dJx4a65c_grow_92f84_46 : decode cJx4a65c_grow_92f84 46 = .ok (.bipush 10, 2) := by decide +kernel
theorem dJx4a65c_grow_92f84_48 : decode cJx4a65c_grow_92f84 48 = .ok (.iload_n 1, 1) := by decide +kernel
theorem dJx4a65c_grow_92f84_49 : decode cJx4a65c_grow_92f84 49 = .ok (.invokestatic 79, 3) := by decide +kernel
theorem dJx4a65c_grow_92f84_52 : decode cJx4a65c_grow_92f84 52 = .ok (.anewarray 7, 3) := by decide +kernel
theorem dJx4a65c_grow_92f84_55 : decode cJx4a65c_grow_92f84 55 = .ok (.dup_x1, 1) := by decide +kernel
theorem dJx4a65c_grow_92f84_56 : decode cJx4a65c_grow_92f84 56 = .ok (.putfield 9, 3) := by decide +kernel
theorem dJx4a65c_grow_92f84_59 : decode cJx4a65c_grow_92f84 59 = .ok (.areturn, 1) := by decide +kernel
theorem dJx4a65c_grow_d5877_0 : decode cJx4a65c_grow_d5877 0 = .ok (.aload_n 0, 1) := by decide +kernel
theorem dJx4a65c_grow_d5877_1 : decode cJx4a65c_grow_d5877 1 = .ok (.aload_n 0, 1) := by decide +kernel
theorem dJx4a65c_grow_d5877_2 : decode cJx4a65c_grow_d5877 2 = .ok (.getfield 48, 3) := by decide +kernel
theorem dJx4a65c_grow_d5877_5 : decode cJx4a65c_grow_d5877 5 = .ok (.iconst 1, 1) := by decide +kernel
theorem dJx4a65c_grow_d5877_6 : decode cJx4a65c_grow_d5877 6 = .ok (.iadd, 1) := by decide +kernel
theorem dJx4a65c_grow_d5877_7 : decode cJx4a65c_grow_d5877 7 = .ok (.invokevirtual 69, 3) := by decide +kernel
theorem dJx4a65c_grow_d5877_10 : decode cJx4a65c_grow_d5877 10 = .ok (.areturn, 1) := by decide +kernel
theorem dJx4a65c_size_8abf5_0 : decode cJx4a65c_size_8abf5 0 = .ok (.aload_n 0, 1) := by decide +kernel
theorem dJx4a65c_size_8abf5_1 : decode cJx4a65c_size_8abf5 1 = .ok (.getfield 48, 3) := by decide +kernel
theorem dJx4a65c_size_8abf5_4 : decode cJx4a65c_size_8abf5 4 = .ok (.ireturn, 1) := by decide +kernel
theorem dJx4a65c_elementData_915e3_0 : decode cJx4a65c_elementData_915e3 0 = .ok (.aload_n 0, 1) := by decide +kernel
theorem dJx4a65c_elementData_915e3_1 : decode cJx4a65c_elementData_915e3 1 = .ok (.getfield 9, 3) := by decide +kernel
theorem dJx4a65c_elementData_915e3_4 : decode cJx4a65c_elementData_915e3 4 = .ok (.iload_n 1, 1) := by decide +kernel
theorem dJx4a65c_elementData_915e3_5 : decode cJx4a65c_elementData_915e3 5 = .ok (.aaload, 1) := by decide +kernel
theorem dJx4a65c_elementData_915e3_6 : decode cJx4a65c_elementData_915e3 6 = .ok (.areturn, 1) := by decide +kernel
theorem dJx4a65c_get_915e3_0 : decode cJx4a65c_get_915e3 0 = .ok (.iload_n 1, 1) := by decide +kernel
theorem dJx4a65c_get_915e3_1 : decode cJx4a65c_get_915e3 1 = .ok (.aload_n 0, 1) := by decide +kernel
theorem dJx4a65c_get_915e3_2 : decode cJx4a65c_get_915e3 2 = .ok (.getfield 48, 3) := by decide +kernel
theorem dJx4a65c_get_915e3_5 : decode cJx4a65c_get_915e3 5 = .ok (.invokestatic 118, 3) := by decide +kernel
theorem dJx4a65c_get_915e3_8 : decode cJx4a65c_get_915e3 8 = .ok (.pop, 1) := by decide +kernel
theorem dJx4a65c_get_915e3_9 : decode cJx4a65c_get_915e3 9 = .ok (.aload_n 0, 1) := by decide +kernel
theorem dJx4a65c_get_915e3_10 : decode cJx4a65c_get_915e3 10 = .ok (.iload_n 1, 1) := by decide +kernel
theorem dJx4a65c_get_915e3_11 : decode cJx4a65c_get_915e3 11 = .ok (.invokevirtual 123, 3) := by decide +kernel
theorem dJx4a65c_get_915e3_14 : decode cJx4a65c_get_915e3 14 = .ok (.areturn, 1) := by decide +kernel
theorem dJx4a65c_add_72be8_0 : decode cJx4a65c_add_72be8 0 = .ok (.iload_n 3, 1) := by decide +kernel
theorem dJx4a65c_add_72be8_1 : decode cJx4a65c_add_72be8 1 = .ok (.aload_n 2, 1) := by decide +kernel
theorem dJx4a65c_add_72be8_2 : decode cJx4a65c_add_72be8 2 = .ok (.arraylength, 1) := by decide +kernel
theorem dJx4a65c_add_72be8_3 : decode cJx4a65c_add_72be8 3 = .ok (.if_icmp .ne 8, 3) := by decide +kernel
theorem dJx4a65c_add_72be8_6 : decode cJx4a65c_add_72be8 6 = .ok (.aload_n 0, 1) := by decide +kernel
theorem dJx4a65c_add_72be8_7 : decode cJx4a65c_add_72be8 7 = .ok (.invokevirtual 129, 3) := by decide +kernel
theorem dJx4a65c_add_72be8_10 : decode cJx4a65c_add_72be8 10 = .ok (.astore_n 2, 1) := by decide +kernel
theorem dJx4a65c_add_72be8_11 : decode cJx4a65c_add_72be8 11 = .ok (.aload_n 2, 1) := by decide +kernel
theorem dJx4a65c_add_72be8_12 : decode cJx4a65c_add_72be8 12 = .ok (.iload_n 3, 1) := by decide +kernel
theorem dJx4a65c_add_72be8_13 : decode cJx4a65c_add_72be8 13 = .ok (.aload_n 1, 1) := by decide +kernel
theorem dJx4a65c_add_72be8_14 : decode cJx4a65c_add_72be8 14 = .ok (.aastore, 1) := by decide +kernel
theorem dJx4a65c_add_72be8_15 : decode cJx4a65c_add_72be8 15 = .ok (.aload_n 0, 1) := by decide +kernel
theorem dJx4a65c_add_72be8_16 : decode cJx4a65c_add_72be8 16 = .ok (.iload_n 3, 1) := by decide +kernel
theorem dJx4a65c_add_72be8_17 : decode cJx4a65c_add_72be8 17 = .ok (.iconst 1, 1) := by decide +kernel
theorem dJx4a65c_add_72be8_18 : decode cJx4a65c_add_72be8 18 = .ok (.iadd, 1) := by decide +kernel
theorem dJx4a65c_add_72be8_19 : decode cJx4a65c_add_72be8 19 = .ok (.putfield 48, 3) := by decide +kernel
theorem dJx4a65c_add_72be8_22 : decode cJx4a65c_add_72be8 22 = .ok (.return_, 1) := by decide +kernel
theorem dJx4a65c_add_9ea2d_0 : decode cJx4a65c_add_9ea2d 0 = .ok (.aload_n 0, 1) := by decide +kernel
theorem dJx4a65c_add_9ea2d_1 : decode cJx4a65c_add_9ea2d 1 = .ok (.dup, 1) := by decide +kernel
theorem dJx4a65c_add_9ea2d_2 : decode cJx4a65c_add_9ea2d 2 = .ok (.getfield 63, 3) := by decide +kernel
theorem dJx4a65c_add_9ea2d_5 : decode cJx4a65c_add_9ea2d 5 = .ok (.iconst 1, 1) := by decide +kernel
theorem dJx4a65c_add_9ea2d_6 : decode cJx4a65c_add_9ea2d 6 = .ok (.iadd, 1) := by decide +kernel
theorem dJx4a65c_add_9ea2d_7 : decode cJx4a65c_add_9ea2d 7 = .ok (.putfield 63, 3) := by decide +kernel
theorem dJx4a65c_add_9ea2d_10 : decode cJx4a65c_add_9ea2d 10 = .ok (.aload_n 0, 1) := by decide +kernel
theorem dJx4a65c_add_9ea2d_11 : decode cJx4a65c_add_9ea2d 11 = .ok (.aload_n 1, 1) := by decide +kernel
theorem dJx4a65c_add_9ea2d_12 : decode cJx4a65c_add_9ea2d 12 = .ok (.aload_n 0, 1) := by decide +kernel
theorem dJx4a65c_add_9ea2d_13 : decode cJx4a65c_add_9ea2d 13 = .ok (.getfield 9, 3) := by decide +kernel
theorem dJx4a65c_add_9ea2d_16 : decode cJx4a65c_add_9ea2d 16 = .ok (.aload_n 0, 1) := by decide +kernel
theorem dJx4a65c_add_9ea2d_17 : decode cJx4a65c_add_9ea2d 17 = .ok (.getfield 48, 3) := by decide +kernel
theorem dJx4a65c_add_9ea2d_20 : decode cJx4a65c_add_9ea2d 20 = .ok (.invokevirtual 131, 3) := by decide +kernel
theorem dJx4a65c_add_9ea2d_23 : decode cJx4a65c_add_9ea2d 23 = .ok (.iconst 1, 1) := by decide +kernel
theorem dJx4a65c_add_9ea2d_24 : decode cJx4a65c_add_9ea2d 24 = .ok (.ireturn, 1) := by decide +kernel
theorem dJ7_rangeCheck_23922_0 : decode cJ7_rangeCheck_23922 0 = .ok (.iload_n 1, 1) := by decide +kernel
theorem dJ7_rangeCheck_23922_1 : decode cJ7_rangeCheck_23922 1 = .ok (.iload_n 2, 1) := by decide +kernel
theorem dJ7_rangeCheck_23922_2 : decode cJ7_rangeCheck_23922 2 = .ok (.if_icmp .le 44, 3) := by decide +kernel
theorem dJ7_rangeCheck_23922_5 : decode cJ7_rangeCheck_23922 5 = .ok (.new 43, 3) := by decide +kernel
theorem dJ7_rangeCheck_23922_8 : decode cJ7_rangeCheck_23922 8 = .ok (.dup, 1) := by decide +kernel
theorem dJ7_rangeCheck_23922_9 : decode cJ7_rangeCheck_23922 9 = .ok (.new 45, 3) := by decide +kernel
theorem dJ7_rangeCheck_23922_12 : decode cJ7_rangeCheck_23922 12 = .ok (.dup, 1) := by decide +kernel
theorem dJ7_rangeCheck_23922_13 : decode cJ7_rangeCheck_23922 13 = .ok (.invokespecial 47, 3) := by decide +kernel
theorem dJ7_rangeCheck_23922_16 : decode cJ7_rangeCheck_23922 16 = .ok (.ldc 48, 2) := by decide +kernel
theorem dJ7_rangeCheck_23922_18 : decode cJ7_rangeCheck_23922 18 = .ok (.invokevirtual 50, 3) := by decide +kernel
theorem dJ7_rangeCheck_23922_21 : decode cJ7_rangeCheck_23922 21 = .ok (.iload_n 1, 1) := by decide +kernel
theorem dJ7_rangeCheck_23922_22 : decode cJ7_rangeCheck_23922 22 = .ok (.invokevirtual 54, 3) := by decide +kernel
theorem dJ7_rangeCheck_23922_25 : decode cJ7_rangeCheck_23922 25 = .ok (.ldc 57, 2) := by decide +kernel
theorem dJ7_rangeCheck_23922_27 : decode cJ7_rangeCheck_23922 27 = .ok (.invokevirtual 50, 3) := by decide +kernel
theorem dJ7_rangeCheck_23922_30 : decode cJ7_rangeCheck_23922 30 = .ok (.iload_n 2, 1) := by decide +kernel
theorem dJ7_rangeCheck_23922_31 : decode cJ7_rangeCheck_23922 31 = .ok (.invokevirtual 54, 3) := by decide +kernel
theorem dJ7_rangeCheck_23922_34 : decode cJ7_rangeCheck_23922 34 = .ok (.ldc 59, 2) := by decide +kernel
theorem dJ7_rangeCheck_23922_36 : decode cJ7_rangeCheck_23922 36 = .ok (.invokevirtual 50, 3) := by decide +kernel
theorem dJ7_rangeCheck_23922_39 : decode cJ7_rangeCheck_23922 39 = .ok (.invokevirtual 61, 3) := by decide +kernel
theorem dJ7_rangeCheck_23922_42 : decode cJ7_rangeCheck_23922 42 = .ok (.invokespecial 65, 3) := by decide +kernel
theorem dJ7_rangeCheck_23922_45 : decode cJ7_rangeCheck_23922 45 = .ok (.athrow, 1) := by decide +kernel
theorem dJ7_rangeCheck_23922_46 : decode cJ7_rangeCheck_23922 46 = .ok (.iload_n 1, 1) := by decide +kernel
theorem dJ7_rangeCheck_23922_47 : decode cJ7_rangeCheck_23922 47 = .ok (.ifCond .ge 12, 3) := by decide +kernel
theorem dJ7_rangeCheck_23922_50 : decode cJ7_rangeCheck_23922 50 = .ok (.new 68, 3) := by decide +kernel
theorem dJ7_rangeCheck_23922_53 : decode cJ7_rangeCheck_23922 53 = .ok (.dup, 1) := by decide +kernel
theorem dJ7_rangeCheck_23922_54 : decode cJ7_rangeCheck_23922 54 = .ok (.iload_n 1, 1) := by decide +kernel
theorem dJ7_rangeCheck_23922_55 : decode cJ7_rangeCheck_23922 55 = .ok (.invokespecial 70, 3) := by decide +kernel
theorem dJ7_rangeCheck_23922_58 : decode cJ7_rangeCheck_23922 58 = .ok (.athrow, 1) := by decide +kernel
theorem dJ7_rangeCheck_23922_59 : decode cJ7_rangeCheck_23922 59 = .ok (.iload_n 2, 1) := by decide +kernel
theorem dJ7_rangeCheck_23922_60 : decode cJ7_rangeCheck_23922 60 = .ok (.iload_n 0, 1) := by decide +kernel
theorem dJ7_rangeCheck_23922_61 : decode cJ7_rangeCheck_23922 61 = .ok (.if_icmp .le 12, 3) := by decide +kernel
theorem dJ7_rangeCheck_23922_64 : decode cJ7_rangeCheck_23922 64 = .ok (.new 68, 3) := by decide +kernel
theorem dJ7_rangeCheck_23922_67 : decode cJ7_rangeCheck_23922 67 = .ok (.dup, 1) := by decide +kernel
theorem dJ7_rangeCheck_23922_68 : decode cJ7_rangeCheck_23922 68 = .ok (.iload_n 2, 1) := by decide +kernel
theorem dJ7_rangeCheck_23922_69 : decode cJ7_rangeCheck_23922 69 = .ok (.invokespecial 70, 3) := by decide +kernel
theorem dJ7_rangeCheck_23922_72 : decode cJ7_rangeCheck_23922 72 = .ok (.athrow, 1) := by decide +kernel
theorem dJ7_rangeCheck_23922_73 : decode cJ7_rangeCheck_23922 73 = .ok (.return_, 1) := by decide +kernel
theorem dJ7_fill_fda19_0 : decode cJ7_fill_fda19 0 = .ok (.aload_n 0, 1) := by decide +kernel
theorem dJ7_fill_fda19_1 : decode cJ7_fill_fda19 1 = .ok (.arraylength, 1) := by decide +kernel
theorem dJ7_fill_fda19_2 : decode cJ7_fill_fda19 2 = .ok (.iload_n 1, 1) := by decide +kernel
theorem dJ7_fill_fda19_3 : decode cJ7_fill_fda19 3 = .ok (.iload_n 2, 1) := by decide +kernel
theorem dJ7_fill_fda19_4 : decode cJ7_fill_fda19 4 = .ok (.invokestatic 13, 3) := by decide +kernel
theorem dJ7_fill_fda19_7 : decode cJ7_fill_fda19 7 = .ok (.iload_n 1, 1) := by decide +kernel
theorem dJ7_fill_fda19_8 : decode cJ7_fill_fda19 8 = .ok (.istore 4, 2) := by decide +kernel
theorem dJ7_fill_fda19_10 : decode cJ7_fill_fda19 10 = .ok (.iload 4, 2) := by decide +kernel
theorem dJ7_fill_fda19_12 : decode cJ7_fill_fda19 12 = .ok (.iload_n 2, 1) := by decide +kernel
theorem dJ7_fill_fda19_13 : decode cJ7_fill_fda19 13 = .ok (.if_icmp .ge 14, 3) := by decide +kernel
theorem dJ7_fill_fda19_16 : decode cJ7_fill_fda19 16 = .ok (.aload_n 0, 1) := by decide +kernel
theorem dJ7_fill_fda19_17 : decode cJ7_fill_fda19 17 = .ok (.iload 4, 2) := by decide +kernel
theorem dJ7_fill_fda19_19 : decode cJ7_fill_fda19 19 = .ok (.iload_n 3, 1) := by decide +kernel
theorem dJ7_fill_fda19_20 : decode cJ7_fill_fda19 20 = .ok (.iastore, 1) := by decide +kernel
theorem dJ7_fill_fda19_21 : decode cJ7_fill_fda19 21 = .ok (.iinc 4 1, 3) := by decide +kernel
theorem dJ7_fill_fda19_24 : decode cJ7_fill_fda19 24 = .ok (.goto (-14), 3) := by decide +kernel
theorem dJ7_fill_fda19_27 : decode cJ7_fill_fda19 27 = .ok (.return_, 1) := by decide +kernel
theorem dJ7_copyOf_1904c_0 : decode cJ7_copyOf_1904c 0 = .ok (.aload_n 0, 1) := by decide +kernel
theorem dJ7_copyOf_1904c_1 : decode cJ7_copyOf_1904c 1 = .ok (.iload_n 1, 1) := by decide +kernel
theorem dJ7_copyOf_1904c_2 : decode cJ7_copyOf_1904c 2 = .ok (.aload_n 0, 1) := by decide +kernel
theorem dJ7_copyOf_1904c_3 : decode cJ7_copyOf_1904c 3 = .ok (.invokevirtual 86, 3) := by decide +kernel
theorem dJ7_copyOf_1904c_6 : decode cJ7_copyOf_1904c 6 = .ok (.invokestatic 300, 3) := by decide +kernel
theorem dJ7_copyOf_1904c_9 : decode cJ7_copyOf_1904c 9 = .ok (.areturn, 1) := by decide +kernel
theorem dJ7_copyOf_6403c_0 : decode cJ7_copyOf_6403c 0 = .ok (.aload_n 2, 1) := by decide +kernel
theorem dJ7_copyOf_6403c_1 : decode cJ7_copyOf_6403c 1 = .ok (.ldc 110, 2) := by decide +kernel
theorem dJ7_copyOf_6403c_3 : decode cJ7_copyOf_6403c 3 = .ok (.if_acmp .ne 10, 3) := by decide +kernel
theorem dJ7_copyOf_6403c_6 : decode cJ7_copyOf_6403c 6 = .ok (.iload_n 1, 1) := by decide +kernel
theorem dJ7_copyOf_6403c_7 : decode cJ7_copyOf_6403c 7 = .ok (.anewarray 2, 3) := by decide +kernel
theorem dJ7_copyOf_6403c_10 : decode cJ7_copyOf_6403c 10 = .ok (.goto 14, 3) := by decide +kernel
theorem dJ7_copyOf_6403c_13 : decode cJ7_copyOf_6403c 13 = .ok (.aload_n 2, 1) := by decide +kernel
theorem dJ7_copyOf_6403c_14 : decode cJ7_copyOf_6403c 14 = .ok (.invokevirtual 90, 3) := by decide +kernel
theorem dJ7_copyOf_6403c_17 : decode cJ7_copyOf_6403c 17 = .ok (.iload_n 1, 1) := by decide +kernel
theorem dJ7_copyOf_6403c_18 : decode cJ7_copyOf_6403c 18 = .ok (.invokestatic 95, 3) := by decide +kernel
theorem dJ7_copyOf_6403c_21 : decode cJ7_copyOf_6403c 21 = .ok (.checkcast 110, 3) := by decide +kernel
theorem dJ7_copyOf_6403c_24 : decode cJ7_copyOf_6403c 24 = .ok (.astore_n 3, 1) := by decide +kernel
theorem dJ7_copyOf_6403c_25 : decode cJ7_copyOf_6403c 25 = .ok (.aload_n 0, 1) := by decide +kernel
theorem dJ7_copyOf_6403c_26 : decode cJ7_copyOf_6403c 26 = .ok (.iconst 0, 1) := by decide +kernel
theorem dJ7_copyOf_6403c_27 : decode cJ7_copyOf_6403c 27 = .ok (.aload_n 3, 1) := by decide +kernel
theorem dJ7_copyOf_6403c_28 : decode cJ7_copyOf_6403c 28 = .ok (.iconst 0, 1) := by decide +kernel
theorem dJ7_copyOf_6403c_29 : decode cJ7_copyOf_6403c 29 = .ok (.aload_n 0, 1) := by decide +kernel
theorem dJ7_copyOf_6403c_30 : decode cJ7_copyOf_6403c 30 = .ok (.arraylength, 1) := by decide +kernel
theorem dJ7_copyOf_6403c_31 : decode cJ7_copyOf_6403c 31 = .ok (.iload_n 1, 1) := by decide +kernel
theorem dJ7_copyOf_6403c_32 : decode cJ7_copyOf_6403c 32 = .ok (.invokestatic 304, 3) := by decide +kernel
theorem dJ7_copyOf_6403c_35 : decode cJ7_copyOf_6403c 35 = .ok (.invokestatic 150, 3) := by decide +kernel
theorem dJ7_copyOf_6403c_38 : decode cJ7_copyOf_6403c 38 = .ok (.aload_n 3, 1) := by decide +kernel
theorem dJ7_copyOf_6403c_39 : decode cJ7_copyOf_6403c 39 = .ok (.areturn, 1) := by decide +kernel
theorem dJ7_copyOf_59c91_0 : decode cJ7_copyOf_59c91 0 = .ok (.iload_n 1, 1) := by decide +kernel
theorem dJ7_copyOf_59c91_1 : decode cJ7_copyOf_59c91 1 = .ok (.aload_n 0, 1) := by decide +kernel
theorem dJ7_copyOf_59c91_2 : decode cJ7_copyOf_59c91 2 = .ok (.arraylength, 1) := by decide +kernel
theorem dJ7_copyOf_59c91_3 : decode cJ7_copyOf_59c91 3 = .ok (.if_icmp .ne 11, 3) := by decide +kernel
theorem dJ7_copyOf_59c91_6 : decode cJ7_copyOf_59c91 6 = .ok (.aload_n 0, 1) := by decide +kernel
theorem dJ7_copyOf_59c91_7 : decode cJ7_copyOf_59c91 7 = .ok (.invokevirtual 316, 3) := by decide +kernel
theorem dJ7_copyOf_59c91_10 : decode cJ7_copyOf_59c91 10 = .ok (.checkcast 317, 3) := by decide +kernel
theorem dJ7_copyOf_59c91_13 : decode cJ7_copyOf_59c91 13 = .ok (.areturn, 1) := by decide +kernel
theorem dJ7_copyOf_59c91_14 : decode cJ7_copyOf_59c91 14 = .ok (.iload_n 1, 1) := by decide +kernel
theorem dJ7_copyOf_59c91_15 : decode cJ7_copyOf_59c91 15 = .ok (.newarray .int, 2) := by decide +kernel
theorem dJ7_copyOf_59c91_17 : decode cJ7_copyOf_59c91 17 = .ok (.astore_n 2, 1) := by decide +kernel
theorem dJ7_copyOf_59c91_18 : decode cJ7_copyOf_59c91 18 = .ok (.aload_n 0, 1) := by decide +kernel
theorem dJ7_copyOf_59c91_19 : decode cJ7_copyOf_59c91 19 = .ok (.iconst 0, 1) := by decide +kernel
theorem dJ7_copyOf_59c91_20 : decode cJ7_copyOf_59c91 20 = .ok (.aload_n 2, 1) := by decide +kernel
theorem dJ7_copyOf_59c91_21 : decode cJ7_copyOf_59c91 21 = .ok (.iconst 0, 1) := by decide +kernel
theorem dJ7_copyOf_59c91_22 : decode cJ7_copyOf_59c91 22 = .ok (.aload_n 0, 1) := by decide +kernel
theorem dJ7_copyOf_59c91_23 : decode cJ7_copyOf_59c91 23 = .ok (.arraylength, 1) := by decide +kernel
theorem dJ7_copyOf_59c91_24 : decode cJ7_copyOf_59c91 24 = .ok (.iload_n 1, 1) := by decide +kernel
theorem dJ7_copyOf_59c91_25 : decode cJ7_copyOf_59c91 25 = .ok (.invokestatic 304, 3) := by decide +kernel
theorem dJ7_copyOf_59c91_28 : decode cJ7_copyOf_59c91 28 = .ok (.invokestatic 150, 3) := by decide +kernel
theorem dJ7_copyOf_59c91_31 : decode cJ7_copyOf_59c91 31 = .ok (.aload_n 2, 1) := by decide +kernel
theorem dJ7_copyOf_59c91_32 : decode cJ7_copyOf_59c91 32 = .ok (.areturn, 1) := by decide +kernel
theorem dJ7_checkLength_df160_0 : decode cJ7_checkLength_df160 0 = .ok (.iload_n 1, 1) := by decide +kernel
theorem dJ7_checkLength_df160_1 : decode cJ7_checkLength_df160 1 = .ok (.iload_n 0, 1) := by decide +kernel
theorem dJ7_checkLength_df160_2 : decode cJ7_checkLength_df160 2 = .ok (.if_icmp .ge 35, 3) := by decide +kernel
theorem dJ7_checkLength_df160_5 : decode cJ7_checkLength_df160 5 = .ok (.new 43, 3) := by decide +kernel
theorem dJ7_checkLength_df160_8 : decode cJ7_checkLength_df160 8 = .ok (.dup, 1) := by decide +kernel
theorem dJ7_checkLength_df160_9 : decode cJ7_checkLength_df160 9 = .ok (.new 45, 3) := by decide +kernel
theorem dJ7_checkLength_df160_12 : decode cJ7_checkLength_df160 12 = .ok (.dup, 1) := by decide +kernel
theorem dJ7_checkLength_df160_13 : decode cJ7_checkLength_df160 13 = .ok (.invokespecial 47, 3) := by decide +kernel
theorem dJ7_checkLength_df160_16 : decode cJ7_checkLength_df160 16 = .ok (.iload_n 0, 1) := by decide +kernel
theorem dJ7_checkLength_df160_17 : decode cJ7_checkLength_df160 17 = .ok (.invokevirtual 54, 3) := by decide +kernel
theorem dJ7_checkLength_df160_20 : decode cJ7_checkLength_df160 20 = .ok (.ldc_w 337, 3) := by decide +kernel
theorem dJ7_checkLength_df160_23 : decode cJ7_checkLength_df160 23 = .ok (.invokevirtual 50, 3) := by decide +kernel
theorem dJ7_checkLength_df160_26 : decode cJ7_checkLength_df160 26 = .ok (.iload_n 1, 1) := by decide +kernel
theorem dJ7_checkLength_df160_27 : decode cJ7_checkLength_df160 27 = .ok (.invokevirtual 54, 3) := by decide +kernel
theorem dJ7_checkLength_df160_30 : decode cJ7_checkLength_df160 30 = .ok (.invokevirtual 61, 3) := by decide +kernel
theorem dJ7_checkLength_df160_33 : decode cJ7_checkLength_df160 33 = .ok (.invokespecial 65, 3) := by decide +kernel
theorem dJ7_checkLength_df160_36 : decode cJ7_checkLength_df160 36 = .ok (.athrow, 1) := by decide +kernel
theorem dJ7_checkLength_df160_37 : decode cJ7_checkLength_df160 37 = .ok (.return_, 1) := by decide +kernel
theorem dJ7_copyOfRange_feecc_0 : decode cJ7_copyOfRange_feecc 0 = .ok (.iload_n 1, 1) := by decide +kernel
theorem dJ7_copyOfRange_feecc_1 : decode cJ7_copyOfRange_feecc 1 = .ok (.ifCond .ne 9, 3) := by decide +kernel
theorem dJ7_copyOfRange_feecc_4 : decode cJ7_copyOfRange_feecc 4 = .ok (.iload_n 2, 1) := by decide +kernel
theorem dJ7_copyOfRange_feecc_5 : decode cJ7_copyOfRange_feecc 5 = .ok (.aload_n 0, 1) := by decide +kernel
theorem dJ7_copyOfRange_feecc_6 : decode cJ7_copyOfRange_feecc 6 = .ok (.arraylength, 1) := by decide +kernel
theorem dJ7_copyOfRange_feecc_7 : decode cJ7_copyOfRange_feecc 7 = .ok (.if_icmp .eq 10, 3) := by decide +kernel
theorem dJ7_copyOfRange_feecc_10 : decode cJ7_copyOfRange_feecc 10 = .ok (.aload_n 0, 1) := by decide +kernel
theorem dJ7_copyOfRange_feecc_11 : decode cJ7_copyOfRange_feecc 11 = .ok (.iload_n 1, 1) := by decide +kernel
theorem dJ7_copyOfRange_feecc_12 : decode cJ7_copyOfRange_feecc 12 = .ok (.iload_n 2, 1) := by decide +kernel
theorem dJ7_copyOfRange_feecc_13 : decode cJ7_copyOfRange_feecc 13 = .ok (.invokestatic 351, 3) := by decide +kernel
theorem dJ7_copyOfRange_feecc_16 : decode cJ7_copyOfRange_feecc 16 = .ok (.areturn, 1) := by decide +kernel
theorem dJ7_copyOfRange_feecc_17 : decode cJ7_copyOfRange_feecc 17 = .ok (.aload_n 0, 1) := by decide +kernel
theorem dJ7_copyOfRange_feecc_18 : decode cJ7_copyOfRange_feecc 18 = .ok (.invokevirtual 316, 3) := by decide +kernel
theorem dJ7_copyOfRange_feecc_21 : decode cJ7_copyOfRange_feecc 21 = .ok (.checkcast 317, 3) := by decide +kernel
theorem dJ7_copyOfRange_feecc_24 : decode cJ7_copyOfRange_feecc 24 = .ok (.areturn, 1) := by decide +kernel
theorem dJ7_copyOfRangeInt_feecc_0 : decode cJ7_copyOfRangeInt_feecc 0 = .ok (.iload_n 1, 1) := by decide +kernel
theorem dJ7_copyOfRangeInt_feecc_1 : decode cJ7_copyOfRangeInt_feecc 1 = .ok (.iload_n 2, 1) := by decide +kernel
theorem dJ7_copyOfRangeInt_feecc_2 : decode cJ7_copyOfRangeInt_feecc 2 = .ok (.invokestatic 343, 3) := by decide +kernel
theorem dJ7_copyOfRangeInt_feecc_5 : decode cJ7_copyOfRangeInt_feecc 5 = .ok (.iload_n 2, 1) := by decide +kernel
theorem dJ7_copyOfRangeInt_feecc_6 : decode cJ7_copyOfRangeInt_feecc 6 = .ok (.iload_n 1, 1) := by decide +kernel
theorem dJ7_copyOfRangeInt_feecc_7 : decode cJ7_copyOfRangeInt_feecc 7 = .ok (.isub, 1) := by decide +kernel
theorem dJ7_copyOfRangeInt_feecc_8 : decode cJ7_copyOfRangeInt_feecc 8 = .ok (.istore_n 3, 1) := by decide +kernel
theorem dJ7_copyOfRangeInt_feecc_9 : decode cJ7_copyOfRangeInt_feecc 9 = .ok (.iload_n 3, 1) := by decide +kernel
theorem dJ7_copyOfRangeInt_feecc_10 : decode cJ7_copyOfRangeInt_feecc 10 = .ok (.newarray .int, 2) := by decide +kernel
theorem dJ7_copyOfRangeInt_feecc_12 : decode cJ7_copyOfRangeInt_feecc 12 = .ok (.astore 4, 2) := by decide +kernel
theorem dJ7_copyOfRangeInt_feecc_14 : decode cJ7_copyOfRangeInt_feecc 14 = .ok (.aload_n 0, 1) := by decide +kernel
theorem dJ7_copyOfRangeInt_feecc_15 : decode cJ7_copyOfRangeInt_feecc 15 = .ok (.iload_n 1, 1) := by decide +kernel
theorem dJ7_copyOfRangeInt_feecc_16 : decode cJ7_copyOfRangeInt_feecc 16 = .ok (.aload 4, 2) := by decide +kernel
theorem dJ7_copyOfRangeInt_feecc_18 : decode cJ7_copyOfRangeInt_feecc 18 = .ok (.iconst 0, 1) := by decide +kernel
theorem dJ7_copyOfRangeInt_feecc_19 : decode cJ7_copyOfRangeInt_feecc 19 = .ok (.aload_n 0, 1) := by decide +kernel
theorem dJ7_copyOfRangeInt_feecc_20 : decode cJ7_copyOfRangeInt_feecc 20 = .ok (.arraylength, 1) := by decide +kernel
theorem dJ7_copyOfRangeInt_feecc_21 : decode cJ7_copyOfRangeInt_feecc 21 = .ok (.iload_n 1, 1) := by decide +kernel
theorem dJ7_copyOfRangeInt_feecc_22 : decode cJ7_copyOfRangeInt_feecc 22 = .ok (.isub, 1) := by decide +kernel
theorem dJ7_copyOfRangeInt_feecc_23 : decode cJ7_copyOfRangeInt_feecc 23 = .ok (.iload_n 3, 1) := by decide +kernel
theorem dJ7_copyOfRangeInt_feecc_24 : decode cJ7_copyOfRangeInt_feecc 24 = .ok (.invokestatic 304, 3) := by decide +kernel
theorem dJ7_copyOfRangeInt_feecc_27 : decode cJ7_copyOfRangeInt_feecc 27 = .ok (.invokestatic 150, 3) := by decide +kernel
theorem dJ7_copyOfRangeInt_feecc_30 : decode cJ7_copyOfRangeInt_feecc 30 = .ok (.aload 4, 2) := by decide +kernel
theorem dJ7_copyOfRangeInt_feecc_32 : decode cJ7_copyOfRangeInt_feecc 32 = .ok (.areturn, 1) := by decide +kernel
theorem dJ15_checkIndex_7cf53_0 : decode cJ15_checkIndex_7cf53 0 = .ok (.iload_n 0, 1) := by decide +kernel
theorem dJ15_checkIndex_7cf53_1 : decode cJ15_checkIndex_7cf53 1 = .ok (.iload_n 1, 1) := by decide +kernel
theorem dJ15_checkIndex_7cf53_2 : decode cJ15_checkIndex_7cf53 2 = .ok (.aconst_null, 1) := by decide +kernel
theorem dJ15_checkIndex_7cf53_3 : decode cJ15_checkIndex_7cf53 3 = .ok (.invokestatic 105, 3) := by decide +kernel
theorem dJ15_checkIndex_7cf53_6 : decode cJ15_checkIndex_7cf53 6 = .ok (.ireturn, 1) := by decide +kernel
theorem dJ8_newLength_cabcc_0 : decode cJ8_newLength_cabcc 0 = .ok (.iload_n 0, 1) := by decide +kernel
theorem dJ8_newLength_cabcc_1 : decode cJ8_newLength_cabcc 1 = .ok (.iload_n 1, 1) := by decide +kernel
theorem dJ8_newLength_cabcc_2 : decode cJ8_newLength_cabcc 2 = .ok (.iload_n 2, 1) := by decide +kernel
theorem dJ8_newLength_cabcc_3 : decode cJ8_newLength_cabcc 3 = .ok (.invokestatic 194, 3) := by decide +kernel
theorem dJ8_newLength_cabcc_6 : decode cJ8_newLength_cabcc 6 = .ok (.iadd, 1) := by decide +kernel
theorem dJ8_newLength_cabcc_7 : decode cJ8_newLength_cabcc 7 = .ok (.istore_n 3, 1) := by decide +kernel
theorem dJ8_newLength_cabcc_8 : decode cJ8_newLength_cabcc 8 = .ok (.iconst 0, 1) := by decide +kernel
theorem dJ8_newLength_cabcc_9 : decode cJ8_newLength_cabcc 9 = .ok (.iload_n 3, 1) := by decide +kernel
theorem dJ8_newLength_cabcc_10 : decode cJ8_newLength_cabcc 10 = .ok (.if_icmp .ge 11, 3) := by decide +kernel
theorem dJ8_newLength_cabcc_13 : decode cJ8_newLength_cabcc 13 = .ok (.iload_n 3, 1) := by decide +kernel
theorem dJ8_newLength_cabcc_14 : decode cJ8_newLength_cabcc 14 = .ok (.ldc 200, 2) := by decide +kernel
theorem dJ8_newLength_cabcc_16 : decode cJ8_newLength_cabcc 16 = .ok (.if_icmp .gt 5, 3) := by decide +kernel
theorem dJ8_newLength_cabcc_19 : decode cJ8_newLength_cabcc 19 = .ok (.iload_n 3, 1) := by decide +kernel
theorem dJ8_newLength_cabcc_20 : decode cJ8_newLength_cabcc 20 = .ok (.ireturn, 1) := by decide +kernel
theorem dJ8_newLength_cabcc_21 : decode cJ8_newLength_cabcc 21 = .ok (.iload_n 0, 1) := by decide +kernel
theorem dJ8_newLength_cabcc_22 : decode cJ8_newLength_cabcc 22 = .ok (.iload_n 1, 1) := by decide +kernel
theorem dJ8_newLength_cabcc_23 : decode cJ8_newLength_cabcc 23 = .ok (.invokestatic 201, 3) := by decide +kernel
theorem dJ8_newLength_cabcc_26 : decode cJ8_newLength_cabcc 26 = .ok (.ireturn, 1) := by decide +kernel
theorem dJ3_checkIndex_8e157_0 : decode cJ3_checkIndex_8e157 0 = .ok (.iload_n 0, 1) := by decide +kernel
theorem dJ3_checkIndex_8e157_1 : decode cJ3_checkIndex_8e157 1 = .ok (.ifCond .lt 8, 3) := by decide +kernel
theorem dJ3_checkIndex_8e157_4 : decode cJ3_checkIndex_8e157 4 = .ok (.iload_n 0, 1) := by decide +kernel
theorem dJ3_checkIndex_8e157_5 : decode cJ3_checkIndex_8e157 5 = .ok (.iload_n 1, 1) := by decide +kernel
theorem dJ3_checkIndex_8e157_6 : decode cJ3_checkIndex_8e157 6 = .ok (.if_icmp .lt 10, 3) := by decide +kernel
theorem dJ3_checkIndex_8e157_9 : decode cJ3_checkIndex_8e157 9 = .ok (.aload_n 2, 1) := by decide +kernel
theorem dJ3_checkIndex_8e157_10 : decode cJ3_checkIndex_8e157 10 = .ok (.iload_n 0, 1) := by decide +kernel
theorem dJ3_checkIndex_8e157_11 : decode cJ3_checkIndex_8e157 11 = .ok (.iload_n 1, 1) := by decide +kernel
theorem dJ3_checkIndex_8e157_12 : decode cJ3_checkIndex_8e157 12 = .ok (.invokestatic 95, 3) := by decide +kernel
theorem dJ3_checkIndex_8e157_15 : decode cJ3_checkIndex_8e157 15 = .ok (.athrow, 1) := by decide +kernel
theorem dJ3_checkIndex_8e157_16 : decode cJ3_checkIndex_8e157 16 = .ok (.iload_n 0, 1) := by decide +kernel
theorem dJ3_checkIndex_8e157_17 : decode cJ3_checkIndex_8e157 17 = .ok (.ireturn, 1) := by decide +kernel
end
section
theorem tb_0 : (Cond.initialized RL) ∈ TB := TB_of 0 (by decide +kernel) (by decide +kernel)
theorem tb_1 : (Cond.initialized RX3) ∈ TB := TB_of 1 (by decide +kernel) (by decide +kernel)
theorem tb_2 : (Cond.initialized RX1) ∈ TB := TB_of 2 (by decide +kernel) (by decide +kernel)
theorem tb_3 : (Cond.initialized RX0) ∈ TB := TB_of 3 (by decide +kernel) (by decide +kernel)
theorem tb_4 : (Cond.initialized RJxa1e45) ∈ TB := TB_of 4 (by decide +kernel) (by decide +kernel)
theorem tb_5 : (Cond.initialized RJxc12de) ∈ TB := TB_of 5 (by decide +kernel) (by decide +kernel)
theorem tb_6 : (Cond.initialized RJx4a65c) ∈ TB := TB_of 6 (by decide +kernel) (by decide +kernel)
theorem tb_7 : (Cond.initialized RX4) ∈ TB := TB_of 7 (by decide +kernel) (by decide +kernel)
theorem tb_8 : (Cond.initialized "java/lang/Throwable") ∈ TB := TB_of 8 (by decide +kernel) (by decide +kernel)
theorem tb_9 : (Cond.initialized "java/lang/Exception") ∈ TB := TB_of 9 (by decide +kernel) (by decide +kernel)
theorem tb_10 : (Cond.initialized "java/lang/RuntimeException") ∈ TB := TB_of 10 (by decide +kernel) (by decide +kernel)
theorem tb_11 : (Cond.initialized "java/lang/IllegalArgumentException") ∈ TB := TB_of 11 (by decide +kernel) (by decide +kernel)
theorem tb_12 : (Cond.initialized "java/lang/IllegalStateException") ∈ TB := TB_of 12 (by decide +kernel) (by decide +kernel)
theorem tb_13 : (Cond.initialized RJ7) ∈ TB := TB_of 13 (by decide +kernel) (by decide +kernel)
theorem tb_14 : (Cond.initialized RJ9) ∈ TB := TB_of 14 (by decide +kernel) (by decide +kernel)
theorem tb_15 : (Cond.initialized "java/lang/System") ∈ TB := TB_of 15 (by decide +kernel) (by decide +kernel)
theorem tb_16 : (Cond.initialized RX2) ∈ TB := TB_of 16 (by decide +kernel) (by decide +kernel)
theorem tb_17 : (Cond.initialized RJ8) ∈ TB := TB_of 17 (by decide +kernel) (by decide +kernel)
theorem tb_18 : (Cond.initialized RJ15) ∈ TB := TB_of 18 (by decide +kernel) (by decide +kernel)
theorem tb_19 : (Cond.initialized RJ3) ∈ TB := TB_of 19 (by decide +kernel) (by decide +kernel)
theorem tb_26 : (Cond.classLink RL 8 RX3) ∈ TB := TB_of 26 (by decide +kernel) (by decide +kernel)
theorem tb_27 : (Cond.instantiable RX3 4) ∈ TB := TB_of 27 (by decide +kernel) (by decide +kernel)
theorem tb_28 : (Cond.methodLink RL 56 yX3_init) ∈ TB := TB_of 28 (by decide +kernel) (by decide +kernel)
theorem tb_29 : (Cond.instanceMethod yX3_init) ∈ TB := TB_of 29 (by decide +kernel) (by decide +kernel)
theorem tb_30 : (Cond.code yX3_init cX3_init 1 none) ∈ TB := TB_of 30 (by decide +kernel) (by decide +kernel)
theorem tb_31 : (Cond.methodLink RX3 1 ⟨"java/lang/Object", "<init>", "()V"⟩) ∈ TB := TB_of 31 (by decide +kernel) (by decide +kernel)
theorem tb_32 : (Cond.instanceMethod ⟨"java/lang/Object", "<init>", "()V"⟩) ∈ TB := TB_of 32 (by decide +kernel) (by decide +kernel)
theorem tb_33 : (Cond.code ⟨"java/lang/Object", "<init>", "()V"⟩ object_method_1_code 1 none) ∈ TB := TB_of 33 (by decide +kernel) (by decide +kernel)
theorem tb_34 : (Cond.classLink RX3 7 RX1) ∈ TB := TB_of 34 (by decide +kernel) (by decide +kernel)
theorem tb_35 : (Cond.instantiable RX1 1) ∈ TB := TB_of 35 (by decide +kernel) (by decide +kernel)
theorem tb_36 : (Cond.methodLink RX3 9 yX1_init) ∈ TB := TB_of 36 (by decide +kernel) (by decide +kernel)
theorem tb_37 : (Cond.instanceMethod yX1_init) ∈ TB := TB_of 37 (by decide +kernel) (by decide +kernel)
theorem tb_38 : (Cond.code yX1_init cX1_init 1 none) ∈ TB := TB_of 38 (by decide +kernel) (by decide +kernel)
theorem tb_39 : (Cond.methodLink RX1 1 ⟨"java/lang/Object", "<init>", "()V"⟩) ∈ TB := TB_of 39 (by decide +kernel) (by decide +kernel)
theorem tb_40 : (Cond.classLink RX1 7 RX0) ∈ TB := TB_of 40 (by decide +kernel) (by decide +kernel)
theorem tb_41 : (Cond.instantiable RX0 6) ∈ TB := TB_of 41 (by decide +kernel) (by decide +kernel)
theorem tb_42 : (Cond.methodLink RX1 9 yX0_init) ∈ TB := TB_of 42 (by decide +kernel) (by decide +kernel)
theorem tb_43 : (Cond.instanceMethod yX0_init) ∈ TB := TB_of 43 (by decide +kernel) (by decide +kernel)
theorem tb_44 : (Cond.code yX0_init cX0_init 1 none) ∈ TB := TB_of 44 (by decide +kernel) (by decide +kernel)
theorem tb_45 : (Cond.methodLink RX0 1 ⟨"java/lang/Object", "<init>", "()V"⟩) ∈ TB := TB_of 45 (by decide +kernel) (by decide +kernel)
theorem tb_46 : (Cond.fieldLink RX0 9 "VectorBench$Circuit" "kinds" "[I") ∈ TB := TB_of 46 (by decide +kernel) (by decide +kernel)
theorem tb_47 : (Cond.fieldLink RX0 13 "VectorBench$Circuit" "lefts" "[I") ∈ TB := TB_of 47 (by decide +kernel) (by decide +kernel)
theorem tb_48 : (Cond.fieldLink RX0 16 "VectorBench$Circuit" "rights" "[I") ∈ TB := TB_of 48 (by decide +kernel) (by decide +kernel)
theorem tb_49 : (Cond.fieldLink RX0 19 "VectorBench$Circuit" "states" "[I") ∈ TB := TB_of 49 (by decide +kernel) (by decide +kernel)
theorem tb_50 : (Cond.fieldLink RX0 22 "VectorBench$Circuit" "count" "I") ∈ TB := TB_of 50 (by decide +kernel) (by decide +kernel)
theorem tb_51 : (Cond.fieldLink RX0 26 "VectorBench$Circuit" "settled" "I") ∈ TB := TB_of 51 (by decide +kernel) (by decide +kernel)
theorem tb_65 : (Cond.arrayClass .int) ∈ TB := TB_of 65 (by decide +kernel) (by decide +kernel)
theorem tb_66 : (Cond.fieldLink RX1 10 "VectorBench$Reckoner" "circuit" "LVectorBench$Circuit;") ∈ TB := TB_of 66 (by decide +kernel) (by decide +kernel)
theorem tb_67 : (Cond.fieldLink RX3 16 "VectorBench$Reckoner" "circuit" "LVectorBench$Circuit;") ∈ TB := TB_of 67 (by decide +kernel) (by decide +kernel)
theorem tb_71 : (Cond.classLink RX3 21 RJx4a65c) ∈ TB := TB_of 71 (by decide +kernel) (by decide +kernel)
theorem tb_72 : (Cond.instantiable RJx4a65c 3) ∈ TB := TB_of 72 (by decide +kernel) (by decide +kernel)
theorem tb_73 : (Cond.methodLink RX3 23 yJx4a65c_init_da8c8) ∈ TB := TB_of 73 (by decide +kernel) (by decide +kernel)
theorem tb_74 : (Cond.instanceMethod yJx4a65c_init_da8c8) ∈ TB := TB_of 74 (by decide +kernel) (by decide +kernel)
theorem tb_75 : (Cond.code yJx4a65c_init_da8c8 cJx4a65c_init_da8c8 1 none) ∈ TB := TB_of 75 (by decide +kernel) (by decide +kernel)
theorem tb_76 : (Cond.methodLink RJx4a65c 1 yJxc12de_init_da8c8) ∈ TB := TB_of 76 (by decide +kernel) (by decide +kernel)
theorem tb_77 : (Cond.instanceMethod yJxc12de_init_da8c8) ∈ TB := TB_of 77 (by decide +kernel) (by decide +kernel)
theorem tb_78 : (Cond.code yJxc12de_init_da8c8 cJxc12de_init_da8c8 1 none) ∈ TB := TB_of 78 (by decide +kernel) (by decide +kernel)
theorem tb_79 : (Cond.methodLink RJxc12de 1 yJxa1e45_init_da8c8) ∈ TB := TB_of 79 (by decide +kernel) (by decide +kernel)
theorem tb_80 : (Cond.instanceMethod yJxa1e45_init_da8c8) ∈ TB := TB_of 80 (by decide +kernel) (by decide +kernel)
theorem tb_81 : (Cond.code yJxa1e45_init_da8c8 cJxa1e45_init_da8c8 1 none) ∈ TB := TB_of 81 (by decide +kernel) (by decide +kernel)
theorem tb_82 : (Cond.methodLink RJxa1e45 1 ⟨"java/lang/Object", "<init>", "()V"⟩) ∈ TB := TB_of 82 (by decide +kernel) (by decide +kernel)
theorem tb_83 : (Cond.fieldLink RJx4a65c 39 "java/util/ArrayList" "DEFAULTCAPACITY_EMPTY_ELEMENTDATA" "[Ljava/lang/Object;") ∈ TB := TB_of 83 (by decide +kernel) (by decide +kernel)
theorem tb_85 : (Cond.fieldLink RJx4a65c 9 "java/util/ArrayList" "elementData" "[Ljava/lang/Object;") ∈ TB := TB_of 85 (by decide +kernel) (by decide +kernel)
theorem tb_86 : (Cond.fieldLink RJx4a65c 48 "java/util/ArrayList" "size" "I") ∈ TB := TB_of 86 (by decide +kernel) (by decide +kernel)
theorem tb_87 : (Cond.fieldLink RJxc12de 7 "java/util/AbstractList" "modCount" "I") ∈ TB := TB_of 87 (by decide +kernel) (by decide +kernel)
theorem tb_88 : (Cond.fieldLink RJx4a65c 63 "java/util/ArrayList" "modCount" "I") ∈ TB := TB_of 88 (by decide +kernel) (by decide +kernel)
theorem tb_89 : (Cond.sameField "java/util/ArrayList" "java/util/AbstractList" "modCount" "I") ∈ TB := TB_of 89 (by decide +kernel) (by decide +kernel)
theorem tb_97 : (Cond.fieldLink RX3 10 "VectorBench" "reckoner" "LVectorBench$Reckoner;") ∈ TB := TB_of 97 (by decide +kernel) (by decide +kernel)
theorem tb_98 : (Cond.fieldLink RX3 20 "VectorBench" "circuit" "LVectorBench$Circuit;") ∈ TB := TB_of 98 (by decide +kernel) (by decide +kernel)
theorem tb_99 : (Cond.fieldLink RX3 24 "VectorBench" "made" "Ljava/util/ArrayList;") ∈ TB := TB_of 99 (by decide +kernel) (by decide +kernel)
theorem tb_100 : (Cond.fieldLink RX3 28 "VectorBench" "weighed" "I") ∈ TB := TB_of 100 (by decide +kernel) (by decide +kernel)
theorem tb_110 : (Cond.methodLink RL 109 yX3_weight) ∈ TB := TB_of 110 (by decide +kernel) (by decide +kernel)
theorem tb_111 : (Cond.instanceMethod yX3_weight) ∈ TB := TB_of 111 (by decide +kernel) (by decide +kernel)
theorem tb_112 : (Cond.selects RX3 yX3_weight yX3_weight) ∈ TB := TB_of 112 (by decide +kernel) (by decide +kernel)
theorem tb_113 : (Cond.code yX3_weight cX3_weight 1 (some .int)) ∈ TB := TB_of 113 (by decide +kernel) (by decide +kernel)
theorem tb_114 : (Cond.methodLink RL 113 yX3_vectors) ∈ TB := TB_of 114 (by decide +kernel) (by decide +kernel)
theorem tb_115 : (Cond.instanceMethod yX3_vectors) ∈ TB := TB_of 115 (by decide +kernel) (by decide +kernel)
theorem tb_116 : (Cond.selects RX3 yX3_vectors yX3_vectors) ∈ TB := TB_of 116 (by decide +kernel) (by decide +kernel)
theorem tb_117 : (Cond.code yX3_vectors cX3_vectors 1 (some .int)) ∈ TB := TB_of 117 (by decide +kernel) (by decide +kernel)
theorem tb_118 : (Cond.methodLink RX3 141 yJx4a65c_size_8abf5) ∈ TB := TB_of 118 (by decide +kernel) (by decide +kernel)
theorem tb_119 : (Cond.instanceMethod yJx4a65c_size_8abf5) ∈ TB := TB_of 119 (by decide +kernel) (by decide +kernel)
theorem tb_120 : (Cond.selects RJx4a65c yJx4a65c_size_8abf5 yJx4a65c_size_8abf5) ∈ TB := TB_of 120 (by decide +kernel) (by decide +kernel)
theorem tb_121 : (Cond.code yJx4a65c_size_8abf5 cJx4a65c_size_8abf5 1 (some .int)) ∈ TB := TB_of 121 (by decide +kernel) (by decide +kernel)
theorem tb_122 : (Cond.methodLink RL 60 yL_input) ∈ TB := TB_of 122 (by decide +kernel) (by decide +kernel)
theorem tb_123 : (Cond.static yL_input) ∈ TB := TB_of 123 (by decide +kernel) (by decide +kernel)
theorem tb_124 : (Cond.codeWith yL_input cL_input 4 (some .int) [(0, 9, 12, 13), (0, 9, 15, 15)]) ∈ TB := TB_of 124 (by decide +kernel) (by decide +kernel)
theorem tb_125 : (Cond.classLink RL 13 "java/lang/IllegalArgumentException") ∈ TB := TB_of 125 (by decide +kernel) (by decide +kernel)
theorem tb_126 : (Cond.classLink RL 15 "java/lang/IllegalStateException") ∈ TB := TB_of 126 (by decide +kernel) (by decide +kernel)
theorem tb_127 : (Cond.methodLink RL 7 yX3_input) ∈ TB := TB_of 127 (by decide +kernel) (by decide +kernel)
theorem tb_128 : (Cond.instanceMethod yX3_input) ∈ TB := TB_of 128 (by decide +kernel) (by decide +kernel)
theorem tb_129 : (Cond.selects RX3 yX3_input yX3_input) ∈ TB := TB_of 129 (by decide +kernel) (by decide +kernel)
theorem tb_130 : (Cond.code yX3_input cX3_input 4 (some .int)) ∈ TB := TB_of 130 (by decide +kernel) (by decide +kernel)
theorem tb_131 : (Cond.methodLink RX3 32 yX3_needWidth) ∈ TB := TB_of 131 (by decide +kernel) (by decide +kernel)
theorem tb_132 : (Cond.static yX3_needWidth) ∈ TB := TB_of 132 (by decide +kernel) (by decide +kernel)
theorem tb_133 : (Cond.code yX3_needWidth cX3_needWidth 1 none) ∈ TB := TB_of 133 (by decide +kernel) (by decide +kernel)
theorem tb_134 : (Cond.classLink RX3 90 "java/lang/IllegalArgumentException") ∈ TB := TB_of 134 (by decide +kernel) (by decide +kernel)
theorem tb_135 : (Cond.instantiable "java/lang/IllegalArgumentException" 6) ∈ TB := TB_of 135 (by decide +kernel) (by decide +kernel)
theorem tb_155 : (Cond.fieldLink "java/lang/Throwable" 198 "java/lang/Throwable" "backtrace" "Ljava/lang/Object;") ∈ TB := TB_of 155 (by decide +kernel) (by decide +kernel)
theorem tb_157 : (Cond.instanceMethod ⟨"java/lang/Throwable", "<init>", "()V"⟩) ∈ TB := TB_of 157 (by decide +kernel) (by decide +kernel)
theorem tb_158 : (Cond.code ⟨"java/lang/Throwable", "<init>", "()V"⟩ prog_22_method_1_code 1 none) ∈ TB := TB_of 158 (by decide +kernel) (by decide +kernel)
theorem tb_159 : (Cond.methodLink "java/lang/Throwable" 1 ⟨"java/lang/Object", "<init>", "()V"⟩) ∈ TB := TB_of 159 (by decide +kernel) (by decide +kernel)
theorem tb_162 : (Cond.fieldLink "java/lang/Throwable" 20 "java/lang/Throwable" "SUPPRESSED_SENTINEL" "Ljava/util/List;") ∈ TB := TB_of 162 (by decide +kernel) (by decide +kernel)
theorem tb_172 : (Cond.instantiable "java/lang/Throwable" 6) ∈ TB := TB_of 172 (by decide +kernel) (by decide +kernel)
theorem tb_175 : (Cond.methodLink RX3 94 ⟨"java/lang/IllegalArgumentException", "<init>", "(Ljava/lang/String;)V"⟩) ∈ TB := TB_of 175 (by decide +kernel) (by decide +kernel)
theorem tb_176 : (Cond.instanceMethod ⟨"java/lang/IllegalArgumentException", "<init>", "(Ljava/lang/String;)V"⟩) ∈ TB := TB_of 176 (by decide +kernel) (by decide +kernel)
theorem tb_177 : (Cond.code ⟨"java/lang/IllegalArgumentException", "<init>", "(Ljava/lang/String;)V"⟩ prog_11_method_2_code 2 none) ∈ TB := TB_of 177 (by decide +kernel) (by decide +kernel)
theorem tb_178 : (Cond.methodLink "java/lang/IllegalArgumentException" 7 ⟨"java/lang/RuntimeException", "<init>", "(Ljava/lang/String;)V"⟩) ∈ TB := TB_of 178 (by decide +kernel) (by decide +kernel)
theorem tb_179 : (Cond.instanceMethod ⟨"java/lang/RuntimeException", "<init>", "(Ljava/lang/String;)V"⟩) ∈ TB := TB_of 179 (by decide +kernel) (by decide +kernel)
theorem tb_180 : (Cond.code ⟨"java/lang/RuntimeException", "<init>", "(Ljava/lang/String;)V"⟩ prog_16_method_2_code 2 none) ∈ TB := TB_of 180 (by decide +kernel) (by decide +kernel)
theorem tb_181 : (Cond.methodLink "java/lang/RuntimeException" 7 ⟨"java/lang/Exception", "<init>", "(Ljava/lang/String;)V"⟩) ∈ TB := TB_of 181 (by decide +kernel) (by decide +kernel)
theorem tb_182 : (Cond.instanceMethod ⟨"java/lang/Exception", "<init>", "(Ljava/lang/String;)V"⟩) ∈ TB := TB_of 182 (by decide +kernel) (by decide +kernel)
theorem tb_183 : (Cond.code ⟨"java/lang/Exception", "<init>", "(Ljava/lang/String;)V"⟩ prog_10_method_2_code 2 none) ∈ TB := TB_of 183 (by decide +kernel) (by decide +kernel)
theorem tb_184 : (Cond.methodLink "java/lang/Exception" 7 ⟨"java/lang/Throwable", "<init>", "(Ljava/lang/String;)V"⟩) ∈ TB := TB_of 184 (by decide +kernel) (by decide +kernel)
theorem tb_185 : (Cond.instanceMethod ⟨"java/lang/Throwable", "<init>", "(Ljava/lang/String;)V"⟩) ∈ TB := TB_of 185 (by decide +kernel) (by decide +kernel)
theorem tb_186 : (Cond.code ⟨"java/lang/Throwable", "<init>", "(Ljava/lang/String;)V"⟩ prog_22_method_2_code 2 none) ∈ TB := TB_of 186 (by decide +kernel) (by decide +kernel)
theorem tb_187 : (Cond.fieldLink "java/lang/Throwable" 198 "java/lang/Throwable" "backtrace" "Ljava/lang/Object;") ∈ TB := TB_of 187 (by decide +kernel) (by decide +kernel)
theorem tb_188 : (Cond.fieldLink "java/lang/Throwable" 31 "java/lang/Throwable" "detailMessage" "Ljava/lang/String;") ∈ TB := TB_of 188 (by decide +kernel) (by decide +kernel)
theorem tb_189 : (Cond.fieldLink "java/lang/Throwable" 7 "java/lang/Throwable" "cause" "Ljava/lang/Throwable;") ∈ TB := TB_of 189 (by decide +kernel) (by decide +kernel)
theorem tb_191 : (Cond.fieldLink "java/lang/Throwable" 24 "java/lang/Throwable" "suppressedExceptions" "Ljava/util/List;") ∈ TB := TB_of 191 (by decide +kernel) (by decide +kernel)
theorem tb_200 : (Cond.arrayClass .byte) ∈ TB := TB_of 200 (by decide +kernel) (by decide +kernel)
theorem tb_201 : (Cond.methodLink RX3 36 yX3_needRoom) ∈ TB := TB_of 201 (by decide +kernel) (by decide +kernel)
theorem tb_203 : (Cond.instanceMethod yX3_needRoom) ∈ TB := TB_of 203 (by decide +kernel) (by decide +kernel)
theorem tb_204 : (Cond.code yX3_needRoom cX3_needRoom 2 none) ∈ TB := TB_of 204 (by decide +kernel) (by decide +kernel)
theorem tb_205 : (Cond.constant "VectorBench" 150 (100000)) ∈ TB := TB_of 205 (by decide +kernel) (by decide +kernel)
theorem tb_206 : (Cond.classLink RX3 151 "java/lang/IllegalStateException") ∈ TB := TB_of 206 (by decide +kernel) (by decide +kernel)
theorem tb_207 : (Cond.instantiable "java/lang/IllegalStateException" 6) ∈ TB := TB_of 207 (by decide +kernel) (by decide +kernel)
theorem tb_216 : (Cond.methodLink RX3 155 ⟨"java/lang/IllegalStateException", "<init>", "(Ljava/lang/String;)V"⟩) ∈ TB := TB_of 216 (by decide +kernel) (by decide +kernel)
theorem tb_217 : (Cond.instanceMethod ⟨"java/lang/IllegalStateException", "<init>", "(Ljava/lang/String;)V"⟩) ∈ TB := TB_of 217 (by decide +kernel) (by decide +kernel)
theorem tb_218 : (Cond.code ⟨"java/lang/IllegalStateException", "<init>", "(Ljava/lang/String;)V"⟩ prog_12_method_2_code 2 none) ∈ TB := TB_of 218 (by decide +kernel) (by decide +kernel)
theorem tb_219 : (Cond.methodLink "java/lang/IllegalStateException" 7 ⟨"java/lang/RuntimeException", "<init>", "(Ljava/lang/String;)V"⟩) ∈ TB := TB_of 219 (by decide +kernel) (by decide +kernel)
theorem tb_222 : (Cond.methodLink RX3 39 yX0_source) ∈ TB := TB_of 222 (by decide +kernel) (by decide +kernel)
theorem tb_223 : (Cond.instanceMethod yX0_source) ∈ TB := TB_of 223 (by decide +kernel) (by decide +kernel)
theorem tb_224 : (Cond.selects RX0 yX0_source yX0_source) ∈ TB := TB_of 224 (by decide +kernel) (by decide +kernel)
theorem tb_225 : (Cond.code yX0_source cX0_source 1 (some .int)) ∈ TB := TB_of 225 (by decide +kernel) (by decide +kernel)
theorem tb_226 : (Cond.methodLink RX0 29 yX0_gate) ∈ TB := TB_of 226 (by decide +kernel) (by decide +kernel)
theorem tb_227 : (Cond.instanceMethod yX0_gate) ∈ TB := TB_of 227 (by decide +kernel) (by decide +kernel)
theorem tb_228 : (Cond.selects RX0 yX0_gate yX0_gate) ∈ TB := TB_of 228 (by decide +kernel) (by decide +kernel)
theorem tb_229 : (Cond.code yX0_gate cX0_gate 5 (some .int)) ∈ TB := TB_of 229 (by decide +kernel) (by decide +kernel)
theorem tb_230 : (Cond.methodLink RX0 33 yJ7_copyOf_59c91) ∈ TB := TB_of 230 (by decide +kernel) (by decide +kernel)
theorem tb_231 : (Cond.static yJ7_copyOf_59c91) ∈ TB := TB_of 231 (by decide +kernel) (by decide +kernel)
theorem tb_232 : (Cond.code yJ7_copyOf_59c91 cJ7_copyOf_59c91 3 (some (.array .int))) ∈ TB := TB_of 232 (by decide +kernel) (by decide +kernel)
theorem tb_233 : (Cond.methodLink RJ7 316 ⟨"[I", "clone", "()Ljava/lang/Object;"⟩) ∈ TB := TB_of 233 (by decide +kernel) (by decide +kernel)
theorem tb_234 : (Cond.sameMethod "[I" "java/lang/Object" "clone" "()Ljava/lang/Object;") ∈ TB := TB_of 234 (by decide +kernel) (by decide +kernel)
theorem tb_235 : (Cond.native ⟨"java/lang/Object", "clone", "()Ljava/lang/Object;"⟩) ∈ TB := TB_of 235 (by decide +kernel) (by decide +kernel)
theorem tb_236 : (Cond.instanceMethod ⟨"java/lang/Object", "clone", "()Ljava/lang/Object;"⟩) ∈ TB := TB_of 236 (by decide +kernel) (by decide +kernel)
theorem tb_237 : (Cond.selects "[I" ⟨"[I", "clone", "()Ljava/lang/Object;"⟩ ⟨"java/lang/Object", "clone", "()Ljava/lang/Object;"⟩) ∈ TB := TB_of 237 (by decide +kernel) (by decide +kernel)
theorem tb_239 : (Cond.classLink RJ7 317 "[I") ∈ TB := TB_of 239 (by decide +kernel) (by decide +kernel)
theorem tb_240 : (Cond.methodLink RJ7 304 yJ9_min_7cf53) ∈ TB := TB_of 240 (by decide +kernel) (by decide +kernel)
theorem tb_241 : (Cond.static yJ9_min_7cf53) ∈ TB := TB_of 241 (by decide +kernel) (by decide +kernel)
theorem tb_242 : (Cond.code yJ9_min_7cf53 cJ9_min_7cf53 2 (some .int)) ∈ TB := TB_of 242 (by decide +kernel) (by decide +kernel)
theorem tb_243 : (Cond.methodLink RJ7 150 ⟨"java/lang/System", "arraycopy", "(Ljava/lang/Object;ILjava/lang/Object;II)V"⟩) ∈ TB := TB_of 243 (by decide +kernel) (by decide +kernel)
theorem tb_244 : (Cond.static ⟨"java/lang/System", "arraycopy", "(Ljava/lang/Object;ILjava/lang/Object;II)V"⟩) ∈ TB := TB_of 244 (by decide +kernel) (by decide +kernel)
theorem tb_245 : (Cond.native ⟨"java/lang/System", "arraycopy", "(Ljava/lang/Object;ILjava/lang/Object;II)V"⟩) ∈ TB := TB_of 245 (by decide +kernel) (by decide +kernel)
theorem tb_246 : (Cond.classLink RX3 45 RX2) ∈ TB := TB_of 246 (by decide +kernel) (by decide +kernel)
theorem tb_247 : (Cond.instantiable RX2 2) ∈ TB := TB_of 247 (by decide +kernel) (by decide +kernel)
theorem tb_248 : (Cond.methodLink RX3 47 yX2_init) ∈ TB := TB_of 248 (by decide +kernel) (by decide +kernel)
theorem tb_249 : (Cond.instanceMethod yX2_init) ∈ TB := TB_of 249 (by decide +kernel) (by decide +kernel)
theorem tb_250 : (Cond.code yX2_init cX2_init 3 none) ∈ TB := TB_of 250 (by decide +kernel) (by decide +kernel)
theorem tb_251 : (Cond.methodLink RX2 1 ⟨"java/lang/Object", "<init>", "()V"⟩) ∈ TB := TB_of 251 (by decide +kernel) (by decide +kernel)
theorem tb_252 : (Cond.fieldLink RX2 7 "VectorBench$Vector" "bits" "[I") ∈ TB := TB_of 252 (by decide +kernel) (by decide +kernel)
theorem tb_253 : (Cond.fieldLink RX3 158 "VectorBench$Vector" "bits" "[I") ∈ TB := TB_of 253 (by decide +kernel) (by decide +kernel)
theorem tb_254 : (Cond.fieldLink RX2 13 "VectorBench$Vector" "settable" "Z") ∈ TB := TB_of 254 (by decide +kernel) (by decide +kernel)
theorem tb_255 : (Cond.fieldLink RX3 128 "VectorBench$Vector" "settable" "Z") ∈ TB := TB_of 255 (by decide +kernel) (by decide +kernel)
theorem tb_261 : (Cond.methodLink RX3 50 yX3_keep) ∈ TB := TB_of 261 (by decide +kernel) (by decide +kernel)
theorem tb_263 : (Cond.instanceMethod yX3_keep) ∈ TB := TB_of 263 (by decide +kernel) (by decide +kernel)
theorem tb_264 : (Cond.code yX3_keep cX3_keep 3 (some .int)) ∈ TB := TB_of 264 (by decide +kernel) (by decide +kernel)
theorem tb_265 : (Cond.methodLink RX3 162 yJx4a65c_add_9ea2d) ∈ TB := TB_of 265 (by decide +kernel) (by decide +kernel)
theorem tb_266 : (Cond.instanceMethod yJx4a65c_add_9ea2d) ∈ TB := TB_of 266 (by decide +kernel) (by decide +kernel)
theorem tb_267 : (Cond.selects RJx4a65c yJx4a65c_add_9ea2d yJx4a65c_add_9ea2d) ∈ TB := TB_of 267 (by decide +kernel) (by decide +kernel)
theorem tb_268 : (Cond.code yJx4a65c_add_9ea2d cJx4a65c_add_9ea2d 2 (some .boolean)) ∈ TB := TB_of 268 (by decide +kernel) (by decide +kernel)
theorem tb_269 : (Cond.methodLink RJx4a65c 131 yJx4a65c_add_72be8) ∈ TB := TB_of 269 (by decide +kernel) (by decide +kernel)
theorem tb_271 : (Cond.instanceMethod yJx4a65c_add_72be8) ∈ TB := TB_of 271 (by decide +kernel) (by decide +kernel)
theorem tb_272 : (Cond.code yJx4a65c_add_72be8 cJx4a65c_add_72be8 4 none) ∈ TB := TB_of 272 (by decide +kernel) (by decide +kernel)
theorem tb_273 : (Cond.methodLink RJx4a65c 129 yJx4a65c_grow_d5877) ∈ TB := TB_of 273 (by decide +kernel) (by decide +kernel)
theorem tb_275 : (Cond.instanceMethod yJx4a65c_grow_d5877) ∈ TB := TB_of 275 (by decide +kernel) (by decide +kernel)
theorem tb_276 : (Cond.code yJx4a65c_grow_d5877 cJx4a65c_grow_d5877 1 (some (.array (.object "java/lang/Object")))) ∈ TB := TB_of 276 (by decide +kernel) (by decide +kernel)
theorem tb_277 : (Cond.methodLink RJx4a65c 69 yJx4a65c_grow_92f84) ∈ TB := TB_of 277 (by decide +kernel) (by decide +kernel)
theorem tb_279 : (Cond.instanceMethod yJx4a65c_grow_92f84) ∈ TB := TB_of 279 (by decide +kernel) (by decide +kernel)
theorem tb_280 : (Cond.code yJx4a65c_grow_92f84 cJx4a65c_grow_92f84 4 (some (.array (.object "java/lang/Object")))) ∈ TB := TB_of 280 (by decide +kernel) (by decide +kernel)
theorem tb_281 : (Cond.methodLink RJx4a65c 73 yJ8_newLength_cabcc) ∈ TB := TB_of 281 (by decide +kernel) (by decide +kernel)
theorem tb_282 : (Cond.static yJ8_newLength_cabcc) ∈ TB := TB_of 282 (by decide +kernel) (by decide +kernel)
theorem tb_283 : (Cond.code yJ8_newLength_cabcc cJ8_newLength_cabcc 4 (some .int)) ∈ TB := TB_of 283 (by decide +kernel) (by decide +kernel)
theorem tb_284 : (Cond.methodLink RJ8 194 yJ9_max_7cf53) ∈ TB := TB_of 284 (by decide +kernel) (by decide +kernel)
theorem tb_285 : (Cond.static yJ9_max_7cf53) ∈ TB := TB_of 285 (by decide +kernel) (by decide +kernel)
theorem tb_286 : (Cond.code yJ9_max_7cf53 cJ9_max_7cf53 2 (some .int)) ∈ TB := TB_of 286 (by decide +kernel) (by decide +kernel)
theorem tb_287 : (Cond.constant "jdk/internal/util/ArraysSupport" 200 (2147483639)) ∈ TB := TB_of 287 (by decide +kernel) (by decide +kernel)
theorem tb_291 : (Cond.methodLink RJx4a65c 66 yJ7_copyOf_1904c) ∈ TB := TB_of 291 (by decide +kernel) (by decide +kernel)
theorem tb_292 : (Cond.static yJ7_copyOf_1904c) ∈ TB := TB_of 292 (by decide +kernel) (by decide +kernel)
theorem tb_293 : (Cond.code yJ7_copyOf_1904c cJ7_copyOf_1904c 2 (some (.array (.object "java/lang/Object")))) ∈ TB := TB_of 293 (by decide +kernel) (by decide +kernel)
theorem tb_294 : (Cond.methodLink RJ7 86 ⟨"java/lang/Object", "getClass", "()Ljava/lang/Class;"⟩) ∈ TB := TB_of 294 (by decide +kernel) (by decide +kernel)
theorem tb_295 : (Cond.instanceMethod ⟨"java/lang/Object", "getClass", "()Ljava/lang/Class;"⟩) ∈ TB := TB_of 295 (by decide +kernel) (by decide +kernel)
theorem tb_296 : (Cond.sameMethod "java/lang/Object" "java/lang/Object" "getClass" "()Ljava/lang/Class;") ∈ TB := TB_of 296 (by decide +kernel) (by decide +kernel)
theorem tb_297 : (Cond.selects RX3 ⟨"java/lang/Object", "getClass", "()Ljava/lang/Class;"⟩ ⟨"java/lang/Object", "getClass", "()Ljava/lang/Class;"⟩) ∈ TB := TB_of 297 (by decide +kernel) (by decide +kernel)
theorem tb_298 : (Cond.selects RX0 ⟨"java/lang/Object", "getClass", "()Ljava/lang/Class;"⟩ ⟨"java/lang/Object", "getClass", "()Ljava/lang/Class;"⟩) ∈ TB := TB_of 298 (by decide +kernel) (by decide +kernel)
theorem tb_299 : (Cond.selects RX1 ⟨"java/lang/Object", "getClass", "()Ljava/lang/Class;"⟩ ⟨"java/lang/Object", "getClass", "()Ljava/lang/Class;"⟩) ∈ TB := TB_of 299 (by decide +kernel) (by decide +kernel)
theorem tb_300 : (Cond.selects RX2 ⟨"java/lang/Object", "getClass", "()Ljava/lang/Class;"⟩ ⟨"java/lang/Object", "getClass", "()Ljava/lang/Class;"⟩) ∈ TB := TB_of 300 (by decide +kernel) (by decide +kernel)
theorem tb_301 : (Cond.selects RX4 ⟨"java/lang/Object", "getClass", "()Ljava/lang/Class;"⟩ ⟨"java/lang/Object", "getClass", "()Ljava/lang/Class;"⟩) ∈ TB := TB_of 301 (by decide +kernel) (by decide +kernel)
theorem tb_302 : (Cond.selects "java/lang/IllegalArgumentException" ⟨"java/lang/Object", "getClass", "()Ljava/lang/Class;"⟩ ⟨"java/lang/Object", "getClass", "()Ljava/lang/Class;"⟩) ∈ TB := TB_of 302 (by decide +kernel) (by decide +kernel)
theorem tb_303 : (Cond.selects "java/lang/IllegalStateException" ⟨"java/lang/Object", "getClass", "()Ljava/lang/Class;"⟩ ⟨"java/lang/Object", "getClass", "()Ljava/lang/Class;"⟩) ∈ TB := TB_of 303 (by decide +kernel) (by decide +kernel)
theorem tb_306 : (Cond.selects RJx4a65c ⟨"java/lang/Object", "getClass", "()Ljava/lang/Class;"⟩ ⟨"java/lang/Object", "getClass", "()Ljava/lang/Class;"⟩) ∈ TB := TB_of 306 (by decide +kernel) (by decide +kernel)
theorem tb_307 : (Cond.native ⟨"java/lang/Object", "getClass", "()Ljava/lang/Class;"⟩) ∈ TB := TB_of 307 (by decide +kernel) (by decide +kernel)
theorem tb_308 : (Cond.methodLink RJ7 300 yJ7_copyOf_6403c) ∈ TB := TB_of 308 (by decide +kernel) (by decide +kernel)
theorem tb_309 : (Cond.static yJ7_copyOf_6403c) ∈ TB := TB_of 309 (by decide +kernel) (by decide +kernel)
theorem tb_310 : (Cond.code yJ7_copyOf_6403c cJ7_copyOf_6403c 4 (some (.array (.object "java/lang/Object")))) ∈ TB := TB_of 310 (by decide +kernel) (by decide +kernel)
theorem tb_311 : (Cond.classLink RJ7 110 "[Ljava/lang/Object;") ∈ TB := TB_of 311 (by decide +kernel) (by decide +kernel)
theorem tb_313 : (Cond.classLink RJ7 2 "java/lang/Object") ∈ TB := TB_of 313 (by decide +kernel) (by decide +kernel)
theorem tb_314 : (Cond.methodLink RJx4a65c 79 yJ9_max_7cf53) ∈ TB := TB_of 314 (by decide +kernel) (by decide +kernel)
theorem tb_315 : (Cond.classLink RJx4a65c 7 "java/lang/Object") ∈ TB := TB_of 315 (by decide +kernel) (by decide +kernel)
theorem tb_316 : (Cond.methodLink RL 72 yL_constant) ∈ TB := TB_of 316 (by decide +kernel) (by decide +kernel)
theorem tb_317 : (Cond.static yL_constant) ∈ TB := TB_of 317 (by decide +kernel) (by decide +kernel)
theorem tb_318 : (Cond.codeWith yL_constant cL_constant 6 (some .int) [(0, 11, 14, 13), (0, 11, 18, 15)]) ∈ TB := TB_of 318 (by decide +kernel) (by decide +kernel)
theorem tb_319 : (Cond.methodLink RL 17 yX3_constant) ∈ TB := TB_of 319 (by decide +kernel) (by decide +kernel)
theorem tb_320 : (Cond.instanceMethod yX3_constant) ∈ TB := TB_of 320 (by decide +kernel) (by decide +kernel)
theorem tb_321 : (Cond.selects RX3 yX3_constant yX3_constant) ∈ TB := TB_of 321 (by decide +kernel) (by decide +kernel)
theorem tb_322 : (Cond.code yX3_constant cX3_constant 6 (some .int)) ∈ TB := TB_of 322 (by decide +kernel) (by decide +kernel)
theorem tb_323 : (Cond.methodLink RX3 54 yX3_bitOf) ∈ TB := TB_of 323 (by decide +kernel) (by decide +kernel)
theorem tb_324 : (Cond.static yX3_bitOf) ∈ TB := TB_of 324 (by decide +kernel) (by decide +kernel)
theorem tb_325 : (Cond.code yX3_bitOf cX3_bitOf 3 (some .int)) ∈ TB := TB_of 325 (by decide +kernel) (by decide +kernel)
theorem tb_326 : (Cond.methodLink RL 76 yL_one) ∈ TB := TB_of 326 (by decide +kernel) (by decide +kernel)
theorem tb_327 : (Cond.static yL_one) ∈ TB := TB_of 327 (by decide +kernel) (by decide +kernel)
theorem tb_328 : (Cond.codeWith yL_one cL_one 5 (some .int) [(0, 10, 13, 13), (0, 10, 17, 15)]) ∈ TB := TB_of 328 (by decide +kernel) (by decide +kernel)
theorem tb_329 : (Cond.methodLink RL 21 yX3_one) ∈ TB := TB_of 329 (by decide +kernel) (by decide +kernel)
theorem tb_330 : (Cond.instanceMethod yX3_one) ∈ TB := TB_of 330 (by decide +kernel) (by decide +kernel)
theorem tb_331 : (Cond.selects RX3 yX3_one yX3_one) ∈ TB := TB_of 331 (by decide +kernel) (by decide +kernel)
theorem tb_332 : (Cond.code yX3_one cX3_one 6 (some .int)) ∈ TB := TB_of 332 (by decide +kernel) (by decide +kernel)
theorem tb_333 : (Cond.methodLink RX3 58 yX3_needKind) ∈ TB := TB_of 333 (by decide +kernel) (by decide +kernel)
theorem tb_334 : (Cond.static yX3_needKind) ∈ TB := TB_of 334 (by decide +kernel) (by decide +kernel)
theorem tb_335 : (Cond.code yX3_needKind cX3_needKind 2 none) ∈ TB := TB_of 335 (by decide +kernel) (by decide +kernel)
theorem tb_337 : (Cond.methodLink RX3 62 yX3_bitsOf) ∈ TB := TB_of 337 (by decide +kernel) (by decide +kernel)
theorem tb_339 : (Cond.instanceMethod yX3_bitsOf) ∈ TB := TB_of 339 (by decide +kernel) (by decide +kernel)
theorem tb_340 : (Cond.code yX3_bitsOf cX3_bitsOf 2 (some (.array .int))) ∈ TB := TB_of 340 (by decide +kernel) (by decide +kernel)
theorem tb_342 : (Cond.methodLink RX3 124 yJx4a65c_get_915e3) ∈ TB := TB_of 342 (by decide +kernel) (by decide +kernel)
theorem tb_343 : (Cond.instanceMethod yJx4a65c_get_915e3) ∈ TB := TB_of 343 (by decide +kernel) (by decide +kernel)
theorem tb_344 : (Cond.selects RJx4a65c yJx4a65c_get_915e3 yJx4a65c_get_915e3) ∈ TB := TB_of 344 (by decide +kernel) (by decide +kernel)
theorem tb_345 : (Cond.code yJx4a65c_get_915e3 cJx4a65c_get_915e3 2 (some (.object "java/lang/Object"))) ∈ TB := TB_of 345 (by decide +kernel) (by decide +kernel)
theorem tb_346 : (Cond.methodLink RJx4a65c 118 yJ15_checkIndex_7cf53) ∈ TB := TB_of 346 (by decide +kernel) (by decide +kernel)
theorem tb_347 : (Cond.static yJ15_checkIndex_7cf53) ∈ TB := TB_of 347 (by decide +kernel) (by decide +kernel)
theorem tb_348 : (Cond.code yJ15_checkIndex_7cf53 cJ15_checkIndex_7cf53 2 (some .int)) ∈ TB := TB_of 348 (by decide +kernel) (by decide +kernel)
theorem tb_349 : (Cond.methodLink RJ15 105 yJ3_checkIndex_8e157) ∈ TB := TB_of 349 (by decide +kernel) (by decide +kernel)
theorem tb_350 : (Cond.static yJ3_checkIndex_8e157) ∈ TB := TB_of 350 (by decide +kernel) (by decide +kernel)
theorem tb_351 : (Cond.code yJ3_checkIndex_8e157 cJ3_checkIndex_8e157 3 (some .int)) ∈ TB := TB_of 351 (by decide +kernel) (by decide +kernel)
theorem tb_352 : (Cond.methodLink RJx4a65c 123 yJx4a65c_elementData_915e3) ∈ TB := TB_of 352 (by decide +kernel) (by decide +kernel)
theorem tb_353 : (Cond.instanceMethod yJx4a65c_elementData_915e3) ∈ TB := TB_of 353 (by decide +kernel) (by decide +kernel)
theorem tb_354 : (Cond.selects RJx4a65c yJx4a65c_elementData_915e3 yJx4a65c_elementData_915e3) ∈ TB := TB_of 354 (by decide +kernel) (by decide +kernel)
theorem tb_355 : (Cond.code yJx4a65c_elementData_915e3 cJx4a65c_elementData_915e3 2 (some (.object "java/lang/Object"))) ∈ TB := TB_of 355 (by decide +kernel) (by decide +kernel)
theorem tb_356 : (Cond.methodLink RX3 66 yX1_inverted) ∈ TB := TB_of 356 (by decide +kernel) (by decide +kernel)
theorem tb_357 : (Cond.instanceMethod yX1_inverted) ∈ TB := TB_of 357 (by decide +kernel) (by decide +kernel)
theorem tb_358 : (Cond.selects RX1 yX1_inverted yX1_inverted) ∈ TB := TB_of 358 (by decide +kernel) (by decide +kernel)
theorem tb_359 : (Cond.code yX1_inverted cX1_inverted 4 (some (.array .int))) ∈ TB := TB_of 359 (by decide +kernel) (by decide +kernel)
theorem tb_360 : (Cond.methodLink RX1 16 yX0_not) ∈ TB := TB_of 360 (by decide +kernel) (by decide +kernel)
theorem tb_361 : (Cond.instanceMethod yX0_not) ∈ TB := TB_of 361 (by decide +kernel) (by decide +kernel)
theorem tb_362 : (Cond.selects RX0 yX0_not yX0_not) ∈ TB := TB_of 362 (by decide +kernel) (by decide +kernel)
theorem tb_363 : (Cond.code yX0_not cX0_not 2 (some .int)) ∈ TB := TB_of 363 (by decide +kernel) (by decide +kernel)
theorem tb_364 : (Cond.methodLink RX3 70 yX1_negatedIf) ∈ TB := TB_of 364 (by decide +kernel) (by decide +kernel)
theorem tb_365 : (Cond.instanceMethod yX1_negatedIf) ∈ TB := TB_of 365 (by decide +kernel) (by decide +kernel)
theorem tb_366 : (Cond.selects RX1 yX1_negatedIf yX1_negatedIf) ∈ TB := TB_of 366 (by decide +kernel) (by decide +kernel)
theorem tb_367 : (Cond.code yX1_negatedIf cX1_negatedIf 5 (some (.array .int))) ∈ TB := TB_of 367 (by decide +kernel) (by decide +kernel)
theorem tb_368 : (Cond.methodLink RX1 20 yX0_xor) ∈ TB := TB_of 368 (by decide +kernel) (by decide +kernel)
theorem tb_369 : (Cond.instanceMethod yX0_xor) ∈ TB := TB_of 369 (by decide +kernel) (by decide +kernel)
theorem tb_370 : (Cond.selects RX0 yX0_xor yX0_xor) ∈ TB := TB_of 370 (by decide +kernel) (by decide +kernel)
theorem tb_371 : (Cond.code yX0_xor cX0_xor 3 (some .int)) ∈ TB := TB_of 371 (by decide +kernel) (by decide +kernel)
theorem tb_372 : (Cond.methodLink RX1 24 yX1_sum) ∈ TB := TB_of 372 (by decide +kernel) (by decide +kernel)
theorem tb_373 : (Cond.instanceMethod yX1_sum) ∈ TB := TB_of 373 (by decide +kernel) (by decide +kernel)
theorem tb_374 : (Cond.selects RX1 yX1_sum yX1_sum) ∈ TB := TB_of 374 (by decide +kernel) (by decide +kernel)
theorem tb_375 : (Cond.code yX1_sum cX1_sum 8 (some (.array .int))) ∈ TB := TB_of 375 (by decide +kernel) (by decide +kernel)
theorem tb_376 : (Cond.methodLink RX1 36 yX0_and) ∈ TB := TB_of 376 (by decide +kernel) (by decide +kernel)
theorem tb_377 : (Cond.instanceMethod yX0_and) ∈ TB := TB_of 377 (by decide +kernel) (by decide +kernel)
theorem tb_378 : (Cond.selects RX0 yX0_and yX0_and) ∈ TB := TB_of 378 (by decide +kernel) (by decide +kernel)
theorem tb_379 : (Cond.code yX0_and cX0_and 3 (some .int)) ∈ TB := TB_of 379 (by decide +kernel) (by decide +kernel)
theorem tb_380 : (Cond.methodLink RX1 39 yX0_or) ∈ TB := TB_of 380 (by decide +kernel) (by decide +kernel)
theorem tb_381 : (Cond.instanceMethod yX0_or) ∈ TB := TB_of 381 (by decide +kernel) (by decide +kernel)
theorem tb_382 : (Cond.selects RX0 yX0_or yX0_or) ∈ TB := TB_of 382 (by decide +kernel) (by decide +kernel)
theorem tb_383 : (Cond.code yX0_or cX0_or 3 (some .int)) ∈ TB := TB_of 383 (by decide +kernel) (by decide +kernel)
theorem tb_384 : (Cond.methodLink RX1 28 yX1_withoutCarry) ∈ TB := TB_of 384 (by decide +kernel) (by decide +kernel)
theorem tb_385 : (Cond.static yX1_withoutCarry) ∈ TB := TB_of 385 (by decide +kernel) (by decide +kernel)
theorem tb_386 : (Cond.code yX1_withoutCarry cX1_withoutCarry 1 (some (.array .int))) ∈ TB := TB_of 386 (by decide +kernel) (by decide +kernel)
theorem tb_387 : (Cond.methodLink RX1 42 yJ9_max_7cf53) ∈ TB := TB_of 387 (by decide +kernel) (by decide +kernel)
theorem tb_388 : (Cond.methodLink RX1 47 yJ7_copyOf_59c91) ∈ TB := TB_of 388 (by decide +kernel) (by decide +kernel)
theorem tb_389 : (Cond.methodLink RL 80 yL_two) ∈ TB := TB_of 389 (by decide +kernel) (by decide +kernel)
theorem tb_390 : (Cond.static yL_two) ∈ TB := TB_of 390 (by decide +kernel) (by decide +kernel)
theorem tb_391 : (Cond.codeWith yL_two cL_two 6 (some .int) [(0, 12, 15, 13), (0, 12, 19, 15)]) ∈ TB := TB_of 391 (by decide +kernel) (by decide +kernel)
theorem tb_392 : (Cond.methodLink RL 25 yX3_two) ∈ TB := TB_of 392 (by decide +kernel) (by decide +kernel)
theorem tb_393 : (Cond.instanceMethod yX3_two) ∈ TB := TB_of 393 (by decide +kernel) (by decide +kernel)
theorem tb_394 : (Cond.selects RX3 yX3_two yX3_two) ∈ TB := TB_of 394 (by decide +kernel) (by decide +kernel)
theorem tb_395 : (Cond.code yX3_two cX3_two 7 (some .int)) ∈ TB := TB_of 395 (by decide +kernel) (by decide +kernel)
theorem tb_396 : (Cond.methodLink RX3 74 yX3_needSameWidth) ∈ TB := TB_of 396 (by decide +kernel) (by decide +kernel)
theorem tb_397 : (Cond.static yX3_needSameWidth) ∈ TB := TB_of 397 (by decide +kernel) (by decide +kernel)
theorem tb_398 : (Cond.code yX3_needSameWidth cX3_needSameWidth 2 none) ∈ TB := TB_of 398 (by decide +kernel) (by decide +kernel)
theorem tb_400 : (Cond.methodLink RX3 78 yX3_weightOfTwo) ∈ TB := TB_of 400 (by decide +kernel) (by decide +kernel)
theorem tb_401 : (Cond.static yX3_weightOfTwo) ∈ TB := TB_of 401 (by decide +kernel) (by decide +kernel)
theorem tb_402 : (Cond.code yX3_weightOfTwo cX3_weightOfTwo 2 (some .int)) ∈ TB := TB_of 402 (by decide +kernel) (by decide +kernel)
theorem tb_403 : (Cond.methodLink RX3 82 yX3_reckonTwo) ∈ TB := TB_of 403 (by decide +kernel) (by decide +kernel)
theorem tb_405 : (Cond.instanceMethod yX3_reckonTwo) ∈ TB := TB_of 405 (by decide +kernel) (by decide +kernel)
theorem tb_406 : (Cond.code yX3_reckonTwo cX3_reckonTwo 4 (some (.array .int))) ∈ TB := TB_of 406 (by decide +kernel) (by decide +kernel)
theorem tb_407 : (Cond.methodLink RX3 166 yX1_joined) ∈ TB := TB_of 407 (by decide +kernel) (by decide +kernel)
theorem tb_408 : (Cond.instanceMethod yX1_joined) ∈ TB := TB_of 408 (by decide +kernel) (by decide +kernel)
theorem tb_409 : (Cond.selects RX1 yX1_joined yX1_joined) ∈ TB := TB_of 409 (by decide +kernel) (by decide +kernel)
theorem tb_410 : (Cond.code yX1_joined cX1_joined 6 (some (.array .int))) ∈ TB := TB_of 410 (by decide +kernel) (by decide +kernel)
theorem tb_411 : (Cond.methodLink RX1 32 yX0_gate) ∈ TB := TB_of 411 (by decide +kernel) (by decide +kernel)
theorem tb_412 : (Cond.methodLink RX3 169 yX1_sum) ∈ TB := TB_of 412 (by decide +kernel) (by decide +kernel)
theorem tb_413 : (Cond.methodLink RX3 173 yX1_withoutCarry) ∈ TB := TB_of 413 (by decide +kernel) (by decide +kernel)
theorem tb_414 : (Cond.methodLink RX3 176 yX1_product) ∈ TB := TB_of 414 (by decide +kernel) (by decide +kernel)
theorem tb_415 : (Cond.instanceMethod yX1_product) ∈ TB := TB_of 415 (by decide +kernel) (by decide +kernel)
theorem tb_416 : (Cond.selects RX1 yX1_product yX1_product) ∈ TB := TB_of 416 (by decide +kernel) (by decide +kernel)
theorem tb_417 : (Cond.code yX1_product cX1_product 8 (some (.array .int))) ∈ TB := TB_of 417 (by decide +kernel) (by decide +kernel)
theorem tb_418 : (Cond.methodLink RX1 53 yJ7_copyOfRange_feecc) ∈ TB := TB_of 418 (by decide +kernel) (by decide +kernel)
theorem tb_419 : (Cond.static yJ7_copyOfRange_feecc) ∈ TB := TB_of 419 (by decide +kernel) (by decide +kernel)
theorem tb_420 : (Cond.code yJ7_copyOfRange_feecc cJ7_copyOfRange_feecc 3 (some (.array .int))) ∈ TB := TB_of 420 (by decide +kernel) (by decide +kernel)
theorem tb_421 : (Cond.methodLink RJ7 351 yJ7_copyOfRangeInt_feecc) ∈ TB := TB_of 421 (by decide +kernel) (by decide +kernel)
theorem tb_422 : (Cond.static yJ7_copyOfRangeInt_feecc) ∈ TB := TB_of 422 (by decide +kernel) (by decide +kernel)
theorem tb_423 : (Cond.code yJ7_copyOfRangeInt_feecc cJ7_copyOfRangeInt_feecc 5 (some (.array .int))) ∈ TB := TB_of 423 (by decide +kernel) (by decide +kernel)
theorem tb_424 : (Cond.methodLink RJ7 343 yJ7_checkLength_df160) ∈ TB := TB_of 424 (by decide +kernel) (by decide +kernel)
theorem tb_425 : (Cond.static yJ7_checkLength_df160) ∈ TB := TB_of 425 (by decide +kernel) (by decide +kernel)
theorem tb_426 : (Cond.code yJ7_checkLength_df160 cJ7_checkLength_df160 2 none) ∈ TB := TB_of 426 (by decide +kernel) (by decide +kernel)
theorem tb_427 : (Cond.classLink RJ7 43 "java/lang/IllegalArgumentException") ∈ TB := TB_of 427 (by decide +kernel) (by decide +kernel)
theorem tb_645 : (Cond.methodLink RJ7 65 ⟨"java/lang/IllegalArgumentException", "<init>", "(Ljava/lang/String;)V"⟩) ∈ TB := TB_of 645 (by decide +kernel) (by decide +kernel)
theorem tb_646 : (Cond.methodLink RX1 57 ⟨"java/lang/System", "arraycopy", "(Ljava/lang/Object;ILjava/lang/Object;II)V"⟩) ∈ TB := TB_of 646 (by decide +kernel) (by decide +kernel)
theorem tb_647 : (Cond.methodLink RX3 180 yX1_divided) ∈ TB := TB_of 647 (by decide +kernel) (by decide +kernel)
theorem tb_648 : (Cond.instanceMethod yX1_divided) ∈ TB := TB_of 648 (by decide +kernel) (by decide +kernel)
theorem tb_649 : (Cond.selects RX1 yX1_divided yX1_divided) ∈ TB := TB_of 649 (by decide +kernel) (by decide +kernel)
theorem tb_650 : (Cond.code yX1_divided cX1_divided 11 (some (.array .int))) ∈ TB := TB_of 650 (by decide +kernel) (by decide +kernel)
theorem tb_651 : (Cond.methodLink RX1 63 yX1_inverted) ∈ TB := TB_of 651 (by decide +kernel) (by decide +kernel)
theorem tb_652 : (Cond.methodLink RX1 66 yX1_moved) ∈ TB := TB_of 652 (by decide +kernel) (by decide +kernel)
theorem tb_653 : (Cond.static yX1_moved) ∈ TB := TB_of 653 (by decide +kernel) (by decide +kernel)
theorem tb_654 : (Cond.code yX1_moved cX1_moved 7 (some (.array .int))) ∈ TB := TB_of 654 (by decide +kernel) (by decide +kernel)
theorem tb_655 : (Cond.methodLink RX1 70 yX1_picked) ∈ TB := TB_of 655 (by decide +kernel) (by decide +kernel)
theorem tb_656 : (Cond.instanceMethod yX1_picked) ∈ TB := TB_of 656 (by decide +kernel) (by decide +kernel)
theorem tb_657 : (Cond.selects RX1 yX1_picked yX1_picked) ∈ TB := TB_of 657 (by decide +kernel) (by decide +kernel)
theorem tb_658 : (Cond.code yX1_picked cX1_picked 7 (some (.array .int))) ∈ TB := TB_of 658 (by decide +kernel) (by decide +kernel)
theorem tb_659 : (Cond.methodLink RX3 184 yX1_dividedWithSign) ∈ TB := TB_of 659 (by decide +kernel) (by decide +kernel)
theorem tb_660 : (Cond.instanceMethod yX1_dividedWithSign) ∈ TB := TB_of 660 (by decide +kernel) (by decide +kernel)
theorem tb_661 : (Cond.selects RX1 yX1_dividedWithSign yX1_dividedWithSign) ∈ TB := TB_of 661 (by decide +kernel) (by decide +kernel)
theorem tb_662 : (Cond.code yX1_dividedWithSign cX1_dividedWithSign 7 (some (.array .int))) ∈ TB := TB_of 662 (by decide +kernel) (by decide +kernel)
theorem tb_663 : (Cond.methodLink RX1 74 yX1_negatedIf) ∈ TB := TB_of 663 (by decide +kernel) (by decide +kernel)
theorem tb_664 : (Cond.methodLink RX1 78 yX1_divided) ∈ TB := TB_of 664 (by decide +kernel) (by decide +kernel)
theorem tb_665 : (Cond.methodLink RX3 187 yX1_shifted) ∈ TB := TB_of 665 (by decide +kernel) (by decide +kernel)
theorem tb_666 : (Cond.instanceMethod yX1_shifted) ∈ TB := TB_of 666 (by decide +kernel) (by decide +kernel)
theorem tb_667 : (Cond.selects RX1 yX1_shifted yX1_shifted) ∈ TB := TB_of 667 (by decide +kernel) (by decide +kernel)
theorem tb_668 : (Cond.code yX1_shifted cX1_shifted 10 (some (.array .int))) ∈ TB := TB_of 668 (by decide +kernel) (by decide +kernel)
theorem tb_669 : (Cond.methodLink RL 84 yL_compare) ∈ TB := TB_of 669 (by decide +kernel) (by decide +kernel)
theorem tb_670 : (Cond.static yL_compare) ∈ TB := TB_of 670 (by decide +kernel) (by decide +kernel)
theorem tb_671 : (Cond.codeWith yL_compare cL_compare 6 (some .int) [(0, 12, 15, 13), (0, 12, 19, 15)]) ∈ TB := TB_of 671 (by decide +kernel) (by decide +kernel)
theorem tb_672 : (Cond.methodLink RL 29 yX3_compare) ∈ TB := TB_of 672 (by decide +kernel) (by decide +kernel)
theorem tb_673 : (Cond.instanceMethod yX3_compare) ∈ TB := TB_of 673 (by decide +kernel) (by decide +kernel)
theorem tb_674 : (Cond.selects RX3 yX3_compare yX3_compare) ∈ TB := TB_of 674 (by decide +kernel) (by decide +kernel)
theorem tb_675 : (Cond.code yX3_compare cX3_compare 8 (some .int)) ∈ TB := TB_of 675 (by decide +kernel) (by decide +kernel)
theorem tb_676 : (Cond.methodLink RX3 86 yX3_reckonComparison) ∈ TB := TB_of 676 (by decide +kernel) (by decide +kernel)
theorem tb_678 : (Cond.instanceMethod yX3_reckonComparison) ∈ TB := TB_of 678 (by decide +kernel) (by decide +kernel)
theorem tb_679 : (Cond.code yX3_reckonComparison cX3_reckonComparison 4 (some .int)) ∈ TB := TB_of 679 (by decide +kernel) (by decide +kernel)
theorem tb_680 : (Cond.methodLink RX3 191 yX1_same) ∈ TB := TB_of 680 (by decide +kernel) (by decide +kernel)
theorem tb_681 : (Cond.instanceMethod yX1_same) ∈ TB := TB_of 681 (by decide +kernel) (by decide +kernel)
theorem tb_682 : (Cond.selects RX1 yX1_same yX1_same) ∈ TB := TB_of 682 (by decide +kernel) (by decide +kernel)
theorem tb_683 : (Cond.code yX1_same cX1_same 5 (some .int)) ∈ TB := TB_of 683 (by decide +kernel) (by decide +kernel)
theorem tb_684 : (Cond.methodLink RX3 195 yX1_atLeast) ∈ TB := TB_of 684 (by decide +kernel) (by decide +kernel)
theorem tb_685 : (Cond.instanceMethod yX1_atLeast) ∈ TB := TB_of 685 (by decide +kernel) (by decide +kernel)
theorem tb_686 : (Cond.selects RX1 yX1_atLeast yX1_atLeast) ∈ TB := TB_of 686 (by decide +kernel) (by decide +kernel)
theorem tb_687 : (Cond.code yX1_atLeast cX1_atLeast 3 (some .int)) ∈ TB := TB_of 687 (by decide +kernel) (by decide +kernel)
theorem tb_688 : (Cond.methodLink RX3 198 yX0_not) ∈ TB := TB_of 688 (by decide +kernel) (by decide +kernel)
theorem tb_689 : (Cond.methodLink RX3 201 yX1_signTurned) ∈ TB := TB_of 689 (by decide +kernel) (by decide +kernel)
theorem tb_690 : (Cond.instanceMethod yX1_signTurned) ∈ TB := TB_of 690 (by decide +kernel) (by decide +kernel)
theorem tb_691 : (Cond.selects RX1 yX1_signTurned yX1_signTurned) ∈ TB := TB_of 691 (by decide +kernel) (by decide +kernel)
theorem tb_692 : (Cond.code yX1_signTurned cX1_signTurned 3 (some (.array .int))) ∈ TB := TB_of 692 (by decide +kernel) (by decide +kernel)
theorem tb_693 : (Cond.methodLink RL 87 yL_choose) ∈ TB := TB_of 693 (by decide +kernel) (by decide +kernel)
theorem tb_694 : (Cond.static yL_choose) ∈ TB := TB_of 694 (by decide +kernel) (by decide +kernel)
theorem tb_695 : (Cond.codeWith yL_choose cL_choose 6 (some .int) [(0, 12, 15, 13), (0, 12, 19, 15)]) ∈ TB := TB_of 695 (by decide +kernel) (by decide +kernel)
theorem tb_696 : (Cond.methodLink RL 32 yX3_choose) ∈ TB := TB_of 696 (by decide +kernel) (by decide +kernel)
theorem tb_697 : (Cond.instanceMethod yX3_choose) ∈ TB := TB_of 697 (by decide +kernel) (by decide +kernel)
theorem tb_698 : (Cond.selects RX3 yX3_choose yX3_choose) ∈ TB := TB_of 698 (by decide +kernel) (by decide +kernel)
theorem tb_699 : (Cond.code yX3_choose cX3_choose 8 (some .int)) ∈ TB := TB_of 699 (by decide +kernel) (by decide +kernel)
theorem tb_701 : (Cond.methodLink RX3 97 yX1_picked) ∈ TB := TB_of 701 (by decide +kernel) (by decide +kernel)
theorem tb_702 : (Cond.methodLink RL 90 yL_concat) ∈ TB := TB_of 702 (by decide +kernel) (by decide +kernel)
theorem tb_703 : (Cond.static yL_concat) ∈ TB := TB_of 703 (by decide +kernel) (by decide +kernel)
theorem tb_704 : (Cond.codeWith yL_concat cL_concat 5 (some .int) [(0, 10, 13, 13), (0, 10, 17, 15)]) ∈ TB := TB_of 704 (by decide +kernel) (by decide +kernel)
theorem tb_705 : (Cond.methodLink RL 35 yX3_concat) ∈ TB := TB_of 705 (by decide +kernel) (by decide +kernel)
theorem tb_706 : (Cond.instanceMethod yX3_concat) ∈ TB := TB_of 706 (by decide +kernel) (by decide +kernel)
theorem tb_707 : (Cond.selects RX3 yX3_concat yX3_concat) ∈ TB := TB_of 707 (by decide +kernel) (by decide +kernel)
theorem tb_708 : (Cond.code yX3_concat cX3_concat 7 (some .int)) ∈ TB := TB_of 708 (by decide +kernel) (by decide +kernel)
theorem tb_709 : (Cond.methodLink RX3 100 yJ7_copyOf_59c91) ∈ TB := TB_of 709 (by decide +kernel) (by decide +kernel)
theorem tb_710 : (Cond.methodLink RX3 106 ⟨"java/lang/System", "arraycopy", "(Ljava/lang/Object;ILjava/lang/Object;II)V"⟩) ∈ TB := TB_of 710 (by decide +kernel) (by decide +kernel)
theorem tb_711 : (Cond.methodLink RL 93 yL_extract) ∈ TB := TB_of 711 (by decide +kernel) (by decide +kernel)
theorem tb_712 : (Cond.static yL_extract) ∈ TB := TB_of 712 (by decide +kernel) (by decide +kernel)
theorem tb_713 : (Cond.codeWith yL_extract cL_extract 6 (some .int) [(0, 12, 15, 13), (0, 12, 19, 15)]) ∈ TB := TB_of 713 (by decide +kernel) (by decide +kernel)
theorem tb_714 : (Cond.methodLink RL 38 yX3_extract) ∈ TB := TB_of 714 (by decide +kernel) (by decide +kernel)
theorem tb_715 : (Cond.instanceMethod yX3_extract) ∈ TB := TB_of 715 (by decide +kernel) (by decide +kernel)
theorem tb_716 : (Cond.selects RX3 yX3_extract yX3_extract) ∈ TB := TB_of 716 (by decide +kernel) (by decide +kernel)
theorem tb_717 : (Cond.code yX3_extract cX3_extract 6 (some .int)) ∈ TB := TB_of 717 (by decide +kernel) (by decide +kernel)
theorem tb_719 : (Cond.methodLink RX3 114 yJ7_copyOfRange_feecc) ∈ TB := TB_of 719 (by decide +kernel) (by decide +kernel)
theorem tb_720 : (Cond.methodLink RL 96 yL_extend) ∈ TB := TB_of 720 (by decide +kernel) (by decide +kernel)
theorem tb_721 : (Cond.static yL_extend) ∈ TB := TB_of 721 (by decide +kernel) (by decide +kernel)
theorem tb_722 : (Cond.codeWith yL_extend cL_extend 6 (some .int) [(0, 12, 15, 13), (0, 12, 19, 15)]) ∈ TB := TB_of 722 (by decide +kernel) (by decide +kernel)
theorem tb_723 : (Cond.methodLink RL 41 yX3_extend) ∈ TB := TB_of 723 (by decide +kernel) (by decide +kernel)
theorem tb_724 : (Cond.instanceMethod yX3_extend) ∈ TB := TB_of 724 (by decide +kernel) (by decide +kernel)
theorem tb_725 : (Cond.selects RX3 yX3_extend yX3_extend) ∈ TB := TB_of 725 (by decide +kernel) (by decide +kernel)
theorem tb_726 : (Cond.code yX3_extend cX3_extend 7 (some .int)) ∈ TB := TB_of 726 (by decide +kernel) (by decide +kernel)
theorem tb_728 : (Cond.methodLink RX3 120 yJ7_fill_fda19) ∈ TB := TB_of 728 (by decide +kernel) (by decide +kernel)
theorem tb_729 : (Cond.static yJ7_fill_fda19) ∈ TB := TB_of 729 (by decide +kernel) (by decide +kernel)
theorem tb_730 : (Cond.code yJ7_fill_fda19 cJ7_fill_fda19 5 none) ∈ TB := TB_of 730 (by decide +kernel) (by decide +kernel)
theorem tb_731 : (Cond.methodLink RJ7 13 yJ7_rangeCheck_23922) ∈ TB := TB_of 731 (by decide +kernel) (by decide +kernel)
theorem tb_732 : (Cond.static yJ7_rangeCheck_23922) ∈ TB := TB_of 732 (by decide +kernel) (by decide +kernel)
theorem tb_733 : (Cond.code yJ7_rangeCheck_23922 cJ7_rangeCheck_23922 3 none) ∈ TB := TB_of 733 (by decide +kernel) (by decide +kernel)
theorem tb_737 : (Cond.methodLink RL 100 yL_set) ∈ TB := TB_of 737 (by decide +kernel) (by decide +kernel)
theorem tb_738 : (Cond.static yL_set) ∈ TB := TB_of 738 (by decide +kernel) (by decide +kernel)
theorem tb_739 : (Cond.codeWith yL_set cL_set 6 (some .int) [(0, 10, 13, 13)]) ∈ TB := TB_of 739 (by decide +kernel) (by decide +kernel)
theorem tb_740 : (Cond.methodLink RL 45 yX3_set) ∈ TB := TB_of 740 (by decide +kernel) (by decide +kernel)
theorem tb_741 : (Cond.instanceMethod yX3_set) ∈ TB := TB_of 741 (by decide +kernel) (by decide +kernel)
theorem tb_742 : (Cond.selects RX3 yX3_set yX3_set) ∈ TB := TB_of 742 (by decide +kernel) (by decide +kernel)
theorem tb_743 : (Cond.code yX3_set cX3_set 8 (some .long)) ∈ TB := TB_of 743 (by decide +kernel) (by decide +kernel)
theorem tb_745 : (Cond.methodLink RX3 134 yX0_put) ∈ TB := TB_of 745 (by decide +kernel) (by decide +kernel)
theorem tb_746 : (Cond.instanceMethod yX0_put) ∈ TB := TB_of 746 (by decide +kernel) (by decide +kernel)
theorem tb_747 : (Cond.selects RX0 yX0_put yX0_put) ∈ TB := TB_of 747 (by decide +kernel) (by decide +kernel)
theorem tb_748 : (Cond.code yX0_put cX0_put 4 (some .int)) ∈ TB := TB_of 748 (by decide +kernel) (by decide +kernel)
theorem tb_749 : (Cond.methodLink RX0 39 yJ9_min_7cf53) ∈ TB := TB_of 749 (by decide +kernel) (by decide +kernel)
theorem tb_750 : (Cond.methodLink RL 103 yL_value) ∈ TB := TB_of 750 (by decide +kernel) (by decide +kernel)
theorem tb_751 : (Cond.static yL_value) ∈ TB := TB_of 751 (by decide +kernel) (by decide +kernel)
theorem tb_752 : (Cond.codeWith yL_value cL_value 4 (some .int) [(0, 8, 11, 13)]) ∈ TB := TB_of 752 (by decide +kernel) (by decide +kernel)
theorem tb_753 : (Cond.methodLink RL 49 yX3_value) ∈ TB := TB_of 753 (by decide +kernel) (by decide +kernel)
theorem tb_754 : (Cond.instanceMethod yX3_value) ∈ TB := TB_of 754 (by decide +kernel) (by decide +kernel)
theorem tb_755 : (Cond.selects RX3 yX3_value yX3_value) ∈ TB := TB_of 755 (by decide +kernel) (by decide +kernel)
theorem tb_756 : (Cond.code yX3_value cX3_value 6 (some .long)) ∈ TB := TB_of 756 (by decide +kernel) (by decide +kernel)
theorem tb_757 : (Cond.methodLink RX3 137 yX0_read) ∈ TB := TB_of 757 (by decide +kernel) (by decide +kernel)
theorem tb_758 : (Cond.instanceMethod yX0_read) ∈ TB := TB_of 758 (by decide +kernel) (by decide +kernel)
theorem tb_759 : (Cond.selects RX0 yX0_read yX0_read) ∈ TB := TB_of 759 (by decide +kernel) (by decide +kernel)
theorem tb_760 : (Cond.code yX0_read cX0_read 3 (some .int)) ∈ TB := TB_of 760 (by decide +kernel) (by decide +kernel)
theorem tb_761 : (Cond.methodLink RX0 45 yX0_settle) ∈ TB := TB_of 761 (by decide +kernel) (by decide +kernel)
theorem tb_763 : (Cond.instanceMethod yX0_settle) ∈ TB := TB_of 763 (by decide +kernel) (by decide +kernel)
theorem tb_764 : (Cond.code yX0_settle cX0_settle 4 none) ∈ TB := TB_of 764 (by decide +kernel) (by decide +kernel)
theorem tb_765 : (Cond.methodLink RX0 49 yJ9_max_7cf53) ∈ TB := TB_of 765 (by decide +kernel) (by decide +kernel)
theorem tb_766 : (Cond.methodLink RL 106 yL_width) ∈ TB := TB_of 766 (by decide +kernel) (by decide +kernel)
theorem tb_767 : (Cond.static yL_width) ∈ TB := TB_of 767 (by decide +kernel) (by decide +kernel)
theorem tb_768 : (Cond.codeWith yL_width cL_width 4 (some .int) [(0, 9, 12, 13)]) ∈ TB := TB_of 768 (by decide +kernel) (by decide +kernel)
theorem tb_769 : (Cond.methodLink RL 53 yX3_width) ∈ TB := TB_of 769 (by decide +kernel) (by decide +kernel)
theorem tb_770 : (Cond.instanceMethod yX3_width) ∈ TB := TB_of 770 (by decide +kernel) (by decide +kernel)
theorem tb_771 : (Cond.selects RX3 yX3_width yX3_width) ∈ TB := TB_of 771 (by decide +kernel) (by decide +kernel)
theorem tb_772 : (Cond.code yX3_width cX3_width 2 (some .int)) ∈ TB := TB_of 772 (by decide +kernel) (by decide +kernel)
theorem tb_773 : (Cond.classLink RL 57 RX4) ∈ TB := TB_of 773 (by decide +kernel) (by decide +kernel)
theorem tb_774 : (Cond.instantiable RX4 9) ∈ TB := TB_of 774 (by decide +kernel) (by decide +kernel)
theorem tb_775 : (Cond.methodLink RL 59 yX4_init) ∈ TB := TB_of 775 (by decide +kernel) (by decide +kernel)
theorem tb_776 : (Cond.instanceMethod yX4_init) ∈ TB := TB_of 776 (by decide +kernel) (by decide +kernel)
theorem tb_777 : (Cond.code yX4_init cX4_init 1 none) ∈ TB := TB_of 777 (by decide +kernel) (by decide +kernel)
theorem tb_778 : (Cond.methodLink RX4 1 ⟨"java/lang/Object", "<init>", "()V"⟩) ∈ TB := TB_of 778 (by decide +kernel) (by decide +kernel)
theorem tb_779 : (Cond.fieldLink RX4 30 "VectorBenchModel" "code" "I") ∈ TB := TB_of 779 (by decide +kernel) (by decide +kernel)
theorem tb_780 : (Cond.fieldLink RX4 34 "VectorBenchModel" "count" "I") ∈ TB := TB_of 780 (by decide +kernel) (by decide +kernel)
theorem tb_781 : (Cond.fieldLink RX4 43 "VectorBenchModel" "weight" "I") ∈ TB := TB_of 781 (by decide +kernel) (by decide +kernel)
theorem tb_783 : (Cond.fieldLink RX4 13 "VectorBenchModel" "first" "[I") ∈ TB := TB_of 783 (by decide +kernel) (by decide +kernel)
theorem tb_784 : (Cond.fieldLink RX4 17 "VectorBenchModel" "second" "[I") ∈ TB := TB_of 784 (by decide +kernel) (by decide +kernel)
theorem tb_785 : (Cond.fieldLink RX4 20 "VectorBenchModel" "third" "[I") ∈ TB := TB_of 785 (by decide +kernel) (by decide +kernel)
theorem tb_786 : (Cond.fieldLink RX4 23 "VectorBenchModel" "width" "[I") ∈ TB := TB_of 786 (by decide +kernel) (by decide +kernel)
theorem tb_787 : (Cond.fieldLink RX4 26 "VectorBenchModel" "value" "[J") ∈ TB := TB_of 787 (by decide +kernel) (by decide +kernel)
theorem tb_807 : (Cond.arrayClass .long) ∈ TB := TB_of 807 (by decide +kernel) (by decide +kernel)
theorem tb_808 : (Cond.methodLink RL 66 yX4_thrown) ∈ TB := TB_of 808 (by decide +kernel) (by decide +kernel)
theorem tb_809 : (Cond.instanceMethod yX4_thrown) ∈ TB := TB_of 809 (by decide +kernel) (by decide +kernel)
theorem tb_810 : (Cond.selects RX4 yX4_thrown yX4_thrown) ∈ TB := TB_of 810 (by decide +kernel) (by decide +kernel)
theorem tb_811 : (Cond.code yX4_thrown cX4_thrown 1 (some .int)) ∈ TB := TB_of 811 (by decide +kernel) (by decide +kernel)
theorem tb_812 : (Cond.methodLink RL 65 yX4_input) ∈ TB := TB_of 812 (by decide +kernel) (by decide +kernel)
theorem tb_813 : (Cond.instanceMethod yX4_input) ∈ TB := TB_of 813 (by decide +kernel) (by decide +kernel)
theorem tb_814 : (Cond.selects RX4 yX4_input yX4_input) ∈ TB := TB_of 814 (by decide +kernel) (by decide +kernel)
theorem tb_815 : (Cond.code yX4_input cX4_input 2 (some .int)) ∈ TB := TB_of 815 (by decide +kernel) (by decide +kernel)
theorem tb_816 : (Cond.methodLink RX4 47 yX4_add) ∈ TB := TB_of 816 (by decide +kernel) (by decide +kernel)
theorem tb_818 : (Cond.instanceMethod yX4_add) ∈ TB := TB_of 818 (by decide +kernel) (by decide +kernel)
theorem tb_819 : (Cond.code yX4_add cX4_add 8 (some .int)) ∈ TB := TB_of 819 (by decide +kernel) (by decide +kernel)
theorem tb_820 : (Cond.constant "VectorBenchModel" 46 (100000)) ∈ TB := TB_of 820 (by decide +kernel) (by decide +kernel)
theorem tb_821 : (Cond.methodLink RL 75 yX4_constant) ∈ TB := TB_of 821 (by decide +kernel) (by decide +kernel)
theorem tb_822 : (Cond.instanceMethod yX4_constant) ∈ TB := TB_of 822 (by decide +kernel) (by decide +kernel)
theorem tb_823 : (Cond.selects RX4 yX4_constant yX4_constant) ∈ TB := TB_of 823 (by decide +kernel) (by decide +kernel)
theorem tb_824 : (Cond.code yX4_constant cX4_constant 5 (some .int)) ∈ TB := TB_of 824 (by decide +kernel) (by decide +kernel)
theorem tb_825 : (Cond.methodLink RX4 51 yX4_mask) ∈ TB := TB_of 825 (by decide +kernel) (by decide +kernel)
theorem tb_826 : (Cond.static yX4_mask) ∈ TB := TB_of 826 (by decide +kernel) (by decide +kernel)
theorem tb_827 : (Cond.code yX4_mask cX4_mask 1 (some .long)) ∈ TB := TB_of 827 (by decide +kernel) (by decide +kernel)
theorem tb_828 : (Cond.constantLong "VectorBenchModel" 41 (-1)) ∈ TB := TB_of 828 (by decide +kernel) (by decide +kernel)
theorem tb_829 : (Cond.methodLink RL 79 yX4_one) ∈ TB := TB_of 829 (by decide +kernel) (by decide +kernel)
theorem tb_830 : (Cond.instanceMethod yX4_one) ∈ TB := TB_of 830 (by decide +kernel) (by decide +kernel)
theorem tb_831 : (Cond.selects RX4 yX4_one yX4_one) ∈ TB := TB_of 831 (by decide +kernel) (by decide +kernel)
theorem tb_832 : (Cond.code yX4_one cX4_one 5 (some .int)) ∈ TB := TB_of 832 (by decide +kernel) (by decide +kernel)
theorem tb_833 : (Cond.methodLink RX4 37 yX4_is) ∈ TB := TB_of 833 (by decide +kernel) (by decide +kernel)
theorem tb_835 : (Cond.instanceMethod yX4_is) ∈ TB := TB_of 835 (by decide +kernel) (by decide +kernel)
theorem tb_836 : (Cond.code yX4_is cX4_is 2 (some .boolean)) ∈ TB := TB_of 836 (by decide +kernel) (by decide +kernel)
theorem tb_837 : (Cond.methodLink RL 83 yX4_two) ∈ TB := TB_of 837 (by decide +kernel) (by decide +kernel)
theorem tb_838 : (Cond.instanceMethod yX4_two) ∈ TB := TB_of 838 (by decide +kernel) (by decide +kernel)
theorem tb_839 : (Cond.selects RX4 yX4_two yX4_two) ∈ TB := TB_of 839 (by decide +kernel) (by decide +kernel)
theorem tb_840 : (Cond.code yX4_two cX4_two 6 (some .int)) ∈ TB := TB_of 840 (by decide +kernel) (by decide +kernel)
theorem tb_841 : (Cond.methodLink RX4 55 yX4_areAlike) ∈ TB := TB_of 841 (by decide +kernel) (by decide +kernel)
theorem tb_843 : (Cond.instanceMethod yX4_areAlike) ∈ TB := TB_of 843 (by decide +kernel) (by decide +kernel)
theorem tb_844 : (Cond.code yX4_areAlike cX4_areAlike 3 (some .boolean)) ∈ TB := TB_of 844 (by decide +kernel) (by decide +kernel)
theorem tb_845 : (Cond.methodLink RX4 59 yX4_heavy) ∈ TB := TB_of 845 (by decide +kernel) (by decide +kernel)
theorem tb_846 : (Cond.static yX4_heavy) ∈ TB := TB_of 846 (by decide +kernel) (by decide +kernel)
theorem tb_847 : (Cond.code yX4_heavy cX4_heavy 2 (some .int)) ∈ TB := TB_of 847 (by decide +kernel) (by decide +kernel)
theorem tb_848 : (Cond.methodLink RL 86 yX4_compare) ∈ TB := TB_of 848 (by decide +kernel) (by decide +kernel)
theorem tb_849 : (Cond.instanceMethod yX4_compare) ∈ TB := TB_of 849 (by decide +kernel) (by decide +kernel)
theorem tb_850 : (Cond.selects RX4 yX4_compare yX4_compare) ∈ TB := TB_of 850 (by decide +kernel) (by decide +kernel)
theorem tb_851 : (Cond.code yX4_compare cX4_compare 6 (some .int)) ∈ TB := TB_of 851 (by decide +kernel) (by decide +kernel)
theorem tb_852 : (Cond.methodLink RL 89 yX4_choose) ∈ TB := TB_of 852 (by decide +kernel) (by decide +kernel)
theorem tb_853 : (Cond.instanceMethod yX4_choose) ∈ TB := TB_of 853 (by decide +kernel) (by decide +kernel)
theorem tb_854 : (Cond.selects RX4 yX4_choose yX4_choose) ∈ TB := TB_of 854 (by decide +kernel) (by decide +kernel)
theorem tb_855 : (Cond.code yX4_choose cX4_choose 6 (some .int)) ∈ TB := TB_of 855 (by decide +kernel) (by decide +kernel)
theorem tb_856 : (Cond.methodLink RL 92 yX4_concat) ∈ TB := TB_of 856 (by decide +kernel) (by decide +kernel)
theorem tb_857 : (Cond.instanceMethod yX4_concat) ∈ TB := TB_of 857 (by decide +kernel) (by decide +kernel)
theorem tb_858 : (Cond.selects RX4 yX4_concat yX4_concat) ∈ TB := TB_of 858 (by decide +kernel) (by decide +kernel)
theorem tb_859 : (Cond.code yX4_concat cX4_concat 5 (some .int)) ∈ TB := TB_of 859 (by decide +kernel) (by decide +kernel)
theorem tb_860 : (Cond.methodLink RL 95 yX4_extract) ∈ TB := TB_of 860 (by decide +kernel) (by decide +kernel)
theorem tb_861 : (Cond.instanceMethod yX4_extract) ∈ TB := TB_of 861 (by decide +kernel) (by decide +kernel)
theorem tb_862 : (Cond.selects RX4 yX4_extract yX4_extract) ∈ TB := TB_of 862 (by decide +kernel) (by decide +kernel)
theorem tb_863 : (Cond.code yX4_extract cX4_extract 6 (some .int)) ∈ TB := TB_of 863 (by decide +kernel) (by decide +kernel)
theorem tb_864 : (Cond.methodLink RL 99 yX4_extend) ∈ TB := TB_of 864 (by decide +kernel) (by decide +kernel)
theorem tb_865 : (Cond.instanceMethod yX4_extend) ∈ TB := TB_of 865 (by decide +kernel) (by decide +kernel)
theorem tb_866 : (Cond.selects RX4 yX4_extend yX4_extend) ∈ TB := TB_of 866 (by decide +kernel) (by decide +kernel)
theorem tb_867 : (Cond.code yX4_extend cX4_extend 6 (some .int)) ∈ TB := TB_of 867 (by decide +kernel) (by decide +kernel)
theorem tb_868 : (Cond.methodLink RL 102 yX4_set) ∈ TB := TB_of 868 (by decide +kernel) (by decide +kernel)
theorem tb_869 : (Cond.instanceMethod yX4_set) ∈ TB := TB_of 869 (by decide +kernel) (by decide +kernel)
theorem tb_870 : (Cond.selects RX4 yX4_set yX4_set) ∈ TB := TB_of 870 (by decide +kernel) (by decide +kernel)
theorem tb_871 : (Cond.code yX4_set cX4_set 6 (some .long)) ∈ TB := TB_of 871 (by decide +kernel) (by decide +kernel)
theorem tb_872 : (Cond.methodLink RL 105 yX4_value) ∈ TB := TB_of 872 (by decide +kernel) (by decide +kernel)
theorem tb_873 : (Cond.instanceMethod yX4_value) ∈ TB := TB_of 873 (by decide +kernel) (by decide +kernel)
theorem tb_874 : (Cond.selects RX4 yX4_value yX4_value) ∈ TB := TB_of 874 (by decide +kernel) (by decide +kernel)
theorem tb_875 : (Cond.code yX4_value cX4_value 2 (some .long)) ∈ TB := TB_of 875 (by decide +kernel) (by decide +kernel)
theorem tb_876 : (Cond.methodLink RX4 94 yX4_reckonAll) ∈ TB := TB_of 876 (by decide +kernel) (by decide +kernel)
theorem tb_878 : (Cond.instanceMethod yX4_reckonAll) ∈ TB := TB_of 878 (by decide +kernel) (by decide +kernel)
theorem tb_879 : (Cond.code yX4_reckonAll cX4_reckonAll 2 none) ∈ TB := TB_of 879 (by decide +kernel) (by decide +kernel)
theorem tb_880 : (Cond.methodLink RX4 91 yX4_reckon) ∈ TB := TB_of 880 (by decide +kernel) (by decide +kernel)
theorem tb_882 : (Cond.instanceMethod yX4_reckon) ∈ TB := TB_of 882 (by decide +kernel) (by decide +kernel)
theorem tb_883 : (Cond.code yX4_reckon cX4_reckon 6 (some .long)) ∈ TB := TB_of 883 (by decide +kernel) (by decide +kernel)
theorem tb_884 : (Cond.methodLink RX4 84 yX4_both) ∈ TB := TB_of 884 (by decide +kernel) (by decide +kernel)
theorem tb_885 : (Cond.static yX4_both) ∈ TB := TB_of 885 (by decide +kernel) (by decide +kernel)
theorem tb_886 : (Cond.code yX4_both cX4_both 6 (some .long)) ∈ TB := TB_of 886 (by decide +kernel) (by decide +kernel)
theorem tb_887 : (Cond.methodLink RX4 77 yX4_divided) ∈ TB := TB_of 887 (by decide +kernel) (by decide +kernel)
theorem tb_888 : (Cond.static yX4_divided) ∈ TB := TB_of 888 (by decide +kernel) (by decide +kernel)
theorem tb_889 : (Cond.code yX4_divided cX4_divided 13 (some .long)) ∈ TB := TB_of 889 (by decide +kernel) (by decide +kernel)
theorem tb_890 : (Cond.methodLink RX4 69 yX4_divide) ∈ TB := TB_of 890 (by decide +kernel) (by decide +kernel)
theorem tb_891 : (Cond.static yX4_divide) ∈ TB := TB_of 891 (by decide +kernel) (by decide +kernel)
theorem tb_892 : (Cond.code yX4_divide cX4_divide 11 (some .long)) ∈ TB := TB_of 892 (by decide +kernel) (by decide +kernel)
theorem tb_893 : (Cond.methodLink RX4 65 yX4_isBelow) ∈ TB := TB_of 893 (by decide +kernel) (by decide +kernel)
theorem tb_894 : (Cond.static yX4_isBelow) ∈ TB := TB_of 894 (by decide +kernel) (by decide +kernel)
theorem tb_895 : (Cond.code yX4_isBelow cX4_isBelow 4 (some .boolean)) ∈ TB := TB_of 895 (by decide +kernel) (by decide +kernel)
theorem tb_896 : (Cond.constantLong "VectorBenchModel" 63 (9223372036854775807)) ∈ TB := TB_of 896 (by decide +kernel) (by decide +kernel)
theorem tb_897 : (Cond.methodLink RX4 73 yX4_signed) ∈ TB := TB_of 897 (by decide +kernel) (by decide +kernel)
theorem tb_898 : (Cond.static yX4_signed) ∈ TB := TB_of 898 (by decide +kernel) (by decide +kernel)
theorem tb_899 : (Cond.code yX4_signed cX4_signed 3 (some .long)) ∈ TB := TB_of 899 (by decide +kernel) (by decide +kernel)
theorem tb_900 : (Cond.methodLink RX4 81 yX4_shifted) ∈ TB := TB_of 900 (by decide +kernel) (by decide +kernel)
theorem tb_901 : (Cond.static yX4_shifted) ∈ TB := TB_of 901 (by decide +kernel) (by decide +kernel)
theorem tb_902 : (Cond.code yX4_shifted cX4_shifted 10 (some .long)) ∈ TB := TB_of 902 (by decide +kernel) (by decide +kernel)
theorem tb_903 : (Cond.methodLink RX4 87 yX4_holds) ∈ TB := TB_of 903 (by decide +kernel) (by decide +kernel)
theorem tb_904 : (Cond.static yX4_holds) ∈ TB := TB_of 904 (by decide +kernel) (by decide +kernel)
theorem tb_905 : (Cond.code yX4_holds cX4_holds 6 (some .boolean)) ∈ TB := TB_of 905 (by decide +kernel) (by decide +kernel)
theorem tb_906 : (Cond.methodLink RL 108 yX4_width) ∈ TB := TB_of 906 (by decide +kernel) (by decide +kernel)
theorem tb_907 : (Cond.instanceMethod yX4_width) ∈ TB := TB_of 907 (by decide +kernel) (by decide +kernel)
theorem tb_908 : (Cond.selects RX4 yX4_width yX4_width) ∈ TB := TB_of 908 (by decide +kernel) (by decide +kernel)
theorem tb_909 : (Cond.code yX4_width cX4_width 2 (some .int)) ∈ TB := TB_of 909 (by decide +kernel) (by decide +kernel)
theorem tb_910 : (Cond.methodLink RL 112 yX4_weight) ∈ TB := TB_of 910 (by decide +kernel) (by decide +kernel)
theorem tb_911 : (Cond.instanceMethod yX4_weight) ∈ TB := TB_of 911 (by decide +kernel) (by decide +kernel)
theorem tb_912 : (Cond.selects RX4 yX4_weight yX4_weight) ∈ TB := TB_of 912 (by decide +kernel) (by decide +kernel)
theorem tb_913 : (Cond.code yX4_weight cX4_weight 1 (some .int)) ∈ TB := TB_of 913 (by decide +kernel) (by decide +kernel)
theorem tb_914 : (Cond.methodLink RL 116 yX4_vectors) ∈ TB := TB_of 914 (by decide +kernel) (by decide +kernel)
theorem tb_915 : (Cond.instanceMethod yX4_vectors) ∈ TB := TB_of 915 (by decide +kernel) (by decide +kernel)
theorem tb_916 : (Cond.selects RX4 yX4_vectors yX4_vectors) ∈ TB := TB_of 916 (by decide +kernel) (by decide +kernel)
theorem tb_917 : (Cond.code yX4_vectors cX4_vectors 1 (some .int)) ∈ TB := TB_of 917 (by decide +kernel) (by decide +kernel)
theorem tb_918 : (Cond.constantLong "VectorBenchLaw" 70 (4294967295)) ∈ TB := TB_of 918 (by decide +kernel) (by decide +kernel)
theorem tb_929 : (Cond.sameMethod "[Ljava/lang/Object;" "java/lang/Object" "getClass" "()Ljava/lang/Class;") ∈ TB := TB_of 929 (by decide +kernel) (by decide +kernel)
theorem tb_930 : (Cond.selects "[Ljava/lang/Object;" ⟨"java/lang/Object", "getClass", "()Ljava/lang/Class;"⟩ ⟨"java/lang/Object", "getClass", "()Ljava/lang/Class;"⟩) ∈ TB := TB_of 930 (by decide +kernel) (by decide +kernel)
theorem ts_1 : (Cond.selects RX3 yX3_needRoom yX3_needRoom) ∈ TB := TB_sel 1 (by decide +kernel) (by decide +kernel)
theorem ts_2 : (Cond.selects RX3 yX3_keep yX3_keep) ∈ TB := TB_sel 2 (by decide +kernel) (by decide +kernel)
theorem ts_3 : (Cond.selects RJx4a65c yJx4a65c_add_72be8 yJx4a65c_add_72be8) ∈ TB := TB_sel 3 (by decide +kernel) (by decide +kernel)
theorem ts_4 : (Cond.selects RJx4a65c yJx4a65c_grow_d5877 yJx4a65c_grow_d5877) ∈ TB := TB_sel 4 (by decide +kernel) (by decide +kernel)
theorem ts_5 : (Cond.selects RJx4a65c yJx4a65c_grow_92f84 yJx4a65c_grow_92f84) ∈ TB := TB_sel 5 (by decide +kernel) (by decide +kernel)
theorem ts_6 : (Cond.selects RX3 yX3_bitsOf yX3_bitsOf) ∈ TB := TB_sel 6 (by decide +kernel) (by decide +kernel)
theorem ts_7 : (Cond.selects RX3 yX3_reckonTwo yX3_reckonTwo) ∈ TB := TB_sel 7 (by decide +kernel) (by decide +kernel)
theorem ts_8 : (Cond.selects RX3 yX3_reckonComparison yX3_reckonComparison) ∈ TB := TB_sel 8 (by decide +kernel) (by decide +kernel)
theorem ts_9 : (Cond.selects RX0 yX0_settle yX0_settle) ∈ TB := TB_sel 9 (by decide +kernel) (by decide +kernel)
theorem ts_10 : (Cond.selects RX4 yX4_add yX4_add) ∈ TB := TB_sel 10 (by decide +kernel) (by decide +kernel)
theorem ts_11 : (Cond.selects RX4 yX4_is yX4_is) ∈ TB := TB_sel 11 (by decide +kernel) (by decide +kernel)
theorem ts_12 : (Cond.selects RX4 yX4_areAlike yX4_areAlike) ∈ TB := TB_sel 12 (by decide +kernel) (by decide +kernel)
theorem ts_13 : (Cond.selects RX4 yX4_reckonAll yX4_reckonAll) ∈ TB := TB_sel 13 (by decide +kernel) (by decide +kernel)
theorem ts_14 : (Cond.selects RX4 yX4_reckon yX4_reckon) ∈ TB := TB_sel 14 (by decide +kernel) (by decide +kernel)
end
section
/-! numbers by their bits; circuits; what the rows of signals are worth -/
def bn (β : Nat → Bool) : Nat → Nat
  | 0 => 0
  | i + 1 => bn β i + (β i).toNat * 2 ^ i
theorem bn_s (β : Nat → Bool) (i : Nat) : bn β (i + 1) = bn β i + (β i).toNat * 2 ^ i := rfl
theorem bn_lt (β : Nat → Bool) (i : Nat) : bn β i < 2 ^ i := by
  induction i with
  | zero => exact Nat.one_pos
  | succ i ih =>
    rw [bn_s, Nat.pow_succ]
    cases β i
    · simp only [Bool.toNat_false, Nat.zero_mul]; omega
    · simp only [Bool.toNat_true, Nat.one_mul]; omega
theorem bn_congr {β γ : Nat → Bool} : ∀ {n : Nat}, (∀ j, j < n → β j = γ j) → bn β n = bn γ n
  | 0, _ => rfl
  | n + 1, h => by rw [bn_s, bn_s, bn_congr (fun j hj => h j (by omega)), h n (by omega)]
theorem bn_bit (β : Nat → Bool) (n j : Nat) : (bn β n).testBit j = (decide (j < n) && β j) := by
  induction n with
  | zero => simp [bn]
  | succ n ih =>
    have e : bn β (n + 1) = 2 ^ n * (β n).toNat + bn β n := by rw [bn_s, Nat.mul_comm]; omega
    rw [e, Nat.testBit_two_pow_mul_add _ (bn_lt β n)]
    by_cases h : j < n
    · rw [if_pos h, ih]; simp [h, Nat.lt_succ_of_lt h]
    · rw [if_neg h, Nat.testBit_bool_toNat]
      by_cases h2 : j = n
      · subst h2; simp
      · have h3 : ¬ j < n + 1 := by omega
        have h4 : ¬ j - n = 0 := by omega
        simp [h3, h4]
theorem bn_of (N w : Nat) : bn (fun j => N.testBit j) w = N % 2 ^ w := by
  refine Nat.eq_of_testBit_eq (fun j => ?_)
  rw [bn_bit, Nat.testBit_mod_two_pow]
theorem bn_is {β : Nat → Bool} {w N : Nat} (hN : N < 2 ^ w) (h : ∀ j, j < w → β j = N.testBit j) : bn β w = N := by
  rw [bn_congr h, bn_of, Nat.mod_eq_of_lt hN]
theorem bn_inj {β γ : Nat → Bool} {w : Nat} (h : bn β w = bn γ w) {j : Nat} (hj : j < w) : β j = γ j := by
  have e := congrArg (fun x => x.testBit j) h
  simpa [bn_bit, hj] using e
theorem bn_zero (w : Nat) : bn (fun _ => false) w = 0 := by
  induction w with
  | zero => rfl
  | succ w ih => rw [bn_s, ih]; simp
theorem bn_ones (w : Nat) : bn (fun _ => true) w + 1 = 2 ^ w := by
  induction w with
  | zero => rfl
  | succ w ih => rw [bn_s, Nat.pow_succ]; simp only [Bool.toNat_true, Nat.one_mul]; omega
theorem bn_not (β : Nat → Bool) (w : Nat) : bn (fun j => !β j) w + bn β w + 1 = 2 ^ w := by
  induction w with
  | zero => rfl
  | succ w ih =>
    rw [bn_s, bn_s, Nat.pow_succ]
    cases β w
    · simp only [Bool.not_false, Bool.toNat_true, Bool.toNat_false, Nat.one_mul, Nat.zero_mul]; omega
    · simp only [Bool.not_true, Bool.toNat_true, Bool.toNat_false, Nat.one_mul, Nat.zero_mul]; omega
/-- a row in two pieces -/
theorem bn_split (β : Nat → Bool) (i k : Nat) : bn β (i + k) = bn β i + 2 ^ i * bn (fun j => β (i + j)) k := by
  induction k with
  | zero => simp [bn]
  | succ k ih =>
    rw [← Nat.add_assoc, bn_s, ih, bn_s, Nat.mul_add, Nat.pow_add, Nat.mul_left_comm, Nat.add_assoc]
/-- the full adder -/
theorem fa_step {P Q S c i : Nat} {a b d : Bool} (h : S + d.toNat * 2 ^ i = P + Q + c) :
    S + ((a ^^ b) ^^ d).toNat * 2 ^ i + ((a && b) || ((a ^^ b) && d)).toNat * 2 ^ (i + 1) = (P + a.toNat * 2 ^ i) + (Q + b.toNat * 2 ^ i) + c := by
  rw [Nat.pow_succ]
  cases a <;> cases b <;> cases d <;> simp only [Bool.xor_false, Bool.false_xor, Bool.xor_true, Bool.true_xor, Bool.not_true, Bool.not_false, Bool.and_true, Bool.true_and, Bool.and_false, Bool.false_and, Bool.or_true, Bool.true_or, Bool.or_false, Bool.false_or, Bool.toNat_true, Bool.toNat_false, Nat.zero_mul, Nat.one_mul, Nat.add_zero, Bool.and_self, Bool.xor_self, Bool.or_self] at h ⊢ <;> omega
def c_op (k : Nat) (a b : Bool) : Bool := if k = 1 then (a && b) else if k = 2 then (a || b) else (a ^^ b)
/-- the value of a signal: K, L, R the gates' kinds and what they read, σ the sources -/
def cv (K L R : Nat → Nat) (σ : Nat → Bool) (g : Nat) : Bool :=
  if h : K g ≠ 0 ∧ L g < g ∧ R g < g then c_op (K g) (cv K L R σ (L g)) (cv K L R σ (R g)) else σ g
termination_by g
decreasing_by
  · exact h.2.1
  · exact h.2.2
theorem cv_src {K L R : Nat → Nat} {σ : Nat → Bool} {g : Nat} (h : K g = 0) : cv K L R σ g = σ g := by
  rw [cv, dif_neg (fun q => q.1 h)]
theorem cv_gate {K L R : Nat → Nat} {σ : Nat → Bool} {g : Nat} (h : K g ≠ 0) (hl : L g < g) (hr : R g < g) : cv K L R σ g = c_op (K g) (cv K L R σ (L g)) (cv K L R σ (R g)) := by
  rw [cv, dif_pos ⟨h, hl, hr⟩]
theorem cv_else {K L R : Nat → Nat} {σ : Nat → Bool} {g : Nat} (q : ¬ (K g ≠ 0 ∧ L g < g ∧ R g < g)) : cv K L R σ g = σ g := by
  rw [cv, dif_neg q]
/-- more gates above change nothing below -/
theorem cv_ext {K L R K' L' R' : Nat → Nat} {σ : Nat → Bool} {n : Nat} (h : ∀ g, g < n → K' g = K g ∧ L' g = L g ∧ R' g = R g) : ∀ g, g < n → cv K' L' R' σ g = cv K L R σ g := by
  intro g
  induction g using Nat.strongRecOn with
  | ind g ih =>
    intro hg
    obtain ⟨h1, h2, h3⟩ := h g hg
    by_cases q : K g ≠ 0 ∧ L g < g ∧ R g < g
    · rw [cv_gate q.1 q.2.1 q.2.2, cv_gate (by rw [h1]; exact q.1) (by rw [h2]; exact q.2.1) (by rw [h3]; exact q.2.2), h1, h2, h3, ih _ q.2.1 (by omega), ih _ q.2.2 (by omega)]
    · rw [cv_else q, cv_else (by rw [h1, h2, h3]; exact q)]
/-- what lies above a signal doesn't reach it -/
theorem cv_low {K L R : Nat → Nat} {σ τ : Nat → Bool} : ∀ g, (∀ h, h ≤ g → σ h = τ h) → cv K L R σ g = cv K L R τ g := by
  intro g
  induction g using Nat.strongRecOn with
  | ind g ih =>
    intro hg
    by_cases q : K g ≠ 0 ∧ L g < g ∧ R g < g
    · rw [cv_gate q.1 q.2.1 q.2.2, cv_gate q.1 q.2.1 q.2.2, ih _ q.2.1 (fun h hh => hg h (by omega)), ih _ q.2.2 (fun h hh => hg h (by omega))]
    · rw [cv_else q, cv_else q, hg g (Nat.le_refl g)]
theorem cv_same {K L R : Nat → Nat} {σ τ : Nat → Bool} (hst : ∀ h, K h = 0 → σ h = τ h) {n : Nat} (hw : ∀ g, g < n → K g ≠ 0 → L g < g ∧ R g < g) : ∀ g, g < n → cv K L R σ g = cv K L R τ g := by
  intro g
  induction g using Nat.strongRecOn with
  | ind g ih =>
    intro hg
    by_cases q : K g = 0
    · rw [cv_src q, cv_src q, hst g q]
    · obtain ⟨h1, h2⟩ := hw g hg q
      rw [cv_gate q h1 h2, cv_gate q h1 h2, ih _ h1 (by omega), ih _ h2 (by omega)]
end
section
/-! the classes whose objects the worlds hold; numbers that are naturals; cells by nature -/
abbrev classes : List vw_C := [(RX0, TX0, 6), (RX1, TX1, 1), (RX2, TX2, 2), (RX3, TX3, 4), (RX4, TX4, 9), (RJx4a65c, TJx4a65c, 3)]
theorem in_X0 : ∀ w ∈ u_ws RX0 TX0 6, w ∈ TB := by decide +kernel
theorem in_X1 : ∀ w ∈ u_ws RX1 TX1 1, w ∈ TB := by decide +kernel
theorem in_X2 : ∀ w ∈ u_ws RX2 TX2 2, w ∈ TB := by decide +kernel
theorem in_X3 : ∀ w ∈ u_ws RX3 TX3 4, w ∈ TB := by decide +kernel
theorem in_X4 : ∀ w ∈ u_ws RX4 TX4 9, w ∈ TB := by decide +kernel
theorem in_J : ∀ w ∈ u_ws RJx4a65c TJx4a65c 3, w ∈ TB := by decide +kernel
/-- where the classes and array classes are: places of fields, int[], long[], byte[], Object[]; ArrayList's empty array; the class object of Object[] -/
abbrev Zt : Type := va_G × ClassId × ClassId × ClassId × ClassId × Nat × Nat
abbrev ztys (Z : Zt) : List (ClassId × FieldType) := [(Z.2.1, .int), (Z.2.2.1, .long), (Z.2.2.2.1, .byte), (Z.2.2.2.2.1, .object "java/lang/Object")]
abbrev zK (Z : Zt) (U : State) : Prop := va_K Z.1 classes (ztys Z) U
abbrev zat (Z : Zt) (q : Nat × va_E) (H : Heap) : Prop := va_at Z.1 classes q H
/-- an int array of naturals; an object -/
abbrev ea (Z : Zt) (a n : Nat) (r : Nat → Nat) : Nat × va_E := (a, .inl (Z.2.1, n, .inl (fun j => nI (r j))))
abbrev eo (a ci : Nat) (fs : List Value) : Nat × va_E := (a, .inr (ci, fs))
def up {α : Type} (r : Nat → α) (i : Nat) (x : α) : Nat → α := fun j => if j = i then x else r j
theorem up_s {α : Type} (r : Nat → α) (i : Nat) (x : α) : up r i x i = x := by simp [up]
theorem up_n {α : Type} (r : Nat → α) {i j : Nat} (x : α) (h : j ≠ i) : up r i x j = r j := by simp [up, h]
theorem up_upd (r : Nat → Nat) (i x : Nat) : upd (fun j => nI (r j)) i (nI x) = fun j => nI (up r i x j) := by
  funext j
  by_cases h : j = i
  · subst h; simp [upd, up]
  · simp [upd, up, h]
/-- a world: what its cells hold, that they are apart and ours, that all else is as it was -/
abbrev Wd (Z : Zt) (A : Nat → Prop) (H0 : Heap) (ws : va_W) (H : Heap) (locs : List Loc) : Prop := va_P Z.1 classes ws H ∧ va_D A ws ∧ va_S A H0 H locs
theorem Wd.at {Z : Zt} {A : Nat → Prop} {H0 H : Heap} {ws : va_W} {locs : List Loc} (h : Wd Z A H0 ws H locs) (k : Nat) {q : Nat × va_E} (hk : ws[k]? = some q) : zat Z q H := h.1 k q hk
theorem Wd.sub {Z : Zt} {A : Nat → Prop} {H0 H : Heap} {ws ws' : va_W} {locs : List Loc} (h : Wd Z A H0 ws H locs) (is : List Nat) (hn : va_nd is = true) (hs : is.map (fun i => ws[i]?) = ws'.map some) : Wd Z A H0 ws' H locs :=
  ⟨h.1.sub is (by
    have e : is.filterMap (fun i => ws[i]?) = (is.map (fun i => ws[i]?)).filterMap id := by rw [List.filterMap_map]; rfl
    rw [e, hs, List.filterMap_map]
    exact List.filterMap_some), h.2.1.sub is hn hs, h.2.2⟩
/-- what was there at the start and isn't ours is there still -/
theorem Wd.old {Z : Zt} {A : Nat → Prop} {H0 H : Heap} {ws : va_W} {locs : List Loc} (h : Wd Z A H0 ws H locs) {q : Nat × va_E} (hq : zat Z q H0) (hA : ¬ A q.1) : zat Z q H := hq.kept (h.2.2.2.1 q.1 hq.lt hA)
theorem zat_one {Z : Zt} {q : Nat × va_E} {H : Heap} (h : zat Z q H) : va_P Z.1 classes [q] H := by
  intro k x hk
  cases k with
  | zero => cases hk; exact h
  | succ k => simp at hk
section Rw
variable {p : Program} {l : Launch} {e : Env} {R : Room} {s : State} {m : MethodId} {args : Array Value} {below : List Frame} {meth : Method} {c : Code} {H : Heap} {locs : List Loc} {cells slots : Nat} {Q : State → Prop}
variable {cc : ByteArray} {pc : Nat} {ls : Array Slot} {rest : List Value} {Z : Zt} {A : Nat → Prop} {a : Nat} {ws : va_W} {H0 : Heap} {own : String}
theorem r_get (hx : p.tables.exec = Jvm.exec) (hb : c.code = cc) (hts : ∀ w ∈ TB, w.before args s = true) (hown : s.vm.findClass own = some m.cls) (hK : zK Z s) {ci N idx : Nat} {C ref : String} {T : u_T} {fs : List Value} {v : Value} (hat : zat Z (a, .inr (ci, fs)) H) (hc : classes[ci]? = some (C, T, N)) (hin : ∀ w ∈ u_ws C T N, w ∈ TB) (k : Nat) (hk : k < N) (hl : Cond.fieldLink own idx ref (T k).2.1 (T k).2.2.1 ∈ TB) (hsame : ∀ x, s.fieldFound? (T k).1 (T k).2.1 (T k).2.2.1 = some x → s.fieldFound? ref (T k).2.1 (T k).2.2.1 = some x) (hv : fs[k]? = some v) (hdg : decode cc pc = .ok (.getfield idx, 3))
    (kk : W p l e R s m args below meth c H locs cells slots Q (F0 m (pc + 3) ls (v :: rest))) : W p l e R s m args below meth c H locs cells slots Q (F0 m pc ls (.ref a :: rest)) :=
  va_get (D := Z.1) (ws := [(a, .inr (ci, fs))]) hx hb hts hin hown hK (zat_one hat) 0 rfl hc k hk (hts _ hl) hsame hv hdg kk
theorem r_put (hx : p.tables.exec = Jvm.exec) (hb : c.code = cc) (hts : ∀ w ∈ TB, w.before args s = true) (hown : s.vm.findClass own = some m.cls) (hK : zK Z s) (hW : Wd Z A H0 ws H locs) (q0 : Nat) {ci N idx : Nat} {C ref : String} {T : u_T} {fs : List Value} {v : Value} (he : ws[q0]? = some (a, .inr (ci, fs))) (hc : classes[ci]? = some (C, T, N)) (hin : ∀ w ∈ u_ws C T N, w ∈ TB) (ty0 : Nat → FieldType) (hty : ∀ k, k < N → parseFieldDescriptor (T k).2.2.1 = some (ty0 k)) (hnm : ∀ a, a < N → ∀ b, b < N → a ≠ b → (T a).2.1 ≠ (T b).2.1) (k : Nat) (hk : k < N) (hl : Cond.fieldLink own idx ref (T k).2.1 (T k).2.2.1 ∈ TB) (hsame : ∀ x, s.fieldFound? (T k).1 (T k).2.1 (T k).2.2.1 = some x → s.fieldFound? ref (T k).2.1 (T k).2.2.1 = some x) (hfin : (T k).2.2.2 = false) (hn : narrow (ty0 k) v = v) (hfit : fits (ty0 k) v = true) (hlen : k < fs.length) (hdg : decode cc pc = .ok (.putfield idx, 3))
    (kk : ∀ (H1 : Heap) (locs1 : List Loc), Wd Z A H0 (ws.set q0 (a, .inr (ci, fs.set k v))) H1 locs1 → W p l e R s m args below meth c H1 locs1 cells slots Q (F0 m (pc + 3) ls rest)) : W p l e R s m args below meth c H locs cells slots Q (F0 m pc ls (v :: .ref a :: rest)) :=
  va_put (D := Z.1) hx hb hts hin ty0 hty hnm hown hK hW.1 hW.2.1 hW.2.2 q0 he hc k hk (hts _ hl) hsame hfin (hty k hk) hn hfit hlen hdg (fun H1 L1 h1 h2 h3 => kk H1 L1 ⟨h1, h2, h3⟩)
theorem r_putF (hx : p.tables.exec = Jvm.exec) (hb : c.code = cc) (hts : ∀ w ∈ TB, w.before args s = true) (hown : s.vm.findClass own = some m.cls) (hK : zK Z s) (hW : Wd Z A H0 ws H locs) (q0 : Nat) {ci N idx : Nat} {C ref : String} {T : u_T} {fs : List Value} {v : Value} (he : ws[q0]? = some (a, .inr (ci, fs))) (hc : classes[ci]? = some (C, T, N)) (hin : ∀ w ∈ u_ws C T N, w ∈ TB) (ty0 : Nat → FieldType) (hty : ∀ k, k < N → parseFieldDescriptor (T k).2.2.1 = some (ty0 k)) (hnm : ∀ a, a < N → ∀ b, b < N → a ≠ b → (T a).2.1 ≠ (T b).2.1) (k : Nat) (hk : k < N) (hl : Cond.fieldLink own idx ref (T k).2.1 (T k).2.2.1 ∈ TB) (hsame : ∀ x, s.fieldFound? (T k).1 (T k).2.1 (T k).2.2.1 = some x → s.fieldFound? ref (T k).2.1 (T k).2.2.1 = some x) (hfin : (T k).2.2.2 = true) (hini : meth.name = "<init>") (hdecl : (T k).1 = own) (hn : narrow (ty0 k) v = v) (hfit : fits (ty0 k) v = true) (hlen : k < fs.length) (hdg : decode cc pc = .ok (.putfield idx, 3))
    (kk : ∀ (H1 : Heap) (locs1 : List Loc), Wd Z A H0 (ws.set q0 (a, .inr (ci, fs.set k v))) H1 locs1 → W p l e R s m args below meth c H1 locs1 cells slots Q (F0 m (pc + 3) ls rest)) : W p l e R s m args below meth c H locs cells slots Q (F0 m pc ls (v :: .ref a :: rest)) :=
  va_putF (D := Z.1) hx hb hts hin ty0 hty hnm hown hK hW.1 hW.2.1 hW.2.2 q0 he hc k hk (hts _ hl) hsame hfin hini hdecl (hty k hk) hn hfit hlen hdg (fun H1 L1 h1 h2 h3 => kk H1 L1 ⟨h1, h2, h3⟩)
theorem r_ald (hx : p.tables.exec = Jvm.exec) (hb : c.code = cc) (hK : zK Z s) {n i : Nat} {r : Nat → Nat} (hat : zat Z (ea Z a n r) H) (hi : i < n) (hn : n < 2 ^ 31) (hdg : decode cc pc = .ok (.iaload, 1))
    (kk : W p l e R s m args below meth c H locs cells slots Q (F0 m (pc + 1) ls (.int (nI (r i)) :: rest))) : W p l e R s m args below meth c H locs cells slots Q (F0 m pc ls (.int (nI i) :: .ref a :: rest)) := by
  refine va_iald (D := Z.1) (ws := [ea Z a n r]) hx hb hK (zat_one hat) 0 0 rfl rfl (vp_in_nI hi hn) hdg ?_
  rw [nI_clamp (by omega)]
  exact kk
theorem r_len (hx : p.tables.exec = Jvm.exec) (hb : c.code = cc) (hK : zK Z s) {n : Nat} {r : Nat → Nat} (hat : zat Z (ea Z a n r) H) (hdg : decode cc pc = .ok (.arraylength, 1))
    (kk : W p l e R s m args below meth c H locs cells slots Q (F0 m (pc + 1) ls (.int (nI n) :: rest))) : W p l e R s m args below meth c H locs cells slots Q (F0 m pc ls (.ref a :: rest)) :=
  va_alen (D := Z.1) (ws := [ea Z a n r]) hx hb hK (zat_one hat) 0 0 rfl rfl rfl hdg kk
theorem r_ast (hx : p.tables.exec = Jvm.exec) (hb : c.code = cc) (hK : zK Z s) (hW : Wd Z A H0 ws H locs) (q0 : Nat) {n i x : Nat} {r : Nat → Nat} (he : ws[q0]? = some (ea Z a n r)) (hi : i < n) (hn : n < 2 ^ 31) (hdg : decode cc pc = .ok (.iastore, 1))
    (kk : ∀ (H1 : Heap) (locs1 : List Loc), Wd Z A H0 (ws.set q0 (ea Z a n (up r i x))) H1 locs1 → W p l e R s m args below meth c H1 locs1 cells slots Q (F0 m (pc + 1) ls rest)) : W p l e R s m args below meth c H locs cells slots Q (F0 m pc ls (.int (nI x) :: .int (nI i) :: .ref a :: rest)) := by
  refine va_iast (D := Z.1) hx hb hK hW.1 hW.2.1 hW.2.2 q0 0 he rfl (vp_in_nI hi hn) hdg (fun H1 L1 h1 h2 h3 => kk H1 L1 ?_)
  rw [nI_clamp (by omega), up_upd] at h1 h2
  exact ⟨h1, h2, h3⟩
theorem r_newa (hx : p.tables.exec = Jvm.exec) (hb : c.code = cc) (hts : ∀ w ∈ TB, w.before args s = true) (hac : Cond.arrayClass .int ∈ TB) (hK : zK Z s) (hW : Wd Z A H0 ws H locs) (hA : ∀ q, H0.size ≤ q → A q) {n : Nat} (hn : n ≤ 1000000) (hcells : cells + 1 ≤ R.cells) (hslots : slots + n ≤ R.slots) (hdg : decode cc pc = .ok (.newarray .int, 2))
    (kk : ∀ (q : Nat) (H1 : Heap), Wd Z A H0 (ws ++ [ea Z q n (fun _ => 0)]) H1 locs → H1.size = H.size + 1 → q = H.size → W p l e R s m args below meth c H1 locs (cells + 1) (slots + n) Q (F0 m (pc + 2) ls (.ref q :: rest))) : W p l e R s m args below meth c H locs cells slots Q (F0 m pc ls (.int (nI n) :: rest)) := by
  refine va_newaK hx hb (atype := .int) (hts _ hac) rfl hdg rfl (nI_pos (by omega)) (nI_clamp (by omega)) (by show n * 4 ≤ _; omega) hcells hslots rfl fun H1 cA e1 z1 o1 hAr hNm => ?_
  have hcA : cA = Z.2.1 := by
    have h2 : s.vm.findClass ("[" ++ FieldType.int.toString) = some Z.2.1 := (hK.2 0 _ rfl).2
    have h1 : s.vm.findClass ("[" ++ FieldType.int.toString) = some cA := hNm
    exact Option.some.inj (h1.symm.trans h2)
  subst hcA
  have hk : ∀ (k : Nat) (x : Nat × va_E), ws[k]? = some x → H1[x.1]? = H[x.1]? := fun k x hx => o1 x.1 ((hW.1 k x hx).lt)
  refine kk H.size H1 ⟨(hW.1.kept hk).app (zat_one ?_), hW.2.1.push hW.1 rfl (hA _ hW.2.2.1), Nat.le_trans hW.2.2.1 (by omega), fun x h1 h2 => (o1 x (Nat.lt_of_lt_of_le h1 hW.2.2.1)).trans (hW.2.2.2.1 x h1 h2), hW.2.2.2.2⟩ z1 rfl
  show H1[H.size]? = some (vp_cell _ _)
  rw [vp_cell_i]
  exact e1
theorem r_new (hx : p.tables.exec = Jvm.exec) (hb : c.code = cc) (hts : ∀ w ∈ TB, w.before args s = true) (hown : s.vm.findClass own = some m.cls) (hK : zK Z s) (hW : Wd Z A H0 ws H locs) (hA : ∀ q, H0.size ≤ q → A q) {ci N idx : Nat} {C : String} {T : u_T} (hc : classes[ci]? = some (C, T, N)) (hin : ∀ w ∈ u_ws C T N, w ∈ TB) (ty0 : Nat → FieldType) (hty : ∀ k, k < N → parseFieldDescriptor (T k).2.2.1 = some (ty0 k)) (h1 : Cond.classLink own idx C ∈ TB) (h2 : Cond.instantiable C N ∈ TB) (h3 : Cond.initialized C ∈ TB) {fs : List Value} (hfs : ∀ j, j < N → defaultValue (ty0 j) = vp_V fs j) (hcells : cells + 1 ≤ R.cells) (hslots : slots + N ≤ R.slots) (hdg : decode cc pc = .ok (.new idx, 3))
    (kk : ∀ (q : Nat) (H1 : Heap), Wd Z A H0 (ws ++ [eo q ci fs]) H1 locs → W p l e R s m args below meth c H1 locs (cells + 1) (slots + N) Q (F0 m (pc + 3) ls (.ref q :: rest))) : W p l e R s m args below meth c H locs cells slots Q (F0 m pc ls rest) :=
  va_new (D := Z.1) hx hb hts hin ty0 hty hown (hts _ h1) (hts _ h2) (hts _ h3) hK hW.1 hW.2.1 hW.2.2 hA hc hfs hcells hslots hdg (fun q H1 g1 g2 g3 => kk q H1 ⟨g1, g2, g3⟩)
/-! naturals on the stack -/
theorem n_iadd (hx : p.tables.exec = Jvm.exec) (hb : c.code = cc) {x y : Nat} (hdg : decode cc pc = .ok (.iadd, 1)) (kk : W p l e R s m args below meth c H locs cells slots Q (F0 m (pc + 1) ls (.int (nI (x + y)) :: rest))) : W p l e R s m args below meth c H locs cells slots Q (F0 m pc ls (.int (nI y) :: .int (nI x) :: rest)) := by
  refine lv_iadd hx hb hdg ?_
  rw [nI_add]
  exact kk
theorem n_isub (hx : p.tables.exec = Jvm.exec) (hb : c.code = cc) {x y : Nat} (h : y ≤ x) (hdg : decode cc pc = .ok (.isub, 1)) (kk : W p l e R s m args below meth c H locs cells slots Q (F0 m (pc + 1) ls (.int (nI (x - y)) :: rest))) : W p l e R s m args below meth c H locs cells slots Q (F0 m pc ls (.int (nI y) :: .int (nI x) :: rest)) := by
  refine lv_isub hx hb hdg ?_
  rw [pk_sub h]
  exact kk
theorem n_imul (hx : p.tables.exec = Jvm.exec) (hb : c.code = cc) {x y : Nat} (hdg : decode cc pc = .ok (.imul, 1)) (kk : W p l e R s m args below meth c H locs cells slots Q (F0 m (pc + 1) ls (.int (nI (x * y)) :: rest))) : W p l e R s m args below meth c H locs cells slots Q (F0 m pc ls (.int (nI y) :: .int (nI x) :: rest)) := by
  refine lv_imul hx hb hdg ?_
  rw [pk_mul]
  exact kk
theorem n_eqv {x y : Int32} (h : x = y) (kk : W p l e R s m args below meth c H locs cells slots Q (F0 m pc ls (.int y :: rest))) : W p l e R s m args below meth c H locs cells slots Q (F0 m pc ls (.int x :: rest)) := by
  rw [h]; exact kk
/-- a branch whose way is known -/
theorem n_ge_t (hx : p.tables.exec = Jvm.exec) (hb : c.code = cc) {x y : Nat} {off : Int} {tgt : Nat} (h : y ≤ x) (hxb : x < 2 ^ 31) (hdg : decode cc pc = .ok (.if_icmp .ge off, 3)) (ht : (pc : Int) + off = (tgt : Int)) (kk : W p l e R s m args below meth c H locs cells slots Q (F0 m tgt ls rest)) : W p l e R s m args below meth c H locs cells slots Q (F0 m pc ls (.int (nI y) :: .int (nI x) :: rest)) :=
  lv_icmp_ge hx hb hdg ht (fun _ => kk) (fun q => absurd (nI_le h hxb) q)
theorem n_ge_f (hx : p.tables.exec = Jvm.exec) (hb : c.code = cc) {x y : Nat} {off : Int} {tgt : Nat} (h : x < y) (hyb : y < 2 ^ 31) (hdg : decode cc pc = .ok (.if_icmp .ge off, 3)) (ht : (pc : Int) + off = (tgt : Int)) (kk : W p l e R s m args below meth c H locs cells slots Q (F0 m (pc + 3) ls rest)) : W p l e R s m args below meth c H locs cells slots Q (F0 m pc ls (.int (nI y) :: .int (nI x) :: rest)) :=
  lv_icmp_ge hx hb hdg ht (fun q => absurd q (nI_ge h hyb)) (fun _ => kk)
theorem n_lt_t (hx : p.tables.exec = Jvm.exec) (hb : c.code = cc) {x y : Nat} {off : Int} {tgt : Nat} (h : x < y) (hyb : y < 2 ^ 31) (hdg : decode cc pc = .ok (.if_icmp .lt off, 3)) (ht : (pc : Int) + off = (tgt : Int)) (kk : W p l e R s m args below meth c H locs cells slots Q (F0 m tgt ls rest)) : W p l e R s m args below meth c H locs cells slots Q (F0 m pc ls (.int (nI y) :: .int (nI x) :: rest)) :=
  lv_icmp_lt hx hb hdg ht (fun _ => kk) (fun q => absurd (nI_lt h hyb) q)
theorem n_lt_f (hx : p.tables.exec = Jvm.exec) (hb : c.code = cc) {x y : Nat} {off : Int} {tgt : Nat} (h : y ≤ x) (hxb : x < 2 ^ 31) (hdg : decode cc pc = .ok (.if_icmp .lt off, 3)) (ht : (pc : Int) + off = (tgt : Int)) (kk : W p l e R s m args below meth c H locs cells slots Q (F0 m (pc + 3) ls rest)) : W p l e R s m args below meth c H locs cells slots Q (F0 m pc ls (.int (nI y) :: .int (nI x) :: rest)) :=
  lv_icmp_lt hx hb hdg ht (fun q => absurd q (nI_nlt h hxb)) (fun _ => kk)
theorem n_gt_t (hx : p.tables.exec = Jvm.exec) (hb : c.code = cc) {x y : Nat} {off : Int} {tgt : Nat} (h : y < x) (hxb : x < 2 ^ 31) (hdg : decode cc pc = .ok (.if_icmp .gt off, 3)) (ht : (pc : Int) + off = (tgt : Int)) (kk : W p l e R s m args below meth c H locs cells slots Q (F0 m tgt ls rest)) : W p l e R s m args below meth c H locs cells slots Q (F0 m pc ls (.int (nI y) :: .int (nI x) :: rest)) :=
  lv_icmp_gt hx hb hdg ht (fun _ => kk) (fun q => absurd (nI_lt h hxb) q)
theorem n_gt_f (hx : p.tables.exec = Jvm.exec) (hb : c.code = cc) {x y : Nat} {off : Int} {tgt : Nat} (h : x ≤ y) (hyb : y < 2 ^ 31) (hdg : decode cc pc = .ok (.if_icmp .gt off, 3)) (ht : (pc : Int) + off = (tgt : Int)) (kk : W p l e R s m args below meth c H locs cells slots Q (F0 m (pc + 3) ls rest)) : W p l e R s m args below meth c H locs cells slots Q (F0 m pc ls (.int (nI y) :: .int (nI x) :: rest)) :=
  lv_icmp_gt hx hb hdg ht (fun q => absurd q (nI_nlt h hyb)) (fun _ => kk)
theorem n_le_t (hx : p.tables.exec = Jvm.exec) (hb : c.code = cc) {x y : Nat} {off : Int} {tgt : Nat} (h : x ≤ y) (hyb : y < 2 ^ 31) (hdg : decode cc pc = .ok (.if_icmp .le off, 3)) (ht : (pc : Int) + off = (tgt : Int)) (kk : W p l e R s m args below meth c H locs cells slots Q (F0 m tgt ls rest)) : W p l e R s m args below meth c H locs cells slots Q (F0 m pc ls (.int (nI y) :: .int (nI x) :: rest)) :=
  lv_icmp_le hx hb hdg ht (fun _ => kk) (fun q => absurd (nI_le h hyb) q)
theorem n_le_f (hx : p.tables.exec = Jvm.exec) (hb : c.code = cc) {x y : Nat} {off : Int} {tgt : Nat} (h : y < x) (hxb : x < 2 ^ 31) (hdg : decode cc pc = .ok (.if_icmp .le off, 3)) (ht : (pc : Int) + off = (tgt : Int)) (kk : W p l e R s m args below meth c H locs cells slots Q (F0 m (pc + 3) ls rest)) : W p l e R s m args below meth c H locs cells slots Q (F0 m pc ls (.int (nI y) :: .int (nI x) :: rest)) :=
  lv_icmp_le hx hb hdg ht (fun q => absurd q (nI_ge h hxb)) (fun _ => kk)
theorem n_ne_t (hx : p.tables.exec = Jvm.exec) (hb : c.code = cc) {x y : Nat} {off : Int} {tgt : Nat} (h : x ≠ y) (hxb : x < 2 ^ 31) (hyb : y < 2 ^ 31) (hdg : decode cc pc = .ok (.if_icmp .ne off, 3)) (ht : (pc : Int) + off = (tgt : Int)) (kk : W p l e R s m args below meth c H locs cells slots Q (F0 m tgt ls rest)) : W p l e R s m args below meth c H locs cells slots Q (F0 m pc ls (.int (nI y) :: .int (nI x) :: rest)) :=
  lv_icmp_ne hx hb hdg ht (fun _ => kk) (fun q => absurd ((nI_eq hxb hyb).mp q) h)
theorem n_ne_f (hx : p.tables.exec = Jvm.exec) (hb : c.code = cc) {x y : Nat} {off : Int} {tgt : Nat} (h : x = y) (hdg : decode cc pc = .ok (.if_icmp .ne off, 3)) (ht : (pc : Int) + off = (tgt : Int)) (kk : W p l e R s m args below meth c H locs cells slots Q (F0 m (pc + 3) ls rest)) : W p l e R s m args below meth c H locs cells slots Q (F0 m pc ls (.int (nI y) :: .int (nI x) :: rest)) :=
  lv_icmp_ne hx hb hdg ht (fun q => absurd (congrArg nI h) q) (fun _ => kk)
theorem n_eq_t (hx : p.tables.exec = Jvm.exec) (hb : c.code = cc) {x y : Nat} {off : Int} {tgt : Nat} (h : x = y) (hdg : decode cc pc = .ok (.if_icmp .eq off, 3)) (ht : (pc : Int) + off = (tgt : Int)) (kk : W p l e R s m args below meth c H locs cells slots Q (F0 m tgt ls rest)) : W p l e R s m args below meth c H locs cells slots Q (F0 m pc ls (.int (nI y) :: .int (nI x) :: rest)) :=
  lv_icmp_eq hx hb hdg ht (fun _ => kk) (fun q => absurd (congrArg nI h) q)
theorem n_eq_f (hx : p.tables.exec = Jvm.exec) (hb : c.code = cc) {x y : Nat} {off : Int} {tgt : Nat} (h : x ≠ y) (hxb : x < 2 ^ 31) (hyb : y < 2 ^ 31) (hdg : decode cc pc = .ok (.if_icmp .eq off, 3)) (ht : (pc : Int) + off = (tgt : Int)) (kk : W p l e R s m args below meth c H locs cells slots Q (F0 m (pc + 3) ls rest)) : W p l e R s m args below meth c H locs cells slots Q (F0 m pc ls (.int (nI y) :: .int (nI x) :: rest)) :=
  lv_icmp_eq hx hb hdg ht (fun q => absurd ((nI_eq hxb hyb).mp q) h) (fun _ => kk)
theorem n_zne_t (hx : p.tables.exec = Jvm.exec) (hb : c.code = cc) {x : Nat} {off : Int} {tgt : Nat} (h : x ≠ 0) (hxb : x < 2 ^ 31) (hdg : decode cc pc = .ok (.ifCond .ne off, 3)) (ht : (pc : Int) + off = (tgt : Int)) (kk : W p l e R s m args below meth c H locs cells slots Q (F0 m tgt ls rest)) : W p l e R s m args below meth c H locs cells slots Q (F0 m pc ls (.int (nI x) :: rest)) :=
  lv_if_ne hx hb hdg ht (fun _ => kk) (fun q => absurd q (nI_ne0 (Nat.pos_of_ne_zero h) hxb))
theorem n_zne_f (hx : p.tables.exec = Jvm.exec) (hb : c.code = cc) {x : Nat} {off : Int} {tgt : Nat} (h : x = 0) (hdg : decode cc pc = .ok (.ifCond .ne off, 3)) (ht : (pc : Int) + off = (tgt : Int)) (kk : W p l e R s m args below meth c H locs cells slots Q (F0 m (pc + 3) ls rest)) : W p l e R s m args below meth c H locs cells slots Q (F0 m pc ls (.int (nI x) :: rest)) :=
  lv_if_ne hx hb hdg ht (fun q => absurd (by rw [h]; exact nI_0) q) (fun _ => kk)
theorem n_zeq_t (hx : p.tables.exec = Jvm.exec) (hb : c.code = cc) {x : Nat} {off : Int} {tgt : Nat} (h : x = 0) (hdg : decode cc pc = .ok (.ifCond .eq off, 3)) (ht : (pc : Int) + off = (tgt : Int)) (kk : W p l e R s m args below meth c H locs cells slots Q (F0 m tgt ls rest)) : W p l e R s m args below meth c H locs cells slots Q (F0 m pc ls (.int (nI x) :: rest)) :=
  lv_if_eq hx hb hdg ht (fun _ => kk) (fun q => absurd (by rw [h]; exact nI_0) q)
theorem n_zeq_f (hx : p.tables.exec = Jvm.exec) (hb : c.code = cc) {x : Nat} {off : Int} {tgt : Nat} (h : x ≠ 0) (hxb : x < 2 ^ 31) (hdg : decode cc pc = .ok (.ifCond .eq off, 3)) (ht : (pc : Int) + off = (tgt : Int)) (kk : W p l e R s m args below meth c H locs cells slots Q (F0 m (pc + 3) ls rest)) : W p l e R s m args below meth c H locs cells slots Q (F0 m pc ls (.int (nI x) :: rest)) :=
  lv_if_eq hx hb hdg ht (fun q => absurd q (nI_ne0 (Nat.pos_of_ne_zero h) hxb)) (fun _ => kk)
end Rw
end
section
/-! what the start gives and no step takes: words that aren't good ones, statics, texts -/
def nw_cast : List (String × String) := [("[I", "java/lang/Cloneable"), ("java/lang/IllegalArgumentException", "java/lang/IllegalArgumentException"), ("java/lang/IllegalStateException", "java/lang/IllegalStateException"), (RX2, RX2), (RX2, "java/lang/Object")]
def nw_decl : List MethodName := [⟨"java/lang/RuntimeException", "<init>", "()V"⟩, ⟨"java/lang/RuntimeException", "<init>", "(Ljava/lang/String;)V"⟩, ⟨"java/lang/Exception", "<init>", "()V"⟩, ⟨"java/lang/Exception", "<init>", "(Ljava/lang/String;)V"⟩, ⟨"java/lang/Throwable", "<init>", "()V"⟩, ⟨"java/lang/Throwable", "<init>", "(Ljava/lang/String;)V"⟩, ⟨"java/lang/Object", "getClass", "()Ljava/lang/Class;"⟩]
def nw_strs : List (Nat × String) := [(144, "a width is 1 .. 64"), (153, "there are 4000 vectors, or they would weigh more than 100000"), (146, "there is no such kind"), (156, "there is no such vector"), (148, "the widths are not the same"), (92, "what chooses is not of width 1"), (112, "there are no such bits"), (118, "it can't be wider by so many bits"), (132, "the vector is no input")]
def GSv (Z : Zt) (U : State) : Prop := (∀ q ∈ nw_cast, va_Nw (.castable q.1 q.2) U) ∧ (∀ y ∈ nw_decl, va_Nw (.declares y) U) ∧ va_Mi "[Ljava/lang/Object;" Z.2.2.2.2.2.2 U ∧ (∀ q ∈ nw_strs, ∃ a : Nat, vk_R RX3 q.1 q.2 a U) ∧ va_AO "java/lang/Object" U
def GSh (Z : Zt) (A : Nat → Prop) (U : State) (H : Heap) : Prop := va_Z "java/util/ArrayList" "DEFAULTCAPACITY_EMPTY_ELEMENTDATA" "[Ljava/lang/Object;" (.ref Z.2.2.2.2.2.1) A U H ∧ va_T (.object "java/lang/Object") Z.2.2.2.2.2.1 0 (fun _ => .null) A U H ∧ vx_Zq Bundle.tN "UNASSIGNED_STACK" Bundle.steD A U H ∧ vx_Zq Bundle.tN "SUPPRESSED_SENTINEL" Bundle.listD A U H
theorem GSv.warm {Z : Zt} {s U : State} (hW : s.WarmedH U.vm) (h : GSv Z s) : GSv Z U :=
  ⟨fun q hq => (h.1 q hq).warmC hW, fun y hy => (h.2.1 y hy).warmD hW, h.2.2.1.moved hW.alike, fun q hq => (h.2.2.2.1 q hq).elim fun a ha => ⟨a, ha.warm hW⟩, h.2.2.2.2.moved hW.alike⟩
theorem GSv.same {Z : Zt} {u U : State} (hv : U.vm = u.vm) (h : GSv Z u) : GSv Z U :=
  ⟨fun q hq => (h.1 q hq).same rfl hv.symm, fun y hy => (h.2.1 y hy).same rfl hv.symm, h.2.2.1.moved (by rw [hv]; exact Vm.Alike.refl _), fun q hq => (h.2.2.2.1 q hq).elim fun a ha => ⟨a, ha.same hv⟩, h.2.2.2.2.moved (by rw [hv]; exact Vm.Alike.refl _)⟩
theorem GSh.moved {Z : Zt} {A : Nat → Prop} {u U : State} {H : Heap} (hvm : u.vm.Alike U.vm) (h : GSh Z A u H) : GSh Z A U H := ⟨h.1.moved hvm, h.2.1.moved hvm, h.2.2.1.moved hvm, h.2.2.2.moved hvm⟩
theorem GSh.kept {Z : Zt} {A : Nat → Prop} {U : State} {H H1 : Heap} (h : GSh Z A U H) (hq : ∀ a : Nat, a < H.size → ¬ A a → H1[a]? = H[a]?) : GSh Z A U H1 := ⟨h.1.kept hq, h.2.1.kept hq, h.2.2.1.kept hq, h.2.2.2.kept hq⟩
theorem GSh.narrow {Z : Zt} {A B : Nat → Prop} {U : State} {H : Heap} (h : GSh Z A U H) (hAB : ∀ q, B q → A q) : GSh Z B U H := ⟨h.1.narrow hAB, h.2.1.narrow hAB, h.2.2.1.narrow hAB, h.2.2.2.narrow hAB⟩
def GS (Z : Zt) (A : Nat → Prop) (U : State) (H : Heap) : Prop := GSv Z U ∧ GSh Z A U H
/-! contracts in one shape, and their calls -/
def PreC (Z : Zt) (wc : va_W) (sz : Nat) (ro : Heap → Prop) (U : State) : Prop := U.heap.size = sz ∧ va_P Z.1 classes wc U.heap ∧ zK Z U ∧ va_D (fun _ => True) wc ∧ GS Z (va_A wc sz) U U.heap ∧ ro U.heap
def QC (Z : Zt) (wc : va_W) (sz : Nat) (post : Option Value → va_W → Prop) : Array Value → State → Outcome → State → Prop := fun _ st oc t => (∃ (v : Option Value) (w1 : va_W), oc = .returned v ∧ post v w1 ∧ va_P Z.1 classes w1 t.heap ∧ va_D (va_A wc sz) w1) ∧ va_F (va_A wc sz) st t
/-- method y: from a heap that holds wc and 'ro', at most mc cells of ms slots new; its answer and what its world has become: 'post' -/
def MC (l : Launch) (y : MethodName) (b : ByteArray) (nL : Nat) (ret : Option FieldType) (fr lo mc ms : Nat) (Z : Zt) (wc : va_W) (ro : Heap → Prop) (as : List Value) (post : Option Value → va_W → Prop) : Prop :=
  ∀ sz : Nat, Met l y (Cond.code y b nL ret :: TB) { frames := fr, cells := mc, slots := ms, locals := lo } (va_Pc as (PreC Z wc sz ro)) (QC Z wc sz post) mc ms (va_A wc sz)
theorem zK.moved {Z : Zt} {u U : State} (hvm : u.vm.Alike U.vm) (h : zK Z u) : zK Z U := va_K.moved hvm h
theorem preC_blind {Z : Zt} {wc : va_W} {sz : Nat} {ro : Heap → Prop} {as : List Value} : FrameBlind (va_Pc as (PreC Z wc sz ro)) := by
  intro a U g mk q
  obtain ⟨q0, q1, qP, qK, qD, qg, qr⟩ := q
  exact ⟨q0, q1, qP, va_K.moved (u := U) (U := U.calling g mk a) (Vm.Alike.refl U.vm) qK, qD, ⟨qg.1.same (u := U) (U := U.calling g mk a) rfl, qg.2.moved (u := U) (U := U.calling g mk a) (Vm.Alike.refl U.vm)⟩, qr⟩
theorem TB_goodIn {y : MethodName} {b : ByteArray} {nL : Nat} {ret : Option FieldType} (h : Cond.code y b nL ret ∈ TB) : GoodIn TB (Cond.code y b nL ret :: TB) := by
  intro w hw
  have hw' : w ∈ TB := by
    rcases List.mem_cons.mp hw with q | q
    · rw [q]; exact h
    · exact q
  exact ⟨hw', good_of_word (TB_good hw')⟩
/-- a cell that is there, and isn't of the callee's world -/
def RO (Z : Zt) (wc : va_W) (q : Nat × va_E) (H : Heap) : Prop := zat Z q H ∧ ¬ va_A wc H.size q.1
theorem pre_P {Z : Zt} {wc wr : va_W} {H : Heap} (h : va_P Z.1 classes (wc ++ wr) H) : va_P Z.1 classes wc H := fun k q hk => h k q (by rw [List.getElem?_append_left (List.getElem?_eq_some_iff.mp hk).1]; exact hk)
theorem suf_P {Z : Zt} {wc wr : va_W} {H : Heap} (h : va_P Z.1 classes (wc ++ wr) H) : va_P Z.1 classes wr H := fun k q hk => h (wc.length + k) q (by rw [List.getElem?_append_right (by omega), Nat.add_sub_cancel_left]; exact hk)
theorem pre_at {wc wr : va_W} {k : Nat} {q : Nat × va_E} (hk : wc[k]? = some q) : (wc ++ wr)[k]? = some q := by rw [List.getElem?_append_left (List.getElem?_eq_some_iff.mp hk).1]; exact hk
theorem suf_at {wc wr : va_W} {k : Nat} {q : Nat × va_E} (hk : wr[k]? = some q) : (wc ++ wr)[wc.length + k]? = some q := by rw [List.getElem?_append_right (by omega), Nat.add_sub_cancel_left]; exact hk
theorem pre_D {A : Nat → Prop} {wc wr : va_W} (h : va_D A (wc ++ wr)) : va_D A wc := ⟨fun i j p q hi hj e => h.1 i j p q (pre_at hi) (pre_at hj) e, fun k q hk => h.2 k q (pre_at hk)⟩
theorem suf_D {A : Nat → Prop} {wc wr : va_W} (h : va_D A (wc ++ wr)) : va_D A wr := ⟨fun i j p q hi hj e => by have := h.1 _ _ p q (suf_at (wc := wc) hi) (suf_at (wc := wc) hj) e; omega, fun k q hk => h.2 _ q (suf_at hk)⟩
theorem suf_not {Z : Zt} {A : Nat → Prop} {wc wr : va_W} {H : Heap} (hD : va_D A (wc ++ wr)) (hP : va_P Z.1 classes (wc ++ wr) H) {k : Nat} {q : Nat × va_E} (hk : wr[k]? = some q) : q.1 < H.size ∧ ¬ va_A wc H.size q.1 := by
  have hl := (hP _ q (suf_at (wc := wc) hk)).lt
  refine ⟨hl, fun h => ?_⟩
  rcases h with ⟨i, e, h⟩ | h
  · have h1 := hD.1 _ _ _ _ (suf_at (wc := wc) hk) (pre_at (wr := wr) h) rfl
    have h2 := (List.getElem?_eq_some_iff.mp h).1
    omega
  · omega
theorem pre_F {Z : Zt} {A : Nat → Prop} {H0 H : Heap} {wc wr : va_W} {locs : List Loc} (hW : Wd Z A H0 (wc ++ wr) H locs) (hA : ∀ q, H0.size ≤ q → A q) : ∀ q, va_A wc H.size q → A q := by
  intro q h
  rcases h with ⟨k, e, h⟩ | h
  · exact hW.2.1.2 k (q, e) (pre_at h)
  · exact hA q (Nat.le_trans hW.2.2.1 h)
theorem RO.pass {Z : Zt} {A : Nat → Prop} {H0 H : Heap} {w0 wc wr : va_W} {locs : List Loc} {q : Nat × va_E} (h : RO Z w0 q H0) (hAe : A = va_A w0 H0.size) (hW : Wd Z A H0 (wc ++ wr) H locs) : RO Z wc q H := by
  have hn : ¬ A q.1 := by rw [hAe]; exact h.2
  refine ⟨hW.old h.1 hn, fun g => ?_⟩
  rcases g with ⟨k, e, g⟩ | g
  · exact hn (hW.2.1.2 k (q.1, e) (pre_at g))
  · have := h.1.lt
    have := hW.2.2.1
    omega
theorem RO.loc {Z : Zt} {A : Nat → Prop} {H0 H : Heap} {wc wr : va_W} {locs : List Loc} {q : Nat × va_E} (hW : Wd Z A H0 (wc ++ wr) H locs) (k : Nat) (hk : wr[k]? = some q) : RO Z wc q H :=
  ⟨suf_P hW.1 k q hk, (suf_not hW.2.1 hW.1 hk).2⟩
theorem RO.nil {Z : Zt} {H : Heap} {q : Nat × va_E} (h : zat Z q H) : RO Z [] q H := ⟨h, fun g => by
  rcases g with ⟨k, e, g⟩ | g
  · simp at g
  · have := h.lt; omega⟩
theorem RO.here {Z : Zt} {A : Nat → Prop} {H0 H : Heap} {w0 ws : va_W} {locs : List Loc} {q : Nat × va_E} (h : RO Z w0 q H0) (hAe : A = va_A w0 H0.size) (hW : Wd Z A H0 ws H locs) : zat Z q H := hW.old h.1 (by rw [hAe]; exact h.2)
section Cl
variable {p : Program} {l : Launch} {e : Env} {R : Room} {s : State} {m : MethodId} {args : Array Value} {below : List Frame} {meth : Method} {c : Code} {H : Heap} {locs : List Loc} {cells slots : Nat} {Q : State → Prop}
variable {cc : ByteArray} {pc : Nat} {ls : Array Slot} {rest st0 : List Value} {Z : Zt} {A : Nat → Prop} {a : Array Value} {wc wr : va_W} {H0 : Heap} {own : String}
variable {post : Option Value → va_W → Prop} {ro : Heap → Prop} {mc ms fr lo nL maxL idx : Nat} {y : MethodName} {bytes : ByteArray} {ret : Option FieldType} {As : List Value} {b : Nat}
theorem cr_P (hr : va_Run p l e R s m args below meth c H locs cells slots mc ms (F0 m pc ls st0) rest (QC Z wc H.size post a) (va_A wc H.size)) (hW : Wd Z A H0 (wc ++ wr) H locs) (hA : ∀ q, H0.size ≤ q → A q)
    (kk : ∀ (v : Option Value) (w1 : va_W) (H1 : Heap) (locs1 : List Loc), post v w1 → Wd Z A H0 (w1 ++ wr) H1 locs1 → H.size ≤ H1.size → (∀ q : Nat, q < H.size → ¬ va_A wc H.size q → H1[q]? = H[q]?) → va_D (va_A wc H.size) w1 → W p l e R s m args below meth c H1 locs1 (cells + mc) (slots + ms) Q (F0 m (pc + 3) ls (v.toList ++ rest))) : W p l e R s m args below meth c H locs cells slots Q (F0 m pc ls st0) := by
  intro T hT X
  obtain ⟨v, st₀, t, T', L, h0, X', hL, e1, e2, ⟨⟨v', w1, hv, hp, hP1, hD1⟩, hz, hk⟩, st⟩ := hr T hT X
  cases hv
  rw [h0] at hz hk
  have hF := pre_F hW hA
  have k2 : ∀ q : Nat, q < H.size → ¬ va_A wc H.size q → T'.heap[q]? = H[q]? := fun q h1 h2 => by rw [e1]; exact hk q h1 h2
  have k1 : H.size ≤ T'.heap.size := by rw [e1]; exact hz
  have hWd : Wd Z A H0 (w1 ++ wr) T'.heap (locs ++ L) := by
    refine ⟨va_P.app (by rw [e1]; exact hP1) (fun k q hq => ?_), va_D.app (hD1.weaken (fun k q _ h => hF q.1 h)) (suf_D hW.2.1) (fun i j x y hx hy hxy => ?_), Nat.le_trans hW.2.2.1 k1, fun q h1 h2 => ?_, fun q hq => ?_⟩
    · obtain ⟨g1, g2⟩ := suf_not hW.2.1 hW.1 hq
      exact (suf_P hW.1 k q hq).kept (k2 q.1 g1 g2)
    · exact (suf_not hW.2.1 hW.1 hy).2 (by rw [← hxy]; exact hD1.2 i x hx)
    · rw [k2 q (Nat.lt_of_lt_of_le h1 hW.2.2.1) (fun z => h2 (hF q z))]
      exact hW.2.2.2.1 q h1 h2
    · rcases List.mem_append.mp hq with h | h
      · exact hW.2.2.2.2 q h
      · exact hF _ (hL q h)
  obtain ⟨t2, a1, b1⟩ := kk v w1 T'.heap (locs ++ L) hp hWd k1 k2 hD1 T' rfl X'
  exact ⟨t2, st t2 a1, b1⟩
theorem gs_at (hG : GS Z A s s.heap) (hH0 : H0 = s.heap) (hW : Wd Z A H0 (wc ++ wr) H locs) (hA : ∀ q, H0.size ≤ q → A q) {U : State} (hU : U.heap = H) (hWm : s.WarmedH U.vm) : GS Z (va_A wc H.size) U U.heap := by
  subst hH0
  rw [hU]
  exact ⟨hG.1.warm hWm, ((hG.2.moved hWm.alike).kept (fun a h1 h2 => hW.2.2.2.1 a h1 h2)).narrow (pre_F hW hA)⟩
theorem callB_TB (hts : ∀ w ∈ TB, w.before args s = true) (hc : Cond.code y bytes maxL ret ∈ TB) (hi : Cond.initialized y.cls ∈ TB) (hl : Cond.methodLink own idx y ∈ TB) {n : Nat} (hd : y.cls ≠ "java/lang/invoke/MethodHandle" ∧ y.cls ≠ "java/lang/invoke/VarHandle" ∧ (parseMethodDescriptor y.desc).map (fun d => d.parameters.length) = some n) (hR : fr + 1 ≤ R.frames ∧ 8 + (maxL + 11) + lo ≤ R.locals) :
    CallB R s args own idx y bytes maxL ret (Cond.code y bytes maxL ret :: TB) { frames := fr, cells := mc, slots := ms, locals := lo } mc ms n :=
  callB_of (rm := { frames := fr, cells := mc, slots := ms, locals := lo }) n hts (TB_goodIn hc) rfl rfl rfl (hts _ hi) (hts _ hl) hd hR
theorem c_virt {nA : Nat} (hx : p.tables.exec = Jvm.exec) (hb : c.code = cc) (hml : c.maxLocals = nL) (hown : s.vm.findClass own = some m.cls) (hts : ∀ w ∈ TB, w.before args s = true) (hK : zK Z s) (hG : GS Z A s s.heap) (hH0 : H0 = s.heap) (hA : ∀ q, H0.size ≤ q → A q) {nl : Nat} {lv : List (Nat × Value)} (hl : lv_has ls nL lv)
    (hM : MC l y bytes maxL ret fr lo mc ms Z wc ro (.ref b :: As) post) (hW : Wd Z A H0 (wc ++ wr) H locs) (hro : ro H)
    {ci N : Nat} {C : String} {T : u_T} {fs : List Value} (hrec : zat Z (b, .inr (ci, fs)) H) (hci : classes[ci]? = some (C, T, N)) (hC : y.cls = C)
    (w1 : Cond.methodLink own idx y ∈ TB) (w2 : Cond.instanceMethod y ∈ TB) (w3 : Cond.selects C y y ∈ TB) (w4 : Cond.initialized C ∈ TB) (w5 : Cond.code y bytes maxL ret ∈ TB)
    (hd : y.cls ≠ "java/lang/invoke/MethodHandle" ∧ y.cls ≠ "java/lang/invoke/VarHandle" ∧ (parseMethodDescriptor y.desc).map (fun d => d.parameters.length) = some nA) (hnA : As.length = nA)
    (hR : fr + 1 ≤ R.frames ∧ 8 + (maxL + 11) + lo ≤ R.locals) (hcs : cells + mc ≤ R.cells ∧ slots + ms ≤ R.slots) (hst : st0 = As.reverse ++ .ref b :: rest) (hrm : (rest.map fun v => v.category).sum ≤ 8) (hdg : decode cc pc = .ok (.invokevirtual idx, 3))
    (kk : ∀ (v : Option Value) (w1 : va_W) (H1 : Heap) (locs1 : List Loc), post v w1 → Wd Z A H0 (w1 ++ wr) H1 locs1 → H.size ≤ H1.size → (∀ q : Nat, q < H.size → ¬ va_A wc H.size q → H1[q]? = H[q]?) → va_D (va_A wc H.size) w1 → W p l e R s m args below meth c H1 locs1 (cells + mc) (slots + ms) Q (F0 m (pc + 3) ls (v.toList ++ rest))) : W p l e R s m args below meth c H locs cells slots Q (F0 m pc ls st0) := by
  subst hC
  refine cr_P (va_runV (C := y.cls) (b := b) (As := As) ⟨hx, hb, hml, hown, hts⟩ (hM H.size) ⟨callB_TB hts w5 w4 w1 hd hR, hts _ w2, hts _ w3⟩ ⟨preC_blind, ?_, fun U hU hWm => ⟨rfl, by rw [hU], by rw [hU]; exact pre_P hW.1, zK.moved hWm.alike hK, (pre_D hW.2.1).weaken (fun _ _ _ _ => trivial), gs_at hG hH0 hW hA hU hWm, by rw [hU]; exact hro⟩⟩ rfl hnA hl.1 hst (lv_room hrm) hdg hcs) hW hA kk
  exact va_recv (q0 := 0) (ci := ci) hK (zat_one hrec) hci rfl
theorem c_stat {nA : Nat} (hx : p.tables.exec = Jvm.exec) (hb : c.code = cc) (hml : c.maxLocals = nL) (hown : s.vm.findClass own = some m.cls) (hts : ∀ w ∈ TB, w.before args s = true) (hK : zK Z s) (hG : GS Z A s s.heap) (hH0 : H0 = s.heap) (hA : ∀ q, H0.size ≤ q → A q) {lv : List (Nat × Value)} (hl : lv_has ls nL lv)
    (hM : MC l y bytes maxL ret fr lo mc ms Z wc ro As post) (hW : Wd Z A H0 (wc ++ wr) H locs) (hro : ro H)
    (w1 : Cond.methodLink own idx y ∈ TB) (w2 : Cond.static y ∈ TB) (w4 : Cond.initialized y.cls ∈ TB) (w5 : Cond.code y bytes maxL ret ∈ TB)
    (hd : y.cls ≠ "java/lang/invoke/MethodHandle" ∧ y.cls ≠ "java/lang/invoke/VarHandle" ∧ (parseMethodDescriptor y.desc).map (fun d => d.parameters.length) = some nA) (hnA : As.length = nA)
    (hR : fr + 1 ≤ R.frames ∧ 8 + (maxL + 11) + lo ≤ R.locals) (hcs : cells + mc ≤ R.cells ∧ slots + ms ≤ R.slots) (hst : st0 = As.reverse ++ rest) (hrm : (rest.map fun v => v.category).sum ≤ 8) (hdg : decode cc pc = .ok (.invokestatic idx, 3))
    (kk : ∀ (v : Option Value) (w1 : va_W) (H1 : Heap) (locs1 : List Loc), post v w1 → Wd Z A H0 (w1 ++ wr) H1 locs1 → H.size ≤ H1.size → (∀ q : Nat, q < H.size → ¬ va_A wc H.size q → H1[q]? = H[q]?) → va_D (va_A wc H.size) w1 → W p l e R s m args below meth c H1 locs1 (cells + mc) (slots + ms) Q (F0 m (pc + 3) ls (v.toList ++ rest))) : W p l e R s m args below meth c H locs cells slots Q (F0 m pc ls st0) :=
  cr_P (va_runS (As := As) ⟨hx, hb, hml, hown, hts⟩ (hM H.size) ⟨callB_TB hts w5 w4 w1 hd hR, hts _ w2⟩ ⟨preC_blind, fun U hU hWm => ⟨rfl, by rw [hU], by rw [hU]; exact pre_P hW.1, zK.moved hWm.alike hK, (pre_D hW.2.1).weaken (fun _ _ _ _ => trivial), gs_at hG hH0 hW hA hU hWm, by rw [hU]; exact hro⟩⟩ rfl hnA hl.1 hst (lv_room hrm) hdg hcs) hW hA kk
theorem c_spec {nA : Nat} (hx : p.tables.exec = Jvm.exec) (hb : c.code = cc) (hml : c.maxLocals = nL) (hown : s.vm.findClass own = some m.cls) (hts : ∀ w ∈ TB, w.before args s = true) (hK : zK Z s) (hG : GS Z A s s.heap) (hH0 : H0 = s.heap) (hA : ∀ q, H0.size ≤ q → A q) {lv : List (Nat × Value)} (hl : lv_has ls nL lv)
    (hM : MC l y bytes maxL none fr lo mc ms Z wc ro (.ref b :: As) post) (hW : Wd Z A H0 (wc ++ wr) H locs) (hro : ro H)
    (w1 : Cond.methodLink own idx y ∈ TB) (w2 : Cond.instanceMethod y ∈ TB) (w4 : Cond.initialized y.cls ∈ TB) (w5 : Cond.code y bytes maxL none ∈ TB) (hyn : y.name = "<init>")
    (hd : y.cls ≠ "java/lang/invoke/MethodHandle" ∧ y.cls ≠ "java/lang/invoke/VarHandle" ∧ (parseMethodDescriptor y.desc).map (fun d => d.parameters.length) = some nA) (hnA : As.length = nA)
    (hR : fr + 1 ≤ R.frames ∧ 8 + (maxL + 11) + lo ≤ R.locals) (hcs : cells + mc ≤ R.cells ∧ slots + ms ≤ R.slots) (hst : st0 = As.reverse ++ .ref b :: rest) (hrm : (rest.map fun v => v.category).sum ≤ 8) (hdg : decode cc pc = .ok (.invokespecial idx, 3))
    (kk : ∀ (v : Option Value) (w1 : va_W) (H1 : Heap) (locs1 : List Loc), post v w1 → Wd Z A H0 (w1 ++ wr) H1 locs1 → H.size ≤ H1.size → (∀ q : Nat, q < H.size → ¬ va_A wc H.size q → H1[q]? = H[q]?) → va_D (va_A wc H.size) w1 → W p l e R s m args below meth c H1 locs1 (cells + mc) (slots + ms) Q (F0 m (pc + 3) ls (v.toList ++ rest))) : W p l e R s m args below meth c H locs cells slots Q (F0 m pc ls st0) :=
  cr_P (va_runI (b := b) (As := As) ⟨hx, hb, hml, hown, hts⟩ (hM H.size) ⟨callB_TB hts w5 w4 w1 hd hR, hyn, hts _ w2⟩ ⟨preC_blind, fun U hU hWm => ⟨rfl, by rw [hU], by rw [hU]; exact pre_P hW.1, zK.moved hWm.alike hK, (pre_D hW.2.1).weaken (fun _ _ _ _ => trivial), gs_at hG hH0 hW hA hU hWm, by rw [hU]; exact hro⟩⟩ rfl hnA hl.1 hst (lv_room hrm) hdg hcs) hW hA kk
end Cl
/-- a contract out of a walk of the body -/
theorem mc_of {l : Launch} {y : MethodName} {b : ByteArray} {nL : Nat} {ret : Option FieldType} {fr lo mc ms : Nat} {Z : Zt} {wc : va_W} {ro : Heap → Prop} {as : List Value} {post : Option Value → va_W → Prop}
    (hy : plainName y.cls = true) (hlen : (lg_sl as).length ≤ nL)
    (body : ∀ (p : Program) (e : Env) (s : State) (m : MethodId) (below : List Frame) (meth : Method) (c : Code) (ls : Array Slot) (A : Nat → Prop), p.tables.exec = Jvm.exec → c.code = b → meth.sig.returnType = ret → (∀ w ∈ TB, w.before as.toArray s = true) → s.vm.findClass y.cls = some m.cls → meth.locks = false → c.maxLocals = nL → meth.name = y.name → zK Z s → GS Z A s s.heap → Wd Z A s.heap wc s.heap [] → (∀ q, s.heap.size ≤ q → A q) → A = va_A wc s.heap.size → ro s.heap → lv_has ls nL (lv_args 0 as) → ∀ R : Room, R.frames = fr → R.cells = mc → R.slots = ms → R.locals = lo →
      W p l e R s m as.toArray below meth c s.heap [] 0 0 (MQ below (QC Z wc s.heap.size post) as.toArray s mc ms A) (F0 m 0 ls [])) : MC l y b nL ret fr lo mc ms Z wc ro as post := by
  intro sz
  refine Met.ofW (cc := b) (maxL := nL) (ret := ret) hy rfl ?_
  intro p e s m args below meth c s₁ B hml hv
  obtain ⟨rfl, hsz, hP, hK, hD0, hG, hro⟩ := hv
  subst hsz
  have hts0 := atoms_spec (ws := Cond.code y b nL ret :: TB) B.pre
  have hl := lv_entry as (n := nL) hlen
  have hin : meth.name = y.name := (name_of_methodNamed B.named B.method).1
  have k := body p e s m below meth c _ (va_A wc s.heap.size) B.exec B.bytes B.returns (fun w hw => hts0 w (List.mem_cons_of_mem _ hw)) (findClass_of_methodNamed B.named) B.notSynchronized hml hin hK hG ⟨hP, hD0.self, va_S.rf⟩ (fun q h => Or.inr h) rfl hro hl { frames := fr, cells := mc, slots := ms, locals := lo } rfl rfl rfl rfl
  rw [lg_entry_eq]
  exact k
/-! ends of a body -/
section En
variable {p : Program} {l : Launch} {e : Env} {R : Room} {s : State} {m : MethodId} {args : Array Value} {below : List Frame} {meth : Method} {c : Code} {H : Heap} {locs : List Loc} {cells slots mc ms : Nat}
variable {cc : ByteArray} {pc : Nat} {ls : Array Slot} {Z : Zt} {A : Nat → Prop} {wc ws : va_W} {post : Option Value → va_W → Prop}
theorem e_qc (hAe : A = va_A wc s.heap.size) (hW : Wd Z A s.heap ws H locs) {v : Option Value} (hp : post v ws) : ∀ t : State, t.heap = H → s.WarmedH t.vm → QC Z wc s.heap.size post args s (.returned v) t := by
  subst hAe
  intro t ht _
  exact ⟨⟨v, ws, rfl, hp, by rw [ht]; exact hW.1, hW.2.1⟩, hW.2.2.F ht⟩
theorem e_int (hx : p.tables.exec = Jvm.exec) (hb : c.code = cc) (hr : meth.sig.returnType = some .int) (hlk : meth.locks = false) (hAe : A = va_A wc s.heap.size) (hW : Wd Z A s.heap ws H locs) (hc : cells ≤ mc) (hs : slots ≤ ms) {v : Int32} (hdg : decode cc pc = .ok (.ireturn, 1)) (hp : post (some (.int v)) ws) : W p l e R s m args below meth c H locs cells slots (MQ below (QC Z wc s.heap.size post) args s mc ms A) (F0 m pc ls [.int v]) :=
  W.widen hc hs (W.iret hx hb hr (e_qc hAe hW hp) hW.2.2.2.2 hdg hlk)
theorem e_bool (hx : p.tables.exec = Jvm.exec) (hb : c.code = cc) (hr : meth.sig.returnType = some .boolean) (hlk : meth.locks = false) (hAe : A = va_A wc s.heap.size) (hW : Wd Z A s.heap ws H locs) (hc : cells ≤ mc) (hs : slots ≤ ms) {v : Int32} (hn : narrow .boolean (.int v) = .int v) (hdg : decode cc pc = .ok (.ireturn, 1)) (hp : post (some (.int v)) ws) : W p l e R s m args below meth c H locs cells slots (MQ below (QC Z wc s.heap.size post) args s mc ms A) (F0 m pc ls [.int v]) :=
  W.widen hc hs (W.zret hx hb hr hn (e_qc hAe hW hp) hW.2.2.2.2 hdg hlk)
theorem e_long (hx : p.tables.exec = Jvm.exec) (hb : c.code = cc) (hr : meth.sig.returnType = some .long) (hlk : meth.locks = false) (hAe : A = va_A wc s.heap.size) (hW : Wd Z A s.heap ws H locs) (hc : cells ≤ mc) (hs : slots ≤ ms) {v : Int64} (hdg : decode cc pc = .ok (.lreturn, 1)) (hp : post (some (.long v)) ws) : W p l e R s m args below meth c H locs cells slots (MQ below (QC Z wc s.heap.size post) args s mc ms A) (F0 m pc ls [.long v]) :=
  W.widen hc hs (W.lret hx hb hr (e_qc hAe hW hp) hW.2.2.2.2 hdg hlk)
theorem e_ref (hx : p.tables.exec = Jvm.exec) (hb : c.code = cc) {rt : FieldType} (hr : meth.sig.returnType = some rt) (hrt : (∃ n, rt = .object n) ∨ ∃ t, rt = .array t) (hlk : meth.locks = false) (hAe : A = va_A wc s.heap.size) (hW : Wd Z A s.heap ws H locs) (hc : cells ≤ mc) (hs : slots ≤ ms) {v : Nat} (hdg : decode cc pc = .ok (.areturn, 1)) (hp : post (some (.ref v)) ws) : W p l e R s m args below meth c H locs cells slots (MQ below (QC Z wc s.heap.size post) args s mc ms A) (F0 m pc ls [.ref v]) :=
  W.widen hc hs (W.aret hx hb hr hrt (Or.inr ⟨_, rfl⟩) (e_qc hAe hW hp) hW.2.2.2.2 hdg hlk)
theorem e_void (hx : p.tables.exec = Jvm.exec) (hb : c.code = cc) (hr : meth.sig.returnType = none) (hlk : meth.locks = false) (hAe : A = va_A wc s.heap.size) (hW : Wd Z A s.heap ws H locs) (hc : cells ≤ mc) (hs : slots ≤ ms) (hdg : decode cc pc = .ok (.return_, 1)) (hp : post none ws) : W p l e R s m args below meth c H locs cells slots (MQ below (QC Z wc s.heap.size post) args s mc ms A) (F0 m pc ls []) :=
  W.widen hc hs (W.vret hx hb hr (e_qc hAe hW hp) hW.2.2.2.2 hdg hlk)
end En
end
section
/-! rows of the library's members; Arrays.copyOf of ints -/
theorem inc1 (k : Nat) : nI k + Int32.ofInt 1 = nI (k + 1) := nI_1 k
theorem dec1 {k : Nat} (h : 0 < k) : nI k + Int32.ofInt (-1) = nI (k - 1) := sb_m1 h
theorem tb_min : Cond.code Lib.Math.min.name Lib.Math.min.code 2 (some .int) ∈ TB := TB_of 242 (by decide +kernel) (by decide +kernel)
theorem tb_max : Cond.code Lib.Math.max.name Lib.Math.max.code 2 (some .int) ∈ TB := TB_of 286 (by decide +kernel) (by decide +kernel)
theorem tb_Math : Cond.initialized "java/lang/Math" ∈ TB := by decide +kernel
theorem tb_System : Cond.initialized "java/lang/System" ∈ TB := by decide +kernel
section Jd
variable {p : Program} {l : Launch} {e : Env} {R : Room} {s : State} {m : MethodId} {args : Array Value} {below : List Frame} {meth : Method} {c : Code} {H : Heap} {locs : List Loc} {cells slots : Nat} {Q : State → Prop}
variable {cc : ByteArray} {pc : Nat} {ls : Array Slot} {rest : List Value} {Z : Zt} {A : Nat → Prop} {a : Nat} {ws : va_W} {H0 : Heap} {own : String}
theorem n_min (hx : p.tables.exec = Jvm.exec) (hb : c.code = cc) {nL : Nat} {lv : List (Nat × Value)} (hml : c.maxLocals = nL) (hl : lv_has ls nL lv) (hown : s.vm.findClass own = some m.cls) (hts : ∀ w ∈ TB, w.before args s = true) {idx : Nat} (w1 : Cond.methodLink own idx yJ9_min_7cf53 ∈ TB) (hfr : 1 ≤ R.frames) (hlo : (rest.map fun v => v.category).sum + 13 ≤ R.locals) (hc : cells ≤ R.cells) (hs : slots ≤ R.slots) {x y : Nat} (hxb : x < 2 ^ 31) (hyb : y < 2 ^ 31) (hdg : decode cc pc = .ok (.invokestatic idx, 3))
    (kk : W p l e R s m args below meth c H locs cells slots Q (F0 m (pc + 3) ls (.int (nI (min x y)) :: rest))) : W p l e R s m args below meth c H locs cells slots Q (F0 m pc ls (.int (nI y) :: .int (nI x) :: rest)) := by
  refine va_mmin hx hb (hml.trans hl.1.symm) hown (hts _ w1) (hts _ tb_241) (hts _ tb_Math) (hts _ tb_min) hfr hlo hc hs hdg ?_
  have e : (if nI y < nI x then nI y else nI x) = nI (min x y) := by
    by_cases h : y < x
    · rw [if_pos (nI_lt h hxb), Nat.min_eq_right (Nat.le_of_lt h)]
    · rw [if_neg (nI_nlt (by omega) hyb), Nat.min_eq_left (by omega)]
  rw [e]
  exact kk
theorem n_max (hx : p.tables.exec = Jvm.exec) (hb : c.code = cc) {nL : Nat} {lv : List (Nat × Value)} (hml : c.maxLocals = nL) (hl : lv_has ls nL lv) (hown : s.vm.findClass own = some m.cls) (hts : ∀ w ∈ TB, w.before args s = true) {idx : Nat} (w1 : Cond.methodLink own idx yJ9_max_7cf53 ∈ TB) (hfr : 1 ≤ R.frames) (hlo : (rest.map fun v => v.category).sum + 13 ≤ R.locals) (hc : cells ≤ R.cells) (hs : slots ≤ R.slots) {x y : Nat} (hxb : x < 2 ^ 31) (hyb : y < 2 ^ 31) (hdg : decode cc pc = .ok (.invokestatic idx, 3))
    (kk : W p l e R s m args below meth c H locs cells slots Q (F0 m (pc + 3) ls (.int (nI (max x y)) :: rest))) : W p l e R s m args below meth c H locs cells slots Q (F0 m pc ls (.int (nI y) :: .int (nI x) :: rest)) := by
  refine va_mmax hx hb (hml.trans hl.1.symm) hown (hts _ w1) (hts _ tb_285) (hts _ tb_Math) (hts _ tb_max) hfr hlo hc hs hdg ?_
  have e : (if nI x < nI y then nI y else nI x) = nI (max x y) := by
    by_cases h : x < y
    · rw [if_pos (nI_lt h hyb), Nat.max_eq_right (Nat.le_of_lt h)]
    · rw [if_neg (nI_nlt (by omega) hxb), Nat.max_eq_left (by omega)]
  rw [e]
  exact kk
theorem cpy_nat (f g : Nat → Nat) (sp dp n : Nat) : va_cpy (fun j => nI (f j)) (fun j => nI (g j)) sp dp n = fun j => nI (va_cpy f g sp dp n j) := by
  funext k
  simp only [va_cpy]
  by_cases h : dp ≤ k ∧ k < dp + n
  · rw [if_pos h, if_pos h]
  · rw [if_neg h, if_neg h]
/-- System.arraycopy into an array of ours, from any that is there -/
theorem r_copy (hx : p.tables.exec = Jvm.exec) (hb : c.code = cc) {nL : Nat} {lv : List (Nat × Value)} (hml : c.maxLocals = nL) (hl : lv_has ls nL lv) (hown : s.vm.findClass own = some m.cls) (hts : ∀ w ∈ TB, w.before args s = true) (hK : zK Z s) (hW : Wd Z A H0 ws H locs) {idx : Nat} (w1 : Cond.methodLink own idx arraycopyName ∈ TB) {a0 n0 n1 : Nat} {f g : Nat → Nat} (hsrc : zat Z (ea Z a0 n0 f) H) (q1 : Nat) (he : ws[q1]? = some (ea Z a n1 g)) {sp dp n : Nat} (h4 : sp + n ≤ n0) (h5 : dp + n ≤ n1) (hb0 : n0 < 2 ^ 31) (hb1 : n1 < 2 ^ 31) (hfr : 1 ≤ R.frames) (hlo : (rest.map fun v => v.category).sum + (nativeFrameWords "java/lang/System" "arraycopy" 5 + 11) ≤ R.locals) (hdg : decode cc pc = .ok (.invokestatic idx, 3))
    (kk : ∀ (H1 : Heap) (locs1 : List Loc), Wd Z A H0 (ws.set q1 (ea Z a n1 (va_cpy f g sp dp n))) H1 locs1 → W p l e R s m args below meth c H1 locs1 cells slots Q (F0 m (pc + 3) ls rest)) : W p l e R s m args below meth c H locs cells slots Q (F0 m pc ls (.int (nI n) :: .int (nI dp) :: .ref a :: .int (nI sp) :: .ref a0 :: rest)) := by
  intro T hT X
  have hc0 : H[a0]? = some (vp_cell Z.2.1 (n0, .inl (fun j => nI (f j)))) := hsrc
  have hc1 : H[a]? = some (vp_cell Z.2.1 (n1, .inl (fun j => nI (g j)))) := hW.1 q1 _ he
  obtain ⟨-, k0, hk0, cm0, hkk0⟩ := (hK.2 0 _ rfl).1 n0 (fun j => .int (nI (f j)))
  have t1 : (nI sp).toInt = (sp : Int) := nI_toInt (by omega)
  have t2 : (nI dp).toInt = (dp : Int) := nI_toInt (by omega)
  have t3 : (nI n).toInt = (n : Int) := nI_toInt (by omega)
  have c1 : (nI sp).toNatClampNeg = sp := nI_clamp (by omega)
  have c2 : (nI dp).toNatClampNeg = dp := nI_clamp (by omega)
  have c3 : (nI n).toNatClampNeg = n := nI_clamp (by omega)
  obtain ⟨vm', X', step⟩ := X.arraycopy hx hown (hts _ w1) (hts _ tb_245) (hts _ tb_244) (hts _ tb_System) (src := a0) (dst := a) (cs := vp_cell Z.2.1 (n0, .inl (fun j => nI (f j)))) (cd := vp_cell Z.2.1 (n1, .inl (fun j => nI (g j)))) (srcPos := nI sp) (destPos := nI dp) (n := nI n) (by rw [hT]; exact hc0) (by rw [hT]; exact hc1)
    (fun _ h => by cases h) (fun _ h => by cases h) (fun h => by cases h) (fun h => by cases h) hk0 hk0 hkk0 hkk0 (by simp [refKind]) (nI_pos (by omega)) (nI_pos (by omega)) (nI_pos (by omega))
    (by rw [t1, t3]; show ¬ _ > ((arrV Z.2.1 n0 (fun j => .int (nI (f j)))).slots.size : Int); rw [arrV_size]; omega)
    (by rw [t2, t3]; show ¬ _ > ((arrV Z.2.1 n1 (fun j => .int (nI (g j)))).slots.size : Int); rw [arrV_size]; omega)
    (fun vm₁ _ i hi => by
      rw [c3] at hi
      rw [c1]
      have e : (vp_cell Z.2.1 (n0, .inl (fun j => nI (f j)))).slots.getD (sp + i) .null = .int (nI (f (sp + i))) := by
        show (arrV Z.2.1 n0 (fun j => .int (nI (f j)))).slots.getD _ _ = _
        rw [Array.getD_eq_getD_getElem?, arrV_read _ _ (by omega)]
        rfl
      rw [e]
      exact ⟨rfl, trivial⟩)
    (g := F0 m pc ls (.int (nI n) :: .int (nI dp) :: .ref a :: .int (nI sp) :: .ref a0 :: rest)) rfl (hl.1.trans hml.symm) (rest := rest) rfl (by rw [hb]; exact hdg) hfr (by show 2 * 0 + _ + _ ≤ _; omega)
  have e1 : copied (vp_cell Z.2.1 (n0, .inl (fun j => nI (f j)))) (vp_cell Z.2.1 (n1, .inl (fun j => nI (g j)))) (nI sp) (nI dp) (nI n) = vp_cell Z.2.1 (n1, .inl (fun j => nI (va_cpy f g sp dp n j))) := by
    have h := va_copied (fun z => Value.int z) Z.2.1 Z.2.1 (n0 := n0) (n1 := n1) (sp := sp) (dp := dp) (n := n) (fun j => nI (f j)) (fun j => nI (g j)) h4
    rw [cpy_nat] at h
    show (arrV Z.2.1 n1 (fun j => .int (nI (g j)))).storeRun (nI dp).toNatClampNeg ((arrV Z.2.1 n0 (fun j => .int (nI (f j)))).stretch (nI sp).toNatClampNeg (nI n).toNatClampNeg) = _
    rw [c1, c2, c3]
    exact h
  rw [e1] at X' step
  generalize hC : vp_cell Z.2.1 (n1, .inl (fun j => nI (va_cpy f g sp dp n j))) = C1 at X' step
  have hlt : a < H.size := (Array.getElem?_eq_some_iff.mp hc1).1
  have hheap : ((T.setVm vm').setCell a C1).heap = H.setIfInBounds a C1 := by rw [← hT]; rfl
  have oq : ∀ q : Nat, q ≠ a → (H.setIfInBounds a C1)[q]? = H[q]? := fun q hq => by simp [Array.getElem?_setIfInBounds, Ne.symm hq]
  obtain ⟨t, a1, b1⟩ := kk _ _ ⟨hW.1.set hW.2.1 he (show (H.setIfInBounds a C1)[a]? = some (vp_cell _ _) by rw [hC]; simp [Array.getElem?_setIfInBounds, hlt]) oq, hW.2.1.set he, by simp; exact hW.2.2.1, fun q g1 g2 => by
      rw [oq q (fun e => g2 (by rw [e]; exact hW.2.1.2 q1 _ he))]
      exact hW.2.2.2.1 q g1 g2, fun q hq => by
      rcases List.mem_append.mp hq with h | h
      · exact hW.2.2.2.2 q h
      · obtain ⟨z, -, hz⟩ := List.mem_map.mp h
        rw [← hz]
        exact hW.2.1.2 q1 _ he⟩ _ hheap X'
  exact ⟨t, step t a1, b1⟩
/-- clone() of an int array, with an empty world -/
theorem r_clone (hx : p.tables.exec = Jvm.exec) (hb : c.code = cc) {nL : Nat} {lv : List (Nat × Value)} (hml : c.maxLocals = nL) (hl : lv_has ls nL lv) (hown : s.vm.findClass RJ7 = some m.cls) (hts : ∀ w ∈ TB, w.before args s = true) (hK : zK Z s) (hGv : GSv Z s) (hW : Wd Z A H0 [] H locs) (hA : ∀ q, H0.size ≤ q → A q) {n : Nat} {f : Nat → Nat} (hsrc : zat Z (ea Z a n f) H) (hfr : 1 ≤ R.frames) (hlo : (rest.map fun v => v.category).sum + 14 ≤ R.locals) (hcells : cells + 1 ≤ R.cells) (hslots : slots + n ≤ R.slots) (hdg : decode cc pc = .ok (.invokevirtual 316, 3))
    (kk : ∀ (q : Nat) (H1 : Heap), Wd Z A H0 [ea Z q n f] H1 locs → W p l e R s m args below meth c H1 locs (cells + 1) (slots + n) Q (F0 m (pc + 3) ls (.ref q :: rest))) : W p l e R s m args below meth c H locs cells slots Q (F0 m pc ls (.ref a :: rest)) := by
  have hD : va_D (fun q => A q ∨ q = a) [ea Z a n f] := ⟨fun i j x y hi hj _ => by
    have h1 := (List.getElem?_eq_some_iff.mp hi).1
    have h2 := (List.getElem?_eq_some_iff.mp hj).1
    simp only [List.length_cons, List.length_nil] at h1 h2
    omega, fun k q hk => by
    have h1 := (List.getElem?_eq_some_iff.mp hk).1
    simp only [List.length_cons, List.length_nil] at h1
    rw [show k = 0 by omega] at hk
    cases hk
    exact Or.inr rfl⟩
  refine va_clone (D := Z.1) (A := fun q => A q ∨ q = a) (ws := [ea Z a n f]) (H0 := H0) hx hb (hml.trans hl.1.symm) hown (hts _ tb_233) (hts _ tb_234) (hts _ tb_235) (hts _ tb_236) (hts _ tb_237) (hGv.1 ("[I", "java/lang/Cloneable") (by simp [nw_cast])) hK (zat_one hsrc) hD ⟨hW.2.2.1, fun q h1 h2 => hW.2.2.2.1 q h1 (fun z => h2 (Or.inl z)), fun q hq => Or.inl (hW.2.2.2.2 q hq)⟩ (fun q h => Or.inl (hA q h)) 0 0 rfl rfl (va_nm_int (hK.2 0 _ rfl).2) (fun i v hv => va_fit (fun _ _ => rfl) i v hv) hfr hlo hcells hslots hdg (fun q H1 _ hP1 hD1 hS1 => kk q H1 ⟨zat_one (hP1 1 _ rfl), ⟨fun i j x y hi hj _ => ?_, fun k x hk => ?_⟩, hS1.1, fun x h1 h2 => ?_, hW.2.2.2.2⟩)
  · have h1 := (List.getElem?_eq_some_iff.mp hi).1
    have h2 := (List.getElem?_eq_some_iff.mp hj).1
    simp only [List.length_cons, List.length_nil] at h1 h2
    omega
  · have h1 := (List.getElem?_eq_some_iff.mp hk).1
    simp only [List.length_cons, List.length_nil] at h1
    rw [show k = 0 by omega] at hk
    cases hk
    rcases hD1.2 1 _ rfl with h | h
    · exact h
    · exact absurd (hD1.1 1 0 _ _ rfl rfl h) (by decide)
  · by_cases hxa : x = a
    · subst hxa
      have g1 : H1[x]? = some (vp_cell Z.2.1 (n, .inl (fun j => nI (f j)))) := hP1 0 _ rfl
      have g2 : H[x]? = some (vp_cell Z.2.1 (n, .inl (fun j => nI (f j)))) := hsrc
      rw [g1, ← g2]
      exact hW.2.2.2.1 x h1 h2
    · exact hS1.2.1 x h1 (fun z => z.elim h2 hxa)
end Jd
end
section
set_option maxHeartbeats 4000000 in
set_option maxRecDepth 100000 in
/-- Arrays.copyOf of an int array -/
theorem k_copyOf (l : Launch) (Z : Zt) (a n k : Nat) (r : Nat → Nat) (hn : n ≤ 1000000) (hk : k ≤ 1000000) : MC l yJ7_copyOf_59c91 cJ7_copyOf_59c91 3 (some (.array .int)) 2 80 (1) (k) Z ([]) (fun H => zat Z (ea Z a n r) H) [.ref a, .int (nI k)] (fun v w1 => ∃ (q : Nat) (f : Nat → Nat), v = some (.ref q) ∧ w1 = [ea Z q k f] ∧ ∀ j, j < k → f j = if j < n then r j else 0) := by
  refine mc_of (by decide) (Nat.le_of_ble_eq_true rfl) (fun p e s m below meth c ls A hx hb hr hts hown hlk hml hin hK hG hW hA hAe hro hl R hRf hRc hRs hRl => ?_)
  have hl : lv_has ls 3 [(0, .ref a), (1, .int (nI k))] := hl
  refine lv_iload_n hx hb dJ7_copyOf_59c91_0 rfl (lv_at hl 1 rfl) ?_
  refine lv_aload_n hx hb dJ7_copyOf_59c91_1 rfl (lv_at hl 0 rfl) ?_
  refine r_len hx hb hK ((RO.nil hro).here hAe hW) dJ7_copyOf_59c91_2 ?_
  by_cases hkn : k = n
  · refine n_ne_f (tgt := 14) hx hb (by omega) dJ7_copyOf_59c91_3 (by decide) ?_
    refine lv_aload_n hx hb dJ7_copyOf_59c91_6 rfl (lv_at hl 0 rfl) ?_
    refine r_clone hx hb hml hl hown hts hK hG.1 hW hA ((RO.nil hro).here hAe hW) (by omega) (by rw [hRl]; exact Nat.le_of_ble_eq_true rfl) (by omega) (by omega) dJ7_copyOf_59c91_7 (fun q H hW => ?_)
    refine va_castA (D := Z.1) (ws := [ea Z q n r]) hx hb hown (hts _ tb_239) hW.1 0 rfl (va_nm_int (hK.2 0 _ rfl).2) dJ7_copyOf_59c91_10 ?_
    subst hkn
    exact e_ref hx hb hr (Or.inr ⟨_, rfl⟩) hlk hAe hW (by omega) (by omega) dJ7_copyOf_59c91_13 ⟨q, r, rfl, rfl, fun j hj => by rw [if_pos hj]⟩
  · refine n_ne_t (tgt := 14) hx hb (by omega) (by omega) (by omega) dJ7_copyOf_59c91_3 (by decide) ?_
    refine lv_iload_n hx hb dJ7_copyOf_59c91_14 rfl (lv_at hl 1 rfl) ?_
    refine r_newa (n := k) hx hb hts tb_65 hK hW hA (by omega) (by omega) (by omega) dJ7_copyOf_59c91_15 (fun q H hW hsz_q hq_q => ?_)
    have hW : Wd Z A s.heap ([ea Z q k (fun _ => 0)]) _ _ := hW
    refine lv_astore_n (lv' := [(2, .ref q), (0, .ref a), (1, .int (nI k))]) hx hb dJ7_copyOf_59c91_17 rfl hl (by decide) rfl (fun ls hl => ?_)
    refine lv_aload_n hx hb dJ7_copyOf_59c91_18 rfl (lv_at hl 1 rfl) ?_
    refine lv_iconst (v := nI 0) hx hb dJ7_copyOf_59c91_19 (by decide) ?_
    refine lv_aload_n hx hb dJ7_copyOf_59c91_20 rfl (lv_at hl 0 rfl) ?_
    refine lv_iconst (v := nI 0) hx hb dJ7_copyOf_59c91_21 (by decide) ?_
    refine lv_aload_n hx hb dJ7_copyOf_59c91_22 rfl (lv_at hl 1 rfl) ?_
    refine r_len hx hb hK ((RO.nil hro).here hAe hW) dJ7_copyOf_59c91_23 ?_
    refine lv_iload_n hx hb dJ7_copyOf_59c91_24 rfl (lv_at hl 2 rfl) ?_
    refine n_min hx hb hml hl hown hts tb_240 (by omega) (by rw [hRl]; exact Nat.le_of_ble_eq_true rfl) (by omega) (by omega) (x := n) (y := k) (by omega) (by omega) dJ7_copyOf_59c91_25 ?_
    refine r_copy hx hb hml hl hown hts hK hW tb_243 (f := r) (n0 := n) (sp := 0) (dp := 0) (n := min n k) ((RO.nil hro).here hAe hW) 0 rfl (by omega) (by omega) (by omega) (by omega) (by omega) (by rw [hRl]; exact Nat.le_of_ble_eq_true rfl) dJ7_copyOf_59c91_28 (fun H locs hW => ?_)
    have hW : Wd Z A s.heap ([ea Z q k (va_cpy r (fun _ => 0) 0 0 (min n k))]) _ _ := hW
    refine lv_aload_n hx hb dJ7_copyOf_59c91_31 rfl (lv_at hl 0 rfl) ?_
    refine e_ref hx hb hr (Or.inr ⟨_, rfl⟩) hlk hAe hW (by omega) (by omega) dJ7_copyOf_59c91_32 ⟨q, _, rfl, rfl, fun j hj => ?_⟩
    show (if 0 ≤ j ∧ j < 0 + min n k then r (0 + (j - 0)) else 0) = _
    by_cases h : j < n
    · rw [if_pos h, if_pos (by omega)]; simp
    · rw [if_neg h, if_neg (by omega)]
end
section
/-! the circuit: its cells, what they mean, how it grows -/
def capU (u n : Nat) : Nat := if h : 64 * u < n ∧ 0 < u then capU (2 * u) n else u
termination_by n - 64 * u
decreasing_by omega
theorem capU_id {u n : Nat} (h : n ≤ 64 * u) : capU u n = u := by rw [capU, dif_neg (by omega)]
theorem capU_step {u n : Nat} (h : 64 * u < n) (h0 : 0 < u) : capU u n = capU (2 * u) n := by rw [capU, dif_pos ⟨h, h0⟩]
theorem capU_all (P : Nat → Nat → Prop) (h1 : ∀ u n, ¬ (64 * u < n ∧ 0 < u) → P u n) (h2 : ∀ u n, 64 * u < n → 0 < u → P (2 * u) n → P u n) : ∀ (d u n : Nat), n - 64 * u ≤ d → P u n := by
  intro d
  induction d with
  | zero => intro u n h; exact h1 u n (by omega)
  | succ d ih =>
    intro u n h
    by_cases q : 64 * u < n ∧ 0 < u
    · exact h2 u n q.1 q.2 (ih (2 * u) n (by omega))
    · exact h1 u n q
theorem capU_le (u n : Nat) : u ≤ capU u n := capU_all (fun u n => u ≤ capU u n) (fun u n q => by show u ≤ capU u n; rw [capU, dif_neg q]; omega) (fun u n q q0 ih => by show u ≤ capU u n; rw [capU_step q q0]; have : 2 * u ≤ capU (2 * u) n := ih; omega) _ u n (Nat.le_refl _)
theorem capU_ge (u n : Nat) (h0 : 0 < u) : n ≤ 64 * capU u n := capU_all (fun u n => 0 < u → n ≤ 64 * capU u n) (fun u n q h => by rw [capU, dif_neg q]; omega) (fun u n q q0 ih h => by rw [capU_step q q0]; exact ih (by omega)) _ u n (Nat.le_refl _) h0
theorem capU_comp (u n1 n2 : Nat) (h : n1 ≤ n2) : capU (capU u n1) n2 = capU u n2 := capU_all (fun u n => n ≤ n2 → capU (capU u n) n2 = capU u n2) (fun u n q _ => by rw [capU.eq_1 u n, dif_neg q]) (fun u n q q0 ih hn => by rw [capU_step q q0, ih hn, capU_step (n := n2) (by omega) q0]) _ u n1 (Nat.le_refl _) h
theorem capU_mono (u n1 n2 : Nat) (h : n1 ≤ n2) : capU u n1 ≤ capU u n2 := by rw [← capU_comp u n1 n2 h]; exact capU_le _ _
theorem capU_bd (u n : Nat) : capU u n = u ∨ 32 * capU u n < n := capU_all (fun u n => capU u n = u ∨ 32 * capU u n < n) (fun u n q => Or.inl (by rw [capU, dif_neg q])) (fun u n q q0 ih => by
  refine Or.inr ?_
  rw [capU_step q q0]
  have ih' : capU (2 * u) n = 2 * u ∨ 32 * capU (2 * u) n < n := ih
  rcases ih' with h | h
  · rw [h]; omega
  · exact h) _ u n (Nat.le_refl _)
abbrev CS : Type := (Nat × Nat × Nat × Nat) × Nat × (Nat → Nat) × (Nat → Nat) × (Nat → Nat) × (Nat → Nat) × Nat × Nat
abbrev xu (x : CS) : Nat := x.2.1
abbrev xK (x : CS) : Nat → Nat := x.2.2.1
abbrev xL (x : CS) : Nat → Nat := x.2.2.2.1
abbrev xR (x : CS) : Nat → Nat := x.2.2.2.2.1
abbrev xS (x : CS) : Nat → Nat := x.2.2.2.2.2.1
abbrev xn (x : CS) : Nat := x.2.2.2.2.2.2.1
abbrev xt (x : CS) : Nat := x.2.2.2.2.2.2.2
/-- the circuit's five cells -/
abbrev cw (Z : Zt) (hc : Nat) (x : CS) : va_W := [eo hc 0 [.ref x.1.1, .ref x.1.2.1, .ref x.1.2.2.1, .ref x.1.2.2.2, .int (nI (xn x)), .int (nI (xt x))], ea Z x.1.1 (64 * xu x) (xK x), ea Z x.1.2.1 (64 * xu x) (xL x), ea Z x.1.2.2.1 (64 * xu x) (xR x), ea Z x.1.2.2.2 (64 * xu x) (xS x)]
/-- a signal's value when the sources are σ -/
def vl (x : CS) (σ : Nat → Bool) (g : Nat) : Bool := cv (xK x) (xL x) (xR x) σ g
def gd (σ : Nat → Bool) : Prop := σ 0 = false ∧ σ 1 = true
def cok (x : CS) (σ : Nat → Bool) : Prop :=
  (2 ≤ xt x ∧ xt x ≤ xn x ∧ xn x ≤ 64 * xu x ∧ xn x ≤ 400000 ∧ xu x ≤ 20000) ∧ (xK x 0 = 0 ∧ xK x 1 = 0) ∧ (∀ g, 2 ≤ g → g < xn x → xK x g ≤ 3 ∧ xL x g < g ∧ xR x g < g) ∧ gd σ ∧ (∀ g, xn x ≤ g → σ g = false) ∧ (∀ g, g < xn x → xK x g = 0 → xS x g = (σ g).toNat) ∧ (∀ g, g < xt x → xS x g = (vl x σ g).toNat) ∧ (∀ g, xn x ≤ g → g < 64 * xu x → xS x g = 0)
/-- x' is x with more gates above -/
def cex (x x' : CS) : Prop := xn x ≤ xn x' ∧ ∀ g, g < xn x → xK x' g = xK x g ∧ xL x' g = xL x g ∧ xR x' g = xR x g
theorem cex.rf (x : CS) : cex x x := ⟨Nat.le_refl _, fun _ _ => ⟨rfl, rfl, rfl⟩⟩
theorem cex.tr {x y z : CS} (h : cex x y) (k : cex y z) : cex x z := ⟨Nat.le_trans h.1 k.1, fun g hg => by
  obtain ⟨a, b, c⟩ := h.2 g hg
  obtain ⟨d, e, f⟩ := k.2 g (Nat.lt_of_lt_of_le hg h.1)
  exact ⟨d.trans a, e.trans b, f.trans c⟩⟩
theorem cex.vl {x y : CS} (h : cex x y) {σ : Nat → Bool} {g : Nat} (hg : g < xn x) : vl y σ g = vl x σ g := cv_ext h.2 g hg
theorem vl_0 {x : CS} {τ σ : Nat → Bool} (h : cok x τ) (hg : gd σ) : vl x σ 0 = false := by
  rw [vl, cv_src h.2.1.1]; exact hg.1
theorem vl_1 {x : CS} {τ σ : Nat → Bool} (h : cok x τ) (hg : gd σ) : vl x σ 1 = true := by
  rw [vl, cv_src h.2.1.2]; exact hg.2
/-- behind gate(kd, a, b) -/
def gpost (x : CS) (σ : Nat → Bool) (kd a b : Nat) (x' : CS) : Prop := cok x' σ ∧ xn x' = xn x + 1 ∧ xt x' = xt x ∧ xu x' = capU (xu x) (xn x + 1) ∧ cex x x' ∧ (∀ τ, vl x' τ (xn x) = if kd = 0 then τ (xn x) else c_op kd (vl x τ a) (vl x τ b)) ∧ xK x' (xn x) = kd
theorem gpost_of {x : CS} {σ : Nat → Bool} {kd a b : Nat} (h : cok x σ) (hk : kd ≤ 3) (ha : a < xn x) (hb : b < xn x) (hz : kd = 0 → a = 0 ∧ b = 0) (hn : xn x < 400000) {x' : CS} (hn' : xn x' = xn x + 1) (ht' : xt x' = xt x) (hu' : xu x' = capU (xu x) (xn x + 1)) (hub : xu x' ≤ 20000) (hKLR : ∀ g, g < xn x → xK x' g = xK x g ∧ xL x' g = xL x g ∧ xR x' g = xR x g) (hK : xK x' (xn x) = kd) (hL : xL x' (xn x) = a) (hR : xR x' (xn x) = b) (hS : ∀ g, g < xn x → xS x' g = xS x g) (hS0 : ∀ g, xn x ≤ g → g < 64 * xu x' → xS x' g = 0) : gpost x σ kd a b x' := by
  obtain ⟨⟨h1, h2, h3, h3b, h3c⟩, ⟨h4, h5⟩, h6, h7, h8, h9, h10, h11⟩ := h
  have hu0 : 0 < xu x := by omega
  have hx : cex x x' := ⟨by omega, hKLR⟩
  have hge := capU_ge (xu x) (xn x + 1) hu0
  have hnlt : xn x < 64 * xu x' := by rw [hu']; omega
  refine ⟨⟨⟨by omega, by omega, by rw [hn', hu']; exact hge, by omega, hub⟩, ⟨by rw [(hKLR 0 (by omega)).1]; exact h4, by rw [(hKLR 1 (by omega)).1]; exact h5⟩, fun g g2 gn => ?_, h7, fun g gn => h8 g (by omega), fun g gn gk => ?_, fun g gt => ?_, fun g g1 g2 => hS0 g (by omega) g2⟩, hn', ht', hu', hx, fun τ => ?_, hK⟩
  · by_cases e : g = xn x
    · subst e
      rw [hK, hL, hR]
      exact ⟨hk, ha, hb⟩
    · obtain ⟨a1, a2, a3⟩ := hKLR g (by omega)
      rw [a1, a2, a3]
      exact h6 g g2 (by omega)
  · by_cases e : g = xn x
    · subst e
      rw [hS0 _ (Nat.le_refl _) hnlt, h8 _ (Nat.le_refl _)]
      rfl
    · rw [hS g (by omega)]
      exact h9 g (by omega) (by rw [← (hKLR g (by omega)).1]; exact gk)
  · rw [ht'] at gt
    rw [hS g (by omega), h10 g gt, hx.vl (by omega)]
  · by_cases e : kd = 0
    · rw [if_pos e, vl, cv_src (by rw [hK]; exact e)]
    · rw [if_neg e, vl, cv_gate (by rw [hK]; exact e) (by rw [hL]; exact ha) (by rw [hR]; exact hb), hK, hL, hR]
      have e1 := hx.vl (σ := τ) ha
      have e2 := hx.vl (σ := τ) hb
      rw [vl] at e1 e2
      rw [e1, e2]
end
section
def gateQ (Z : Zt) (hc : Nat) (x : CS) (σ : Nat → Bool) (kd a b : Nat) (v : Option Value) (w1 : va_W) : Prop := ∃ x' : CS, v = some (.int (nI (xn x))) ∧ w1 = cw Z hc x' ∧ gpost x σ kd a b x'
set_option maxHeartbeats 4000000 in
set_option maxRecDepth 100000 in
/-- Circuit.gate -/
theorem k_gate (l : Launch) (Z : Zt) (hc : Nat) (x : CS) (σ : Nat → Bool) (kd a b : Nat) (hx0 : cok x σ) (hk : kd ≤ 3) (ha : a < xn x) (hbb : b < xn x) (hz : kd = 0 → a = 0 ∧ b = 0) (hn : xn x < 400000) : MC l yX0_gate cX0_gate 5 (some .int) 3 150 (4 * (capU (xu x) (xn x + 1) - xu x)) (512 * (capU (xu x) (xn x + 1) - xu x)) Z (cw Z hc x) (fun _ => True) [.ref hc, .int (nI kd), .int (nI a), .int (nI b)] (gateQ Z hc x σ kd a b) := by
  refine mc_of (by decide) (Nat.le_of_ble_eq_true rfl) (fun p e s m below meth c ls A hx hb hr hts hown hlk hml hin hK hG hW hA hAe hro hl R hRf hRc hRs hRl => ?_)
  have hl : lv_has ls 5 [(0, .ref hc), (1, .int (nI kd)), (2, .int (nI a)), (3, .int (nI b))] := hl
  obtain ⟨⟨ak, al, ar, as⟩, u, K, L, Rr, S, n, t⟩ := x
  have hx0b := hx0
  obtain ⟨⟨h1, h2, h3, h3b, h3c⟩, ⟨h4, h5⟩, h6, h7, h8, h9, h10, h11⟩ := hx0b
  dsimp only [xn, xt, xu, xK, xL, xR, xS] at *
  have tail : ∀ (bk bl br bs u1 cap : Nat) (K1 L1 R1 S1 : Nat → Nat) (H : Heap) (locs : List Loc) (cl sl : Nat) (ls : Array Slot), cap = 64 * u1 → n < cap → u1 = capU u (n + 1) → u1 ≤ 20000 → (∀ g, g < n → K1 g = K g ∧ L1 g = L g ∧ R1 g = Rr g ∧ S1 g = S g) → (∀ g, n ≤ g → g < cap → S1 g = 0) → cl ≤ 4 * (capU u (n + 1) - u) → sl ≤ 512 * (capU u (n + 1) - u) → Wd Z A s.heap ([eo hc 0 [.ref bk, .ref bl, .ref br, .ref bs, .int (nI n), .int (nI t)], ea Z bk cap K1, ea Z bl cap L1, ea Z br cap R1, ea Z bs cap S1]) H locs → lv_has ls 5 [(0, .ref hc), (1, .int (nI kd)), (2, .int (nI a)), (3, .int (nI b))] → W p l e R s m ([.ref hc, .int (nI kd), .int (nI a), .int (nI b)] : List Value).toArray below meth c H locs cl sl (MQ below (QC Z (cw Z hc ((ak, al, ar, as), u, K, L, Rr, S, n, t)) s.heap.size (gateQ Z hc ((ak, al, ar, as), u, K, L, Rr, S, n, t) σ kd a b)) ([.ref hc, .int (nI kd), .int (nI a), .int (nI b)] : List Value).toArray s (4 * (capU (u) (n + 1) - u)) (512 * (capU (u) (n + 1) - u)) A) (F0 m 72 ls []) := by
    intro bk bl br bs u1 cap K1 L1 R1 S1 H locs cl sl ls hcap hlt hu1 hub hsame hS0 hcl hsl hW hl
    refine lv_aload_n hx hb dX0_gate_72 rfl (lv_at hl 0 rfl) ?_
    refine r_get hx hb hts hown hK (hW.at 0 rfl) rfl in_X0 0 (by decide) tb_46 (fun _ h => h) rfl dX0_gate_73 ?_
    refine lv_aload_n hx hb dX0_gate_76 rfl (lv_at hl 0 rfl) ?_
    refine r_get hx hb hts hown hK (hW.at 0 rfl) rfl in_X0 4 (by decide) tb_50 (fun _ h => h) rfl dX0_gate_77 ?_
    refine lv_iload_n hx hb dX0_gate_80 rfl (lv_at hl 1 rfl) ?_
    refine r_ast (i := n) (x := kd) hx hb hK hW 1 rfl (by omega) (by omega) dX0_gate_81 (fun H locs hW => ?_)
    have hW : Wd Z A s.heap ([eo hc 0 [.ref bk, .ref bl, .ref br, .ref bs, .int (nI n), .int (nI t)], ea Z bk cap (up K1 n kd), ea Z bl cap L1, ea Z br cap R1, ea Z bs cap S1]) _ _ := hW
    refine lv_aload_n hx hb dX0_gate_82 rfl (lv_at hl 0 rfl) ?_
    refine r_get hx hb hts hown hK (hW.at 0 rfl) rfl in_X0 1 (by decide) tb_47 (fun _ h => h) rfl dX0_gate_83 ?_
    refine lv_aload_n hx hb dX0_gate_86 rfl (lv_at hl 0 rfl) ?_
    refine r_get hx hb hts hown hK (hW.at 0 rfl) rfl in_X0 4 (by decide) tb_50 (fun _ h => h) rfl dX0_gate_87 ?_
    refine lv_iload_n hx hb dX0_gate_90 rfl (lv_at hl 2 rfl) ?_
    refine r_ast (i := n) (x := a) hx hb hK hW 2 rfl (by omega) (by omega) dX0_gate_91 (fun H locs hW => ?_)
    have hW : Wd Z A s.heap ([eo hc 0 [.ref bk, .ref bl, .ref br, .ref bs, .int (nI n), .int (nI t)], ea Z bk cap (up K1 n kd), ea Z bl cap (up L1 n a), ea Z br cap R1, ea Z bs cap S1]) _ _ := hW
    refine lv_aload_n hx hb dX0_gate_92 rfl (lv_at hl 0 rfl) ?_
    refine r_get hx hb hts hown hK (hW.at 0 rfl) rfl in_X0 2 (by decide) tb_48 (fun _ h => h) rfl dX0_gate_93 ?_
    refine lv_aload_n hx hb dX0_gate_96 rfl (lv_at hl 0 rfl) ?_
    refine r_get hx hb hts hown hK (hW.at 0 rfl) rfl in_X0 4 (by decide) tb_50 (fun _ h => h) rfl dX0_gate_97 ?_
    refine lv_iload_n hx hb dX0_gate_100 rfl (lv_at hl 3 rfl) ?_
    refine r_ast (i := n) (x := b) hx hb hK hW 3 rfl (by omega) (by omega) dX0_gate_101 (fun H locs hW => ?_)
    have hW : Wd Z A s.heap ([eo hc 0 [.ref bk, .ref bl, .ref br, .ref bs, .int (nI n), .int (nI t)], ea Z bk cap (up K1 n kd), ea Z bl cap (up L1 n a), ea Z br cap (up R1 n b), ea Z bs cap S1]) _ _ := hW
    refine lv_aload_n hx hb dX0_gate_102 rfl (lv_at hl 0 rfl) ?_
    refine lv_dup hx hb dX0_gate_103 rfl ?_
    refine r_get hx hb hts hown hK (hW.at 0 rfl) rfl in_X0 4 (by decide) tb_50 (fun _ h => h) rfl dX0_gate_104 ?_
    refine lv_iconst (v := nI 1) hx hb dX0_gate_107 (by decide) ?_
    refine n_iadd hx hb dX0_gate_108 ?_
    refine r_put hx hb hts hown hK hW 0 (v := .int (nI (n + 1))) rfl rfl in_X0 tyX0 tyX0_ok nmX0 4 (by decide) tb_50 (fun _ h => h) rfl rfl rfl (Nat.le_of_ble_eq_true rfl) dX0_gate_109 (fun H locs hW => ?_)
    have hW : Wd Z A s.heap ([eo hc 0 [.ref bk, .ref bl, .ref br, .ref bs, .int (nI (n + 1)), .int (nI t)], ea Z bk cap (up K1 n kd), ea Z bl cap (up L1 n a), ea Z br cap (up R1 n b), ea Z bs cap S1]) _ _ := hW
    refine lv_aload_n hx hb dX0_gate_112 rfl (lv_at hl 0 rfl) ?_
    refine r_get hx hb hts hown hK (hW.at 0 rfl) rfl in_X0 4 (by decide) tb_50 (fun _ h => h) rfl dX0_gate_113 ?_
    refine lv_iconst (v := nI 1) hx hb dX0_gate_116 (by decide) ?_
    refine n_isub hx hb (by omega) dX0_gate_117 ?_
    subst hcap
    have hW : Wd Z A s.heap (cw Z hc ((bk, bl, br, bs), u1, up K1 n kd, up L1 n a, up R1 n b, S1, n + 1, t)) _ _ := hW
    refine e_int hx hb hr hlk hAe hW hcl hsl dX0_gate_118 ?_
    refine ⟨((bk, bl, br, bs), u1, up K1 n kd, up L1 n a, up R1 n b, S1, n + 1, t), by rw [Nat.add_sub_cancel], rfl, gpost_of hx0 hk ha hbb hz hn rfl rfl hu1 hub (fun g hg => ?_) (up_s _ _ _) (up_s _ _ _) (up_s _ _ _) (fun g hg => (hsame g hg).2.2.2) hS0⟩
    dsimp only [xn] at hg
    have hne : g ≠ n := by omega
    exact ⟨(up_n _ _ hne).trans (hsame g hg).1, (up_n _ _ hne).trans (hsame g hg).2.1, (up_n _ _ hne).trans (hsame g hg).2.2.1⟩
  have hW : Wd Z A s.heap ([eo hc 0 [.ref ak, .ref al, .ref ar, .ref as, .int (nI n), .int (nI t)], ea Z ak (64 * u) K, ea Z al (64 * u) L, ea Z ar (64 * u) Rr, ea Z as (64 * u) S]) _ _ := hW
  refine lv_aload_n hx hb dX0_gate_0 rfl (lv_at hl 0 rfl) ?_
  refine r_get hx hb hts hown hK (hW.at 0 rfl) rfl in_X0 4 (by decide) tb_50 (fun _ h => h) rfl dX0_gate_1 ?_
  refine lv_aload_n hx hb dX0_gate_4 rfl (lv_at hl 0 rfl) ?_
  refine r_get hx hb hts hown hK (hW.at 0 rfl) rfl in_X0 0 (by decide) tb_46 (fun _ h => h) rfl dX0_gate_5 ?_
  refine r_len hx hb hK (hW.at 1 rfl) dX0_gate_8 ?_
  by_cases hroom : n < 64 * u
  · refine n_lt_t (tgt := 72) hx hb (by omega) (by omega) dX0_gate_9 (by decide) ?_
    exact tail ak al ar as u (64 * u) K L Rr S _ _ _ _ ls rfl hroom (capU_id (by omega)).symm h3c (fun g _ => ⟨rfl, rfl, rfl, rfl⟩) h11 (Nat.zero_le _) (Nat.zero_le _) hW hl
  · have hnu : n = 64 * u := by omega
    have hcu : capU u (n + 1) = 2 * u := by rw [capU_step (by omega) (by omega)]; exact capU_id (by omega)
    rw [hcu] at hRc hRs
    refine n_lt_f (tgt := 72) hx hb (by omega) (by omega) dX0_gate_9 (by decide) ?_
    refine lv_iconst (v := nI 2) hx hb dX0_gate_12 (by decide) ?_
    refine lv_aload_n hx hb dX0_gate_13 rfl (lv_at hl 0 rfl) ?_
    refine r_get hx hb hts hown hK (hW.at 0 rfl) rfl in_X0 4 (by decide) tb_50 (fun _ h => h) rfl dX0_gate_14 ?_
    refine n_imul hx hb dX0_gate_17 ?_
    refine lv_istore (lv' := [(4, .int (nI (2 * n))), (0, .ref hc), (1, .int (nI kd)), (2, .int (nI a)), (3, .int (nI b))]) hx hb dX0_gate_18 hl (by decide) rfl (fun ls hl => ?_)
    refine lv_aload_n hx hb dX0_gate_20 rfl (lv_at hl 1 rfl) ?_
    refine lv_aload_n hx hb dX0_gate_21 rfl (lv_at hl 1 rfl) ?_
    refine r_get hx hb hts hown hK (hW.at 0 rfl) rfl in_X0 0 (by decide) tb_46 (fun _ h => h) rfl dX0_gate_22 ?_
    refine lv_iload hx hb dX0_gate_25 (lv_at hl 0 rfl) ?_
    refine c_stat (As := [.ref ak, .int (nI (2 * n))]) (rest := [.ref hc]) (wc := []) (wr := [eo hc 0 [.ref ak, .ref al, .ref ar, .ref as, .int (nI n), .int (nI t)], ea Z ak (64 * u) K, ea Z al (64 * u) L, ea Z ar (64 * u) Rr, ea Z as (64 * u) S]) hx hb hml hown hts hK hG rfl hA hl (k_copyOf l Z ak (64 * u) (2 * n) K (by omega) (by omega)) hW (hW.at 1 rfl) tb_230 tb_231 tb_13 tb_232 (nA := 2) (by decide +kernel) rfl ⟨by omega, by omega⟩ ⟨by omega, by omega⟩ rfl (Nat.le_of_ble_eq_true rfl) dX0_gate_27 (fun v w1 H1 L1 hp hW hzz hkk hdd => ?_)
    obtain ⟨q1, f1, rfl, rfl, ef1⟩ := hp
    clear hzz hkk hdd
    generalize H1 = H at hW ⊢
    generalize L1 = locs at hW ⊢
    have hW : Wd Z A s.heap ([ea Z q1 (2 * n) f1, eo hc 0 [.ref ak, .ref al, .ref ar, .ref as, .int (nI n), .int (nI t)], ea Z ak (64 * u) K, ea Z al (64 * u) L, ea Z ar (64 * u) Rr, ea Z as (64 * u) S]) _ _ := hW
    refine W.eq (g2 := F0 m 30 ls [.ref q1, .ref hc]) rfl ?_
    refine r_put hx hb hts hown hK hW 1 (v := .ref q1) rfl rfl in_X0 tyX0 tyX0_ok nmX0 0 (by decide) tb_46 (fun _ h => h) rfl rfl rfl (Nat.le_of_ble_eq_true rfl) dX0_gate_30 (fun H locs hW => ?_)
    have hW : Wd Z A s.heap ([ea Z q1 (2 * n) f1, eo hc 0 [.ref q1, .ref al, .ref ar, .ref as, .int (nI n), .int (nI t)], ea Z ak (64 * u) K, ea Z al (64 * u) L, ea Z ar (64 * u) Rr, ea Z as (64 * u) S]) _ _ := hW
    refine lv_aload_n hx hb dX0_gate_33 rfl (lv_at hl 1 rfl) ?_
    refine lv_aload_n hx hb dX0_gate_34 rfl (lv_at hl 1 rfl) ?_
    refine r_get hx hb hts hown hK (hW.at 1 rfl) rfl in_X0 1 (by decide) tb_47 (fun _ h => h) rfl dX0_gate_35 ?_
    refine lv_iload hx hb dX0_gate_38 (lv_at hl 0 rfl) ?_
    refine c_stat (As := [.ref al, .int (nI (2 * n))]) (rest := [.ref hc]) (wc := []) (wr := [ea Z q1 (2 * n) f1, eo hc 0 [.ref q1, .ref al, .ref ar, .ref as, .int (nI n), .int (nI t)], ea Z ak (64 * u) K, ea Z al (64 * u) L, ea Z ar (64 * u) Rr, ea Z as (64 * u) S]) hx hb hml hown hts hK hG rfl hA hl (k_copyOf l Z al (64 * u) (2 * n) L (by omega) (by omega)) hW (hW.at 3 rfl) tb_230 tb_231 tb_13 tb_232 (nA := 2) (by decide +kernel) rfl ⟨by omega, by omega⟩ ⟨by omega, by omega⟩ rfl (Nat.le_of_ble_eq_true rfl) dX0_gate_40 (fun v w1 H1 L1 hp hW hzz hkk hdd => ?_)
    obtain ⟨q2, f2, rfl, rfl, ef2⟩ := hp
    clear hzz hkk hdd
    generalize H1 = H at hW ⊢
    generalize L1 = locs at hW ⊢
    have hW : Wd Z A s.heap ([ea Z q2 (2 * n) f2, ea Z q1 (2 * n) f1, eo hc 0 [.ref q1, .ref al, .ref ar, .ref as, .int (nI n), .int (nI t)], ea Z ak (64 * u) K, ea Z al (64 * u) L, ea Z ar (64 * u) Rr, ea Z as (64 * u) S]) _ _ := hW
    refine W.eq (g2 := F0 m 43 ls [.ref q2, .ref hc]) rfl ?_
    refine r_put hx hb hts hown hK hW 2 (v := .ref q2) rfl rfl in_X0 tyX0 tyX0_ok nmX0 1 (by decide) tb_47 (fun _ h => h) rfl rfl rfl (Nat.le_of_ble_eq_true rfl) dX0_gate_43 (fun H locs hW => ?_)
    have hW : Wd Z A s.heap ([ea Z q2 (2 * n) f2, ea Z q1 (2 * n) f1, eo hc 0 [.ref q1, .ref q2, .ref ar, .ref as, .int (nI n), .int (nI t)], ea Z ak (64 * u) K, ea Z al (64 * u) L, ea Z ar (64 * u) Rr, ea Z as (64 * u) S]) _ _ := hW
    refine lv_aload_n hx hb dX0_gate_46 rfl (lv_at hl 1 rfl) ?_
    refine lv_aload_n hx hb dX0_gate_47 rfl (lv_at hl 1 rfl) ?_
    refine r_get hx hb hts hown hK (hW.at 2 rfl) rfl in_X0 2 (by decide) tb_48 (fun _ h => h) rfl dX0_gate_48 ?_
    refine lv_iload hx hb dX0_gate_51 (lv_at hl 0 rfl) ?_
    refine c_stat (As := [.ref ar, .int (nI (2 * n))]) (rest := [.ref hc]) (wc := []) (wr := [ea Z q2 (2 * n) f2, ea Z q1 (2 * n) f1, eo hc 0 [.ref q1, .ref q2, .ref ar, .ref as, .int (nI n), .int (nI t)], ea Z ak (64 * u) K, ea Z al (64 * u) L, ea Z ar (64 * u) Rr, ea Z as (64 * u) S]) hx hb hml hown hts hK hG rfl hA hl (k_copyOf l Z ar (64 * u) (2 * n) Rr (by omega) (by omega)) hW (hW.at 5 rfl) tb_230 tb_231 tb_13 tb_232 (nA := 2) (by decide +kernel) rfl ⟨by omega, by omega⟩ ⟨by omega, by omega⟩ rfl (Nat.le_of_ble_eq_true rfl) dX0_gate_53 (fun v w1 H1 L1 hp hW hzz hkk hdd => ?_)
    obtain ⟨q3, f3, rfl, rfl, ef3⟩ := hp
    clear hzz hkk hdd
    generalize H1 = H at hW ⊢
    generalize L1 = locs at hW ⊢
    have hW : Wd Z A s.heap ([ea Z q3 (2 * n) f3, ea Z q2 (2 * n) f2, ea Z q1 (2 * n) f1, eo hc 0 [.ref q1, .ref q2, .ref ar, .ref as, .int (nI n), .int (nI t)], ea Z ak (64 * u) K, ea Z al (64 * u) L, ea Z ar (64 * u) Rr, ea Z as (64 * u) S]) _ _ := hW
    refine W.eq (g2 := F0 m 56 ls [.ref q3, .ref hc]) rfl ?_
    refine r_put hx hb hts hown hK hW 3 (v := .ref q3) rfl rfl in_X0 tyX0 tyX0_ok nmX0 2 (by decide) tb_48 (fun _ h => h) rfl rfl rfl (Nat.le_of_ble_eq_true rfl) dX0_gate_56 (fun H locs hW => ?_)
    have hW : Wd Z A s.heap ([ea Z q3 (2 * n) f3, ea Z q2 (2 * n) f2, ea Z q1 (2 * n) f1, eo hc 0 [.ref q1, .ref q2, .ref q3, .ref as, .int (nI n), .int (nI t)], ea Z ak (64 * u) K, ea Z al (64 * u) L, ea Z ar (64 * u) Rr, ea Z as (64 * u) S]) _ _ := hW
    refine lv_aload_n hx hb dX0_gate_59 rfl (lv_at hl 1 rfl) ?_
    refine lv_aload_n hx hb dX0_gate_60 rfl (lv_at hl 1 rfl) ?_
    refine r_get hx hb hts hown hK (hW.at 3 rfl) rfl in_X0 3 (by decide) tb_49 (fun _ h => h) rfl dX0_gate_61 ?_
    refine lv_iload hx hb dX0_gate_64 (lv_at hl 0 rfl) ?_
    refine c_stat (As := [.ref as, .int (nI (2 * n))]) (rest := [.ref hc]) (wc := []) (wr := [ea Z q3 (2 * n) f3, ea Z q2 (2 * n) f2, ea Z q1 (2 * n) f1, eo hc 0 [.ref q1, .ref q2, .ref q3, .ref as, .int (nI n), .int (nI t)], ea Z ak (64 * u) K, ea Z al (64 * u) L, ea Z ar (64 * u) Rr, ea Z as (64 * u) S]) hx hb hml hown hts hK hG rfl hA hl (k_copyOf l Z as (64 * u) (2 * n) S (by omega) (by omega)) hW (hW.at 7 rfl) tb_230 tb_231 tb_13 tb_232 (nA := 2) (by decide +kernel) rfl ⟨by omega, by omega⟩ ⟨by omega, by omega⟩ rfl (Nat.le_of_ble_eq_true rfl) dX0_gate_66 (fun v w1 H1 L1 hp hW hzz hkk hdd => ?_)
    obtain ⟨q4, f4, rfl, rfl, ef4⟩ := hp
    clear hzz hkk hdd
    generalize H1 = H at hW ⊢
    generalize L1 = locs at hW ⊢
    have hW : Wd Z A s.heap ([ea Z q4 (2 * n) f4, ea Z q3 (2 * n) f3, ea Z q2 (2 * n) f2, ea Z q1 (2 * n) f1, eo hc 0 [.ref q1, .ref q2, .ref q3, .ref as, .int (nI n), .int (nI t)], ea Z ak (64 * u) K, ea Z al (64 * u) L, ea Z ar (64 * u) Rr, ea Z as (64 * u) S]) _ _ := hW
    refine W.eq (g2 := F0 m 69 ls [.ref q4, .ref hc]) rfl ?_
    refine r_put hx hb hts hown hK hW 4 (v := .ref q4) rfl rfl in_X0 tyX0 tyX0_ok nmX0 3 (by decide) tb_49 (fun _ h => h) rfl rfl rfl (Nat.le_of_ble_eq_true rfl) dX0_gate_69 (fun H locs hW => ?_)
    have hW : Wd Z A s.heap ([ea Z q4 (2 * n) f4, ea Z q3 (2 * n) f3, ea Z q2 (2 * n) f2, ea Z q1 (2 * n) f1, eo hc 0 [.ref q1, .ref q2, .ref q3, .ref q4, .int (nI n), .int (nI t)], ea Z ak (64 * u) K, ea Z al (64 * u) L, ea Z ar (64 * u) Rr, ea Z as (64 * u) S]) _ _ := hW
    have hle : ∀ g, g < n → g < 2 * n ∧ g < 64 * u := fun g hg => by omega
    refine tail q1 q2 q3 q4 (2 * u) (2 * n) f1 f2 f3 f4 _ _ _ _ ls (by omega) (by omega) hcu.symm (by omega) (fun g hg => ⟨?_, ?_, ?_, ?_⟩) (fun g g1 g2 => ?_) (by rw [hcu]; omega) (by rw [hcu]; omega) (hW.sub [4, 3, 2, 1, 0] (by decide) rfl) (lv_sub hl [1, 2, 3, 4] rfl)
    · rw [ef1 g (hle g hg).1, if_pos (hle g hg).2]
    · rw [ef2 g (hle g hg).1, if_pos (hle g hg).2]
    · rw [ef3 g (hle g hg).1, if_pos (hle g hg).2]
    · rw [ef4 g (hle g hg).1, if_pos (hle g hg).2]
    · rw [ef4 g g2, if_neg (by omega)]
end
section
set_option maxHeartbeats 4000000 in
set_option maxRecDepth 100000 in
/-- Circuit.and -/
theorem k_and (l : Launch) (Z : Zt) (hc : Nat) (x : CS) (σ : Nat → Bool) (a b : Nat) (hx0 : cok x σ) (ha : a < xn x) (hbb : b < xn x) (hn : xn x < 400000) : MC l yX0_and cX0_and 3 (some .int) 4 180 (4 * (capU (xu x) (xn x + 1) - xu x)) (512 * (capU (xu x) (xn x + 1) - xu x)) Z (cw Z hc x) (fun _ => True) [.ref hc, .int (nI a), .int (nI b)] (gateQ Z hc x σ 1 a b) := by
  refine mc_of (by decide) (Nat.le_of_ble_eq_true rfl) (fun p e s m below meth c ls A hx hb hr hts hown hlk hml hin hK hG hW hA hAe hro hl R hRf hRc hRs hRl => ?_)
  have hl : lv_has ls 3 [(0, .ref hc), (1, .int (nI a)), (2, .int (nI b))] := hl
  have hW : Wd Z A s.heap (cw Z hc x ++ []) _ _ := hW
  refine lv_aload_n hx hb dX0_and_0 rfl (lv_at hl 0 rfl) ?_
  refine lv_iconst (v := nI 1) hx hb dX0_and_1 (by decide) ?_
  refine lv_iload_n hx hb dX0_and_2 rfl (lv_at hl 1 rfl) ?_
  refine lv_iload_n hx hb dX0_and_3 rfl (lv_at hl 2 rfl) ?_
  refine c_virt (As := [.int (nI 1), .int (nI a), .int (nI b)]) (rest := []) (wc := cw Z hc x) (wr := []) (nl := 0) hx hb hml hown hts hK hG rfl hA hl (k_gate l Z hc x σ 1 a b hx0 (by omega) ha hbb (by omega) hn) hW trivial (hW.at 0 rfl) rfl rfl tb_226 tb_227 tb_228 tb_3 tb_229 (nA := 3) (by decide +kernel) rfl ⟨by omega, by omega⟩ ⟨by omega, by omega⟩ rfl (Nat.le_of_ble_eq_true rfl) dX0_and_4 (fun v w1 H1 L1 hp hW hzz hkk hdd => ?_)
  obtain ⟨x1, rfl, rfl, hp1⟩ := hp
  clear hzz hkk hdd
  generalize H1 = H at hW ⊢
  generalize L1 = locs at hW ⊢
  have hW : Wd Z A s.heap (cw Z hc x1) _ _ := hW
  refine W.eq (g2 := F0 m 7 ls [.int (nI (xn x))]) rfl ?_
  exact e_int hx hb hr hlk hAe hW (by omega) (by omega) dX0_and_7 ⟨x1, rfl, rfl, hp1⟩
set_option maxHeartbeats 4000000 in
set_option maxRecDepth 100000 in
/-- Circuit.or -/
theorem k_or (l : Launch) (Z : Zt) (hc : Nat) (x : CS) (σ : Nat → Bool) (a b : Nat) (hx0 : cok x σ) (ha : a < xn x) (hbb : b < xn x) (hn : xn x < 400000) : MC l yX0_or cX0_or 3 (some .int) 4 180 (4 * (capU (xu x) (xn x + 1) - xu x)) (512 * (capU (xu x) (xn x + 1) - xu x)) Z (cw Z hc x) (fun _ => True) [.ref hc, .int (nI a), .int (nI b)] (gateQ Z hc x σ 2 a b) := by
  refine mc_of (by decide) (Nat.le_of_ble_eq_true rfl) (fun p e s m below meth c ls A hx hb hr hts hown hlk hml hin hK hG hW hA hAe hro hl R hRf hRc hRs hRl => ?_)
  have hl : lv_has ls 3 [(0, .ref hc), (1, .int (nI a)), (2, .int (nI b))] := hl
  have hW : Wd Z A s.heap (cw Z hc x ++ []) _ _ := hW
  refine lv_aload_n hx hb dX0_or_0 rfl (lv_at hl 0 rfl) ?_
  refine lv_iconst (v := nI 2) hx hb dX0_or_1 (by decide) ?_
  refine lv_iload_n hx hb dX0_or_2 rfl (lv_at hl 1 rfl) ?_
  refine lv_iload_n hx hb dX0_or_3 rfl (lv_at hl 2 rfl) ?_
  refine c_virt (As := [.int (nI 2), .int (nI a), .int (nI b)]) (rest := []) (wc := cw Z hc x) (wr := []) (nl := 0) hx hb hml hown hts hK hG rfl hA hl (k_gate l Z hc x σ 2 a b hx0 (by omega) ha hbb (by omega) hn) hW trivial (hW.at 0 rfl) rfl rfl tb_226 tb_227 tb_228 tb_3 tb_229 (nA := 3) (by decide +kernel) rfl ⟨by omega, by omega⟩ ⟨by omega, by omega⟩ rfl (Nat.le_of_ble_eq_true rfl) dX0_or_4 (fun v w1 H1 L1 hp hW hzz hkk hdd => ?_)
  obtain ⟨x1, rfl, rfl, hp1⟩ := hp
  clear hzz hkk hdd
  generalize H1 = H at hW ⊢
  generalize L1 = locs at hW ⊢
  have hW : Wd Z A s.heap (cw Z hc x1) _ _ := hW
  refine W.eq (g2 := F0 m 7 ls [.int (nI (xn x))]) rfl ?_
  exact e_int hx hb hr hlk hAe hW (by omega) (by omega) dX0_or_7 ⟨x1, rfl, rfl, hp1⟩
set_option maxHeartbeats 4000000 in
set_option maxRecDepth 100000 in
/-- Circuit.xor -/
theorem k_xor (l : Launch) (Z : Zt) (hc : Nat) (x : CS) (σ : Nat → Bool) (a b : Nat) (hx0 : cok x σ) (ha : a < xn x) (hbb : b < xn x) (hn : xn x < 400000) : MC l yX0_xor cX0_xor 3 (some .int) 4 180 (4 * (capU (xu x) (xn x + 1) - xu x)) (512 * (capU (xu x) (xn x + 1) - xu x)) Z (cw Z hc x) (fun _ => True) [.ref hc, .int (nI a), .int (nI b)] (gateQ Z hc x σ 3 a b) := by
  refine mc_of (by decide) (Nat.le_of_ble_eq_true rfl) (fun p e s m below meth c ls A hx hb hr hts hown hlk hml hin hK hG hW hA hAe hro hl R hRf hRc hRs hRl => ?_)
  have hl : lv_has ls 3 [(0, .ref hc), (1, .int (nI a)), (2, .int (nI b))] := hl
  have hW : Wd Z A s.heap (cw Z hc x ++ []) _ _ := hW
  refine lv_aload_n hx hb dX0_xor_0 rfl (lv_at hl 0 rfl) ?_
  refine lv_iconst (v := nI 3) hx hb dX0_xor_1 (by decide) ?_
  refine lv_iload_n hx hb dX0_xor_2 rfl (lv_at hl 1 rfl) ?_
  refine lv_iload_n hx hb dX0_xor_3 rfl (lv_at hl 2 rfl) ?_
  refine c_virt (As := [.int (nI 3), .int (nI a), .int (nI b)]) (rest := []) (wc := cw Z hc x) (wr := []) (nl := 0) hx hb hml hown hts hK hG rfl hA hl (k_gate l Z hc x σ 3 a b hx0 (by omega) ha hbb (by omega) hn) hW trivial (hW.at 0 rfl) rfl rfl tb_226 tb_227 tb_228 tb_3 tb_229 (nA := 3) (by decide +kernel) rfl ⟨by omega, by omega⟩ ⟨by omega, by omega⟩ rfl (Nat.le_of_ble_eq_true rfl) dX0_xor_4 (fun v w1 H1 L1 hp hW hzz hkk hdd => ?_)
  obtain ⟨x1, rfl, rfl, hp1⟩ := hp
  clear hzz hkk hdd
  generalize H1 = H at hW ⊢
  generalize L1 = locs at hW ⊢
  have hW : Wd Z A s.heap (cw Z hc x1) _ _ := hW
  refine W.eq (g2 := F0 m 7 ls [.int (nI (xn x))]) rfl ?_
  exact e_int hx hb hr hlk hAe hW (by omega) (by omega) dX0_xor_7 ⟨x1, rfl, rfl, hp1⟩
set_option maxHeartbeats 4000000 in
set_option maxRecDepth 100000 in
/-- Circuit.not -/
theorem k_not (l : Launch) (Z : Zt) (hc : Nat) (x : CS) (σ : Nat → Bool) (a : Nat) (hx0 : cok x σ) (ha : a < xn x) (hn : xn x < 400000) : MC l yX0_not cX0_not 2 (some .int) 4 180 (4 * (capU (xu x) (xn x + 1) - xu x)) (512 * (capU (xu x) (xn x + 1) - xu x)) Z (cw Z hc x) (fun _ => True) [.ref hc, .int (nI a)] (gateQ Z hc x σ 3 a 1) := by
  refine mc_of (by decide) (Nat.le_of_ble_eq_true rfl) (fun p e s m below meth c ls A hx hb hr hts hown hlk hml hin hK hG hW hA hAe hro hl R hRf hRc hRs hRl => ?_)
  have hl : lv_has ls 2 [(0, .ref hc), (1, .int (nI a))] := hl
  have hW : Wd Z A s.heap (cw Z hc x ++ []) _ _ := hW
  refine lv_aload_n hx hb dX0_not_0 rfl (lv_at hl 0 rfl) ?_
  refine lv_iconst (v := nI 3) hx hb dX0_not_1 (by decide) ?_
  refine lv_iload_n hx hb dX0_not_2 rfl (lv_at hl 1 rfl) ?_
  refine lv_iconst (v := nI 1) hx hb dX0_not_3 (by decide) ?_
  refine c_virt (As := [.int (nI 3), .int (nI a), .int (nI 1)]) (rest := []) (wc := cw Z hc x) (wr := []) (nl := 0) hx hb hml hown hts hK hG rfl hA hl (k_gate l Z hc x σ 3 a 1 hx0 (by omega) ha (by have := hx0.1; omega) (by omega) hn) hW trivial (hW.at 0 rfl) rfl rfl tb_226 tb_227 tb_228 tb_3 tb_229 (nA := 3) (by decide +kernel) rfl ⟨by omega, by omega⟩ ⟨by omega, by omega⟩ rfl (Nat.le_of_ble_eq_true rfl) dX0_not_4 (fun v w1 H1 L1 hp hW hzz hkk hdd => ?_)
  obtain ⟨x1, rfl, rfl, hp1⟩ := hp
  clear hzz hkk hdd
  generalize H1 = H at hW ⊢
  generalize L1 = locs at hW ⊢
  have hW : Wd Z A s.heap (cw Z hc x1) _ _ := hW
  refine W.eq (g2 := F0 m 7 ls [.int (nI (xn x))]) rfl ?_
  exact e_int hx hb hr hlk hAe hW (by omega) (by omega) dX0_not_7 ⟨x1, rfl, rfl, hp1⟩
set_option maxHeartbeats 4000000 in
set_option maxRecDepth 100000 in
/-- Circuit.source -/
theorem k_source (l : Launch) (Z : Zt) (hc : Nat) (x : CS) (σ : Nat → Bool)  (hx0 : cok x σ) (hn : xn x < 400000) : MC l yX0_source cX0_source 1 (some .int) 4 180 (4 * (capU (xu x) (xn x + 1) - xu x)) (512 * (capU (xu x) (xn x + 1) - xu x)) Z (cw Z hc x) (fun _ => True) [.ref hc] (gateQ Z hc x σ 0 0 0) := by
  refine mc_of (by decide) (Nat.le_of_ble_eq_true rfl) (fun p e s m below meth c ls A hx hb hr hts hown hlk hml hin hK hG hW hA hAe hro hl R hRf hRc hRs hRl => ?_)
  have hl : lv_has ls 1 [(0, .ref hc)] := hl
  have hW : Wd Z A s.heap (cw Z hc x ++ []) _ _ := hW
  refine lv_aload_n hx hb dX0_source_0 rfl (lv_at hl 0 rfl) ?_
  refine lv_iconst (v := nI 0) hx hb dX0_source_1 (by decide) ?_
  refine lv_iconst (v := nI 0) hx hb dX0_source_2 (by decide) ?_
  refine lv_iconst (v := nI 0) hx hb dX0_source_3 (by decide) ?_
  refine c_virt (As := [.int (nI 0), .int (nI 0), .int (nI 0)]) (rest := []) (wc := cw Z hc x) (wr := []) (nl := 0) hx hb hml hown hts hK hG rfl hA hl (k_gate l Z hc x σ 0 0 0 hx0 (by omega) (by have := hx0.1; omega) (by have := hx0.1; omega) (fun _ => ⟨rfl, rfl⟩) hn) hW trivial (hW.at 0 rfl) rfl rfl tb_226 tb_227 tb_228 tb_3 tb_229 (nA := 3) (by decide +kernel) rfl ⟨by omega, by omega⟩ ⟨by omega, by omega⟩ rfl (Nat.le_of_ble_eq_true rfl) dX0_source_4 (fun v w1 H1 L1 hp hW hzz hkk hdd => ?_)
  obtain ⟨x1, rfl, rfl, hp1⟩ := hp
  clear hzz hkk hdd
  generalize H1 = H at hW ⊢
  generalize L1 = locs at hW ⊢
  have hW : Wd Z A s.heap (cw Z hc x1) _ _ := hW
  refine W.eq (g2 := F0 m 7 ls [.int (nI (xn x))]) rfl ?_
  exact e_int hx hb hr hlk hAe hW (by omega) (by omega) dX0_source_7 ⟨x1, rfl, rfl, hp1⟩
end
section
/-! rows of signals, steps of k gates -/
def rn (x : CS) (τ : Nat → Bool) (r : Nat → Nat) (i : Nat) : Nat := bn (fun j => vl x τ (r j)) i
theorem rn_s (x : CS) (τ : Nat → Bool) (r : Nat → Nat) (i : Nat) : rn x τ r (i + 1) = rn x τ r i + (vl x τ (r i)).toNat * 2 ^ i := rfl
theorem rn_lt (x : CS) (τ : Nat → Bool) (r : Nat → Nat) (i : Nat) : rn x τ r i < 2 ^ i := bn_lt _ _
theorem rn_ex {x y : CS} (h : cex x y) {τ : Nat → Bool} {r : Nat → Nat} {i : Nat} (hr : ∀ j, j < i → r j < xn x) : rn y τ r i = rn x τ r i := bn_congr (fun j hj => h.vl (hr j hj))
theorem rn_congr {x : CS} {τ : Nat → Bool} {r r' : Nat → Nat} {i : Nat} (hr : ∀ j, j < i → r j = r' j) : rn x τ r i = rn x τ r' i := bn_congr (fun j hj => by rw [hr j hj])
theorem rn_up (x : CS) (τ : Nat → Bool) (r : Nat → Nat) (i v : Nat) : rn x τ (up r i v) (i + 1) = rn x τ r i + (vl x τ v).toNat * 2 ^ i := by
  rw [rn_s, up_s, rn_congr (r' := r) (fun j hj => up_n _ _ (by omega))]
/-- k gates were added -/
def stp (x : CS) (σ : Nat → Bool) (k : Nat) (y : CS) : Prop := cok y σ ∧ cex x y ∧ xn y = xn x + k ∧ xu y = capU (xu x) (xn x + k)
theorem stp.rf {x : CS} {σ : Nat → Bool} (h : cok x σ) : stp x σ 0 x := ⟨h, cex.rf x, rfl, (capU_id h.1.2.2.1).symm⟩
theorem stp.tr {x y z : CS} {σ : Nat → Bool} {k j : Nat} (h : stp x σ k y) (g : stp y σ j z) : stp x σ (k + j) z := ⟨g.1, h.2.1.tr g.2.1, by rw [g.2.2.1, h.2.2.1, Nat.add_assoc], by rw [g.2.2.2, h.2.2.1, h.2.2.2, Nat.add_assoc]; exact capU_comp _ _ _ (by omega)⟩
theorem stp.of {x y : CS} {σ : Nat → Bool} {kd a b : Nat} (g : gpost x σ kd a b y) : stp x σ 1 y := ⟨g.1, g.2.2.2.2.1, g.2.1, g.2.2.2.1⟩
theorem stp.g {x y z : CS} {σ : Nat → Bool} {k kd a b : Nat} (h : stp x σ k y) (g : gpost y σ kd a b z) : stp x σ (k + 1) z := h.tr (stp.of g)
/-- what a call of j gates may cost, when K are allowed in all -/
theorem stp.cost {x y : CS} {σ : Nat → Bool} {k : Nat} (h : stp x σ k y) {j K : Nat} (hK : k + j ≤ K) : xu x ≤ xu y ∧ xu y ≤ capU (xu y) (xn y + j) ∧ capU (xu y) (xn y + j) ≤ capU (xu x) (xn x + K) := by
  refine ⟨by rw [h.2.2.2]; exact capU_le _ _, capU_le _ _, ?_⟩
  rw [h.2.2.1, h.2.2.2, Nat.add_assoc, capU_comp _ _ _ (by omega)]
  exact capU_mono _ _ _ (by omega)
theorem gval {x y z : CS} {σ : Nat → Bool} {kd a b : Nat} (g : gpost x σ kd a b y) (hk : kd ≠ 0) (h : cex y z) (ha : a < xn x) (hb : b < xn x) (τ : Nat → Bool) : vl z τ (xn x) = c_op kd (vl z τ a) (vl z τ b) := by
  have hx := g.2.2.2.2.1.tr h
  rw [hx.vl ha, hx.vl hb, h.vl (by rw [g.2.1]; omega), g.2.2.2.2.2.1 τ, if_neg hk]
theorem c_op3 (a b : Bool) : c_op 3 a b = (a ^^ b) := rfl
theorem c_op2 (a b : Bool) : c_op 2 a b = (a || b) := rfl
theorem c_op1 (a b : Bool) : c_op 1 a b = (a && b) := rfl
end
section
def sumQ (Z : Zt) (hc : Nat) (x : CS) (σ : Nat → Bool) (w : Nat) (ra rb : Nat → Nat) (cy : Nat) (v : Option Value) (w1 : va_W) : Prop := ∃ (y : CS) (q : Nat) (f : Nat → Nat), v = some (.ref q) ∧ w1 = cw Z hc y ++ [ea Z q (w + 1) f] ∧ stp x σ (5 * w) y ∧ (∀ j, j < w + 1 → f j < xn y) ∧ ∀ τ, gd τ → rn y τ f (w + 1) = rn x τ ra w + rn x τ rb w + (vl x τ cy).toNat
set_option maxHeartbeats 4000000 in
set_option maxRecDepth 100000 in
/-- Reckoner.sum -/
theorem k_sum (l : Launch) (Z : Zt) (hk hc : Nat) (x : CS) (σ : Nat → Bool) (aa ab w wb : Nat) (ra rb : Nat → Nat) (cy : Nat) (hx0 : cok x σ) (hn : xn x + 5 * w < 400000) (hw : w ≤ 64) (hwb : w ≤ wb) (hwb2 : wb ≤ 65) (hra : ∀ j, j < w → ra j < xn x) (hrb : ∀ j, j < w → rb j < xn x) (hcy : cy < xn x) : MC l yX1_sum cX1_sum 8 (some (.array .int)) 5 220 (1 + 4 * (capU (xu x) (xn x + 5 * w) - xu x)) (w + 1 + 512 * (capU (xu x) (xn x + 5 * w) - xu x)) Z (cw Z hc x) (fun H => RO Z (cw Z hc x) (eo hk 1 [.ref hc]) H ∧ RO Z (cw Z hc x) (ea Z aa w ra) H ∧ RO Z (cw Z hc x) (ea Z ab wb rb) H) [.ref hk, .ref aa, .ref ab, .int (nI cy)] (sumQ Z hc x σ w ra rb cy) := by
  refine mc_of (by decide) (Nat.le_of_ble_eq_true rfl) (fun p e s m below meth c ls A hx hb hr hts hown hlk hml hin hK hG hW hA hAe hro hl R hRf hRc hRs hRl => ?_)
  have hl : lv_has ls 8 [(0, .ref hk), (1, .ref aa), (2, .ref ab), (3, .int (nI cy))] := hl
  have hW : Wd Z A s.heap (cw Z hc x ++ []) _ _ := hW
  obtain ⟨KK, hKK⟩ : ∃ k, k = 5 * w := ⟨_, rfl⟩
  rw [← hKK] at hRc hRs
  have loop : ∀ (d i : Nat) (y : CS) (q : Nat) (row : Nat → Nat) (cin : Nat) (H : Heap) (locs : List Loc) (cl sl : Nat) (ls : Array Slot), i + d = w → stp x σ (5 * i) y → cin < xn y → (∀ j, j < i → row j < xn y) → (∀ τ, gd τ → rn y τ row i + (vl y τ cin).toNat * 2 ^ i = rn x τ ra i + rn x τ rb i + (vl x τ cy).toNat) → cl = 1 + 4 * (xu y - xu x) → sl = w + 1 + 512 * (xu y - xu x) → Wd Z A s.heap (cw Z hc y ++ [ea Z q (w + 1) row]) H locs → lv_has ls 8 [(0, .ref hk), (1, .ref aa), (2, .ref ab), (4, .ref q), (5, .int (nI cin)), (6, .int (nI i))] → W p l e R s m ([.ref hk, .ref aa, .ref ab, .int (nI cy)] : List Value).toArray below meth c H locs cl sl (MQ below (QC Z (cw Z hc x) s.heap.size (sumQ Z hc x σ w ra rb cy)) ([.ref hk, .ref aa, .ref ab, .int (nI cy)] : List Value).toArray s (1 + 4 * (capU (xu x) (xn x + 5 * w) - xu x)) (w + 1 + 512 * (capU (xu x) (xn x + 5 * w) - xu x)) A) (F0 m 14 ls []) := by
    intro d
    induction d with
    | zero =>
      intro i y q row cin H locs cl sl ls hid hy hcin hrow hsem hcl hsl hW hl
      have hi : i = w := by omega
      subst hi
      refine lv_iload hx hb dX1_sum_14 (lv_at hl 5 rfl) ?_
      refine lv_aload_n hx hb dX1_sum_16 rfl (lv_at hl 1 rfl) ?_
      refine r_len hx hb hK (hro.2.1.here hAe hW) dX1_sum_17 ?_
      refine n_ge_t (tgt := 95) hx hb (by omega) (by omega) dX1_sum_18 (by decide) ?_
      refine lv_aload hx hb dX1_sum_95 (lv_at hl 3 rfl) ?_
      refine lv_aload_n hx hb dX1_sum_97 rfl (lv_at hl 1 rfl) ?_
      refine r_len hx hb hK (hro.2.1.here hAe hW) dX1_sum_98 ?_
      refine lv_iload hx hb dX1_sum_99 (lv_at hl 4 rfl) ?_
      refine r_ast (i := i) (x := cin) hx hb hK hW 5 rfl (by omega) (by omega) dX1_sum_101 (fun H locs hW => ?_)
      have hW : Wd Z A s.heap (cw Z hc y ++ [ea Z q (i + 1) (up row i cin)]) _ _ := hW
      refine lv_aload hx hb dX1_sum_102 (lv_at hl 3 rfl) ?_
      have hco := hy.cost (j := 0) (K := KK) (by omega)
      have hW : Wd Z A s.heap (cw Z hc y ++ [ea Z q (i + 1) (up row i cin)]) _ _ := hW
      rw [hKK] at hco hRc hRs
      refine e_ref hx hb hr (Or.inr ⟨_, rfl⟩) hlk hAe hW (by have := hy.2.2.2; omega) (by have := hy.2.2.2; omega) dX1_sum_104 ⟨y, q, up row i cin, rfl, rfl, hy, fun j hj => ?_, fun τ hτ => ?_⟩
      · by_cases e : j = i
        · subst e; rw [up_s]; exact hcin
        · rw [up_n _ _ e]; exact hrow j (by omega)
      · rw [rn_up]; exact hsem τ hτ
    | succ d ih =>
      intro i y q row cin H locs cl sl ls hid hy hcin hrow hsem hcl hsl hW hl
      have hra_i := hra i (by omega)
      have hrb_i := hrb i (by omega)
      have hny := hy.2.2.1
      refine lv_iload hx hb dX1_sum_14 (lv_at hl 5 rfl) ?_
      refine lv_aload_n hx hb dX1_sum_16 rfl (lv_at hl 1 rfl) ?_
      refine r_len hx hb hK (hro.2.1.here hAe hW) dX1_sum_17 ?_
      refine n_ge_f (tgt := 95) hx hb (by omega) (by omega) dX1_sum_18 (by decide) ?_
      refine lv_aload_n hx hb dX1_sum_21 rfl (lv_at hl 0 rfl) ?_
      refine r_get hx hb hts hown hK (hro.1.here hAe hW) rfl in_X1 0 (by decide) tb_66 (fun _ h => h) rfl dX1_sum_22 ?_
      refine lv_aload_n hx hb dX1_sum_25 rfl (lv_at hl 1 rfl) ?_
      refine lv_iload hx hb dX1_sum_26 (lv_at hl 5 rfl) ?_
      refine r_ald (i := i) hx hb hK (hro.2.1.here hAe hW) (by omega) (by omega) dX1_sum_28 ?_
      refine lv_aload_n hx hb dX1_sum_29 rfl (lv_at hl 2 rfl) ?_
      refine lv_iload hx hb dX1_sum_30 (lv_at hl 5 rfl) ?_
      refine r_ald (i := i) hx hb hK (hro.2.2.here hAe hW) (by omega) (by omega) dX1_sum_32 ?_
      have hsy := hy
      have hco := hy.cost (j := 1) (K := KK) (by omega)
      refine c_virt (As := [.int (nI (ra i)), .int (nI (rb i))]) (rest := []) (wc := cw Z hc y) (wr := [ea Z q (w + 1) row]) (nl := 0) hx hb hml hown hts hK hG rfl hA hl (k_xor l Z hc y σ (ra i) (rb i) hy.1 (by omega) (by omega) (by omega)) hW trivial (hW.at 0 rfl) rfl rfl tb_368 tb_369 tb_370 tb_3 tb_371 (nA := 2) (by decide +kernel) rfl ⟨by omega, by omega⟩ ⟨by omega, by omega⟩ rfl (Nat.le_of_ble_eq_true rfl) dX1_sum_33 (fun v w1 H1 L1 hp hW hzz hkk hdd => ?_)
      obtain ⟨y1, rfl, rfl, gy1⟩ := hp
      clear hzz hkk hdd
      generalize H1 = H at hW ⊢
      generalize L1 = locs at hW ⊢
      have hW : Wd Z A s.heap (cw Z hc y1 ++ [ea Z q (w + 1) row]) _ _ := hW
      refine W.eq (g2 := F0 m 36 ls [.int (nI (xn y))]) rfl ?_
      have hy1 := hy.g gy1
      have hny1 := hy1.2.2.1
      have huy1 := (stp.of gy1).2.2.2
      refine lv_istore (lv' := [(7, .int (nI (xn y))), (0, .ref hk), (1, .ref aa), (2, .ref ab), (4, .ref q), (5, .int (nI cin)), (6, .int (nI i))]) hx hb dX1_sum_36 hl (by decide) rfl (fun ls hl => ?_)
      refine lv_aload hx hb dX1_sum_38 (lv_at hl 4 rfl) ?_
      refine lv_iload hx hb dX1_sum_40 (lv_at hl 6 rfl) ?_
      refine lv_aload_n hx hb dX1_sum_42 rfl (lv_at hl 1 rfl) ?_
      refine r_get hx hb hts hown hK (hro.1.here hAe hW) rfl in_X1 0 (by decide) tb_66 (fun _ h => h) rfl dX1_sum_43 ?_
      refine lv_iload hx hb dX1_sum_46 (lv_at hl 0 rfl) ?_
      refine lv_iload hx hb dX1_sum_48 (lv_at hl 5 rfl) ?_
      have hsy1 := hy1
      have hco := hy1.cost (j := 1) (K := KK) (by omega)
      refine c_virt (As := [.int (nI (xn y)), .int (nI cin)]) (rest := [.int (nI i), .ref q]) (wc := cw Z hc y1) (wr := [ea Z q (w + 1) row]) (nl := 0) hx hb hml hown hts hK hG rfl hA hl (k_xor l Z hc y1 σ (xn y) cin hy1.1 (by omega) (by omega) (by omega)) hW trivial (hW.at 0 rfl) rfl rfl tb_368 tb_369 tb_370 tb_3 tb_371 (nA := 2) (by decide +kernel) rfl ⟨by omega, by omega⟩ ⟨by omega, by omega⟩ rfl (Nat.le_of_ble_eq_true rfl) dX1_sum_50 (fun v w1 H1 L1 hp hW hzz hkk hdd => ?_)
      obtain ⟨y2, rfl, rfl, gy2⟩ := hp
      clear hzz hkk hdd
      generalize H1 = H at hW ⊢
      generalize L1 = locs at hW ⊢
      have hW : Wd Z A s.heap (cw Z hc y2 ++ [ea Z q (w + 1) row]) _ _ := hW
      refine W.eq (g2 := F0 m 53 ls [.int (nI (xn y1)), .int (nI i), .ref q]) rfl ?_
      have hy2 := hy1.g gy2
      have hny2 := hy2.2.2.1
      have huy2 := (stp.of gy2).2.2.2
      refine r_ast (i := i) (x := (xn y1)) hx hb hK hW 5 rfl (by omega) (by omega) dX1_sum_53 (fun H locs hW => ?_)
      have hW : Wd Z A s.heap (cw Z hc y2 ++ [ea Z q (w + 1) (up row i (xn y1))]) _ _ := hW
      refine lv_aload_n hx hb dX1_sum_54 rfl (lv_at hl 1 rfl) ?_
      refine r_get hx hb hts hown hK (hro.1.here hAe hW) rfl in_X1 0 (by decide) tb_66 (fun _ h => h) rfl dX1_sum_55 ?_
      refine lv_aload_n hx hb dX1_sum_58 rfl (lv_at hl 1 rfl) ?_
      refine r_get hx hb hts hown hK (hro.1.here hAe hW) rfl in_X1 0 (by decide) tb_66 (fun _ h => h) rfl dX1_sum_59 ?_
      refine lv_aload_n hx hb dX1_sum_62 rfl (lv_at hl 2 rfl) ?_
      refine lv_iload hx hb dX1_sum_63 (lv_at hl 6 rfl) ?_
      refine r_ald (i := i) hx hb hK (hro.2.1.here hAe hW) (by omega) (by omega) dX1_sum_65 ?_
      refine lv_aload_n hx hb dX1_sum_66 rfl (lv_at hl 3 rfl) ?_
      refine lv_iload hx hb dX1_sum_67 (lv_at hl 6 rfl) ?_
      refine r_ald (i := i) hx hb hK (hro.2.2.here hAe hW) (by omega) (by omega) dX1_sum_69 ?_
      have hsy2 := hy2
      have hco := hy2.cost (j := 1) (K := KK) (by omega)
      refine c_virt (As := [.int (nI (ra i)), .int (nI (rb i))]) (rest := [.ref hc]) (wc := cw Z hc y2) (wr := [ea Z q (w + 1) (up row i (xn y1))]) (nl := 0) hx hb hml hown hts hK hG rfl hA hl (k_and l Z hc y2 σ (ra i) (rb i) hy2.1 (by omega) (by omega) (by omega)) hW trivial (hW.at 0 rfl) rfl rfl tb_376 tb_377 tb_378 tb_3 tb_379 (nA := 2) (by decide +kernel) rfl ⟨by omega, by omega⟩ ⟨by omega, by omega⟩ rfl (Nat.le_of_ble_eq_true rfl) dX1_sum_70 (fun v w1 H1 L1 hp hW hzz hkk hdd => ?_)
      obtain ⟨y3, rfl, rfl, gy3⟩ := hp
      clear hzz hkk hdd
      generalize H1 = H at hW ⊢
      generalize L1 = locs at hW ⊢
      have hW : Wd Z A s.heap (cw Z hc y3 ++ [ea Z q (w + 1) (up row i (xn y1))]) _ _ := hW
      refine W.eq (g2 := F0 m 73 ls [.int (nI (xn y2)), .ref hc]) rfl ?_
      have hy3 := hy2.g gy3
      have hny3 := hy3.2.2.1
      have huy3 := (stp.of gy3).2.2.2
      refine lv_aload_n hx hb dX1_sum_73 rfl (lv_at hl 1 rfl) ?_
      refine r_get hx hb hts hown hK (hro.1.here hAe hW) rfl in_X1 0 (by decide) tb_66 (fun _ h => h) rfl dX1_sum_74 ?_
      refine lv_iload hx hb dX1_sum_77 (lv_at hl 0 rfl) ?_
      refine lv_iload hx hb dX1_sum_79 (lv_at hl 5 rfl) ?_
      have hsy3 := hy3
      have hco := hy3.cost (j := 1) (K := KK) (by omega)
      refine c_virt (As := [.int (nI (xn y)), .int (nI cin)]) (rest := [.int (nI (xn y2)), .ref hc]) (wc := cw Z hc y3) (wr := [ea Z q (w + 1) (up row i (xn y1))]) (nl := 0) hx hb hml hown hts hK hG rfl hA hl (k_and l Z hc y3 σ (xn y) cin hy3.1 (by omega) (by omega) (by omega)) hW trivial (hW.at 0 rfl) rfl rfl tb_376 tb_377 tb_378 tb_3 tb_379 (nA := 2) (by decide +kernel) rfl ⟨by omega, by omega⟩ ⟨by omega, by omega⟩ rfl (Nat.le_of_ble_eq_true rfl) dX1_sum_81 (fun v w1 H1 L1 hp hW hzz hkk hdd => ?_)
      obtain ⟨y4, rfl, rfl, gy4⟩ := hp
      clear hzz hkk hdd
      generalize H1 = H at hW ⊢
      generalize L1 = locs at hW ⊢
      have hW : Wd Z A s.heap (cw Z hc y4 ++ [ea Z q (w + 1) (up row i (xn y1))]) _ _ := hW
      refine W.eq (g2 := F0 m 84 ls [.int (nI (xn y3)), .int (nI (xn y2)), .ref hc]) rfl ?_
      have hy4 := hy3.g gy4
      have hny4 := hy4.2.2.1
      have huy4 := (stp.of gy4).2.2.2
      have hsy4 := hy4
      have hco := hy4.cost (j := 1) (K := KK) (by omega)
      refine c_virt (As := [.int (nI (xn y2)), .int (nI (xn y3))]) (rest := []) (wc := cw Z hc y4) (wr := [ea Z q (w + 1) (up row i (xn y1))]) (nl := 0) hx hb hml hown hts hK hG rfl hA hl (k_or l Z hc y4 σ (xn y2) (xn y3) hy4.1 (by omega) (by omega) (by omega)) hW trivial (hW.at 0 rfl) rfl rfl tb_380 tb_381 tb_382 tb_3 tb_383 (nA := 2) (by decide +kernel) rfl ⟨by omega, by omega⟩ ⟨by omega, by omega⟩ rfl (Nat.le_of_ble_eq_true rfl) dX1_sum_84 (fun v w1 H1 L1 hp hW hzz hkk hdd => ?_)
      obtain ⟨y5, rfl, rfl, gy5⟩ := hp
      clear hzz hkk hdd
      generalize H1 = H at hW ⊢
      generalize L1 = locs at hW ⊢
      have hW : Wd Z A s.heap (cw Z hc y5 ++ [ea Z q (w + 1) (up row i (xn y1))]) _ _ := hW
      refine W.eq (g2 := F0 m 87 ls [.int (nI (xn y4))]) rfl ?_
      have hy5 := hy4.g gy5
      have hny5 := hy5.2.2.1
      have huy5 := (stp.of gy5).2.2.2
      refine lv_istore (lv' := [(5, .int (nI (xn y4))), (7, .int (nI (xn y))), (0, .ref hk), (1, .ref aa), (2, .ref ab), (4, .ref q), (6, .int (nI i))]) hx hb dX1_sum_87 hl (by decide) rfl (fun ls hl => ?_)
      refine lv_iinc (v := nI (i + 1)) (lv' := [(6, .int (nI (i + 1))), (5, .int (nI (xn y4))), (7, .int (nI (xn y))), (0, .ref hk), (1, .ref aa), (2, .ref ab), (4, .ref q)]) hx hb dX1_sum_89 hl (k := 6) rfl (inc1 _) (by decide) rfl (fun ls hl => ?_)
      refine lv_goto (tgt := 14) hx hb dX1_sum_92 (by decide) ?_
      have k5 := cex.rf y5
      have k4 := gy5.2.2.2.2.1.tr k5
      have k3 := gy4.2.2.2.2.1.tr k4
      have k2 := gy3.2.2.2.2.1.tr k3
      have k1 := gy2.2.2.2.2.1.tr k2
      have k0 := gy1.2.2.2.2.1.tr k1
      refine ih (i + 1) y5 q (up row i (xn y1)) (xn y4) _ _ _ _ ls (by omega) (by have e : 5 * (i + 1) = 5 * i + 1 + 1 + 1 + 1 + 1 := (by omega); rw [e]; exact hy5) (by omega) (fun j hj => ?_) (fun τ hτ => ?_) ?_ ?_ hW (lv_sub hl [3, 4, 5, 6, 1, 0] rfl)
      · by_cases e : j = i
        · subst e; rw [up_s]; omega
        · rw [up_n _ _ e]; have := hrow j (by omega); omega
      · have hx5 : cex x y5 := hy5.2.1
        have G1 := gval gy1 (by decide) k1 (by omega) (by omega) τ
        have G2 := gval gy2 (by decide) k2 (by omega) (by omega) τ
        have G3 := gval gy3 (by decide) k3 (by omega) (by omega) τ
        have G4 := gval gy4 (by decide) k4 (by omega) (by omega) τ
        have G5 := gval gy5 (by decide) k5 (by omega) (by omega) τ
        have hs := hsem τ hτ
        rw [← rn_ex k0 hrow, ← k0.vl hcin] at hs
        rw [rn_up, rn_s, rn_s, G5, G4, G3, G2, G1, c_op3, c_op3, c_op2, c_op1, c_op1, hx5.vl hra_i, hx5.vl hrb_i]
        exact fa_step hs
      · omega
      · omega
  refine lv_aload_n hx hb dX1_sum_0 rfl (lv_at hl 1 rfl) ?_
  refine r_len hx hb hK (hro.2.1.here hAe hW) dX1_sum_1 ?_
  refine lv_iconst (v := nI 1) hx hb dX1_sum_2 (by decide) ?_
  refine n_iadd hx hb dX1_sum_3 ?_
  refine r_newa (n := (w + 1)) hx hb hts tb_65 hK hW hA (by omega) (by omega) (by omega) dX1_sum_4 (fun q H hW hsz_q hq_q => ?_)
  have hW : Wd Z A s.heap (cw Z hc x ++ [ea Z q (w + 1) (fun _ => 0)]) _ _ := hW
  refine lv_astore (lv' := [(4, .ref q), (0, .ref hk), (1, .ref aa), (2, .ref ab), (3, .int (nI cy))]) hx hb dX1_sum_6 hl (by decide) rfl (fun ls hl => ?_)
  refine lv_iload_n hx hb dX1_sum_8 rfl (lv_at hl 4 rfl) ?_
  refine lv_istore (lv' := [(5, .int (nI cy)), (4, .ref q), (0, .ref hk), (1, .ref aa), (2, .ref ab), (3, .int (nI cy))]) hx hb dX1_sum_9 hl (by decide) rfl (fun ls hl => ?_)
  refine lv_iconst (v := nI 0) hx hb dX1_sum_11 (by decide) ?_
  refine lv_istore (lv' := [(6, .int (nI 0)), (5, .int (nI cy)), (4, .ref q), (0, .ref hk), (1, .ref aa), (2, .ref ab), (3, .int (nI cy))]) hx hb dX1_sum_12 hl (by decide) rfl (fun ls hl => ?_)
  refine loop w 0 x q (fun _ => 0) cy _ _ _ _ ls (by omega) (stp.rf hx0) hcy (fun j hj => absurd hj (by omega)) (fun τ hτ => ?_) (by omega) (by omega) hW (lv_sub hl [3, 4, 5, 2, 1, 0] rfl)
  simp [rn, bn]
end
section
/-- a new row of w signals, k gates more, bit j worth F τ j -/
def rowQ (Z : Zt) (hc : Nat) (x : CS) (σ : Nat → Bool) (k w : Nat) (F : (Nat → Bool) → Nat → Bool) (v : Option Value) (w1 : va_W) : Prop := ∃ (y : CS) (q : Nat) (f : Nat → Nat), v = some (.ref q) ∧ w1 = cw Z hc y ++ [ea Z q w f] ∧ stp x σ k y ∧ (∀ j, j < w → f j < xn y) ∧ ∀ τ, gd τ → ∀ j, j < w → vl y τ (f j) = F τ j
theorem pick_b (c a b : Bool) : (b ^^ (c && (a ^^ b))) = if c then a else b := by cases c <;> cases a <;> cases b <;> rfl
set_option maxHeartbeats 4000000 in
set_option maxRecDepth 100000 in
/-- Reckoner.inverted -/
theorem k_inverted (l : Launch) (Z : Zt) (hk hc : Nat) (x : CS) (σ : Nat → Bool) (aa w : Nat) (ra : Nat → Nat) (hx0 : cok x σ) (hn : xn x + 1 * w < 400000) (hw : w ≤ 64) (hra : ∀ j, j < w → ra j < xn x) : MC l yX1_inverted cX1_inverted 4 (some (.array .int)) 5 220 (1 + 4 * (capU (xu x) (xn x + 1 * w) - xu x)) (w + 512 * (capU (xu x) (xn x + 1 * w) - xu x)) Z (cw Z hc x) (fun H => RO Z (cw Z hc x) (eo hk 1 [.ref hc]) H ∧ RO Z (cw Z hc x) (ea Z aa w ra) H) [.ref hk, .ref aa] (rowQ Z hc x σ (1 * w) w (fun τ j => !vl x τ (ra j))) := by
  refine mc_of (by decide) (Nat.le_of_ble_eq_true rfl) (fun p e s m below meth c ls A hx hb hr hts hown hlk hml hin hK hG hW hA hAe hro hl R hRf hRc hRs hRl => ?_)
  have hl : lv_has ls 4 [(0, .ref hk), (1, .ref aa)] := hl
  have hW : Wd Z A s.heap (cw Z hc x ++ []) _ _ := hW
  obtain ⟨KK, hKK⟩ : ∃ k, k = 1 * w := ⟨_, rfl⟩
  rw [← hKK] at hRc hRs
  have loop : ∀ (d i : Nat) (y : CS) (q : Nat) (row : Nat → Nat) (H : Heap) (locs : List Loc) (cl sl : Nat) (ls : Array Slot), i + d = w → stp x σ (1 * i) y → (∀ j, j < i → row j < xn y) → (∀ τ, gd τ → ∀ j, j < i → vl y τ (row j) = (fun τ j => !vl x τ (ra j)) τ j) → cl = 1 + 4 * (xu y - xu x) → sl = w + 512 * (xu y - xu x) → Wd Z A s.heap (cw Z hc y ++ [ea Z q w row]) H locs → lv_has ls 4 [(0, .ref hk), (1, .ref aa), (2, .ref q), (3, .int (nI i))] → W p l e R s m ([.ref hk, .ref aa] : List Value).toArray below meth c H locs cl sl (MQ below (QC Z (cw Z hc x) s.heap.size (rowQ Z hc x σ (1 * w) w (fun τ j => !vl x τ (ra j)))) ([.ref hk, .ref aa] : List Value).toArray s (1 + 4 * (capU (xu x) (xn x + 1 * w) - xu x)) (w + 512 * (capU (xu x) (xn x + 1 * w) - xu x)) A) (F0 m 7 ls []) := by
    intro d
    induction d with
    | zero =>
      intro i y q row H locs cl sl ls hid hy hrow hsem hcl hsl hW hl
      have hi : i = w := by omega
      refine lv_iload_n hx hb dX1_inverted_7 rfl (lv_at hl 3 rfl) ?_
      refine lv_aload_n hx hb dX1_inverted_8 rfl (lv_at hl 1 rfl) ?_
      refine r_len hx hb hK (hro.2.here hAe hW) dX1_inverted_9 ?_
      refine n_ge_t (tgt := 32) hx hb (by omega) (by omega) dX1_inverted_10 (by decide) ?_
      refine lv_aload_n hx hb dX1_inverted_32 rfl (lv_at hl 2 rfl) ?_
      have hco := hy.cost (j := 0) (K := KK) (by omega)
      rw [hKK] at hco hRc hRs
      rw [hi] at hy hrow hsem
      exact e_ref hx hb hr (Or.inr ⟨_, rfl⟩) hlk hAe hW (by have := hy.2.2.2; omega) (by have := hy.2.2.2; omega) dX1_inverted_33 ⟨y, q, row, rfl, rfl, hy, hrow, hsem⟩
    | succ d ih =>
      intro i y q row H locs cl sl ls hid hy hrow hsem hcl hsl hW hl
      have hny := hy.2.2.1
      have hra_i := hra i (by omega)
      refine lv_iload_n hx hb dX1_inverted_7 rfl (lv_at hl 3 rfl) ?_
      refine lv_aload_n hx hb dX1_inverted_8 rfl (lv_at hl 1 rfl) ?_
      refine r_len hx hb hK (hro.2.here hAe hW) dX1_inverted_9 ?_
      refine n_ge_f (tgt := 32) hx hb (by omega) (by omega) dX1_inverted_10 (by decide) ?_
      refine lv_aload_n hx hb dX1_inverted_13 rfl (lv_at hl 2 rfl) ?_
      refine lv_iload_n hx hb dX1_inverted_14 rfl (lv_at hl 3 rfl) ?_
      refine lv_aload_n hx hb dX1_inverted_15 rfl (lv_at hl 0 rfl) ?_
      refine r_get hx hb hts hown hK (hro.1.here hAe hW) rfl in_X1 0 (by decide) tb_66 (fun _ h => h) rfl dX1_inverted_16 ?_
      refine lv_aload_n hx hb dX1_inverted_19 rfl (lv_at hl 1 rfl) ?_
      refine lv_iload_n hx hb dX1_inverted_20 rfl (lv_at hl 3 rfl) ?_
      refine r_ald (i := i) hx hb hK (hro.2.here hAe hW) (by omega) (by omega) dX1_inverted_21 ?_
      have hsy := hy
      have hco := hy.cost (j := 1) (K := KK) (by omega)
      refine c_virt (As := [.int (nI (ra i))]) (rest := [.int (nI i), .ref q]) (wc := cw Z hc y) (wr := [ea Z q w row]) (nl := 0) hx hb hml hown hts hK hG rfl hA hl (k_not l Z hc y σ (ra i) hy.1 (by omega) (by omega)) hW trivial (hW.at 0 rfl) rfl rfl tb_360 tb_361 tb_362 tb_3 tb_363 (nA := 1) (by decide +kernel) rfl ⟨by omega, by omega⟩ ⟨by omega, by omega⟩ rfl (Nat.le_of_ble_eq_true rfl) dX1_inverted_22 (fun v w1 H1 L1 hp hW hzz hkk hdd => ?_)
      obtain ⟨y1, rfl, rfl, gy1⟩ := hp
      clear hzz hkk hdd
      generalize H1 = H at hW  ⊢
      generalize L1 = locs at hW ⊢
      have hW : Wd Z A s.heap (cw Z hc y1 ++ [ea Z q w row]) _ _ := hW
      refine W.eq (g2 := F0 m 25 ls [.int (nI (xn y)), .int (nI i), .ref q]) rfl ?_
      have hy1 := hy.g gy1
      have hny1 := hy1.2.2.1
      have huy1 := (stp.of gy1).2.2.2
      have k1 := cex.rf y1
      have k0 := gy1.2.2.2.2.1.tr k1
      refine r_ast (i := i) (x := (xn y)) hx hb hK hW 5 rfl (by omega) (by omega) dX1_inverted_25 (fun H locs hW => ?_)
      have hW : Wd Z A s.heap (cw Z hc y1 ++ [ea Z q w (up row i (xn y))]) _ _ := hW
      refine lv_iinc (v := nI (i + 1)) (lv' := [(3, .int (nI (i + 1))), (0, .ref hk), (1, .ref aa), (2, .ref q)]) hx hb dX1_inverted_26 hl (k := 3) rfl (inc1 _) (by decide) rfl (fun ls hl => ?_)
      refine lv_goto (tgt := 7) hx hb dX1_inverted_29 (by decide) ?_
      refine ih (i + 1) y1 q (up row i (xn y)) _ _ _ _ ls (by omega) (by have e : 1 * (i + 1) = 1 * i + 1 := (by omega); rw [e]; exact hy1) (fun j hj => ?_) (fun τ hτ j hj => ?_) ?_ ?_ hW (lv_sub hl [1, 2, 3, 0] rfl)
      · by_cases e : j = i
        · subst e; rw [up_s]; omega
        · rw [up_n _ _ e]; have := hrow j (by omega); omega
      · by_cases e : j = i
        · subst e
          rw [up_s]
          rw [gval gy1 (by decide) k1 (by omega) (by have := hy.1.1; omega) τ, c_op3, vl_1 hy1.1 hτ, hy1.2.1.vl hra_i]
          exact Bool.xor_true _
        · rw [up_n _ _ e, k0.vl (hrow j (by omega))]
          exact hsem τ hτ j (by omega)
      · omega
      · omega
  refine lv_aload_n hx hb dX1_inverted_0 rfl (lv_at hl 1 rfl) ?_
  refine r_len hx hb hK (hro.2.here hAe hW) dX1_inverted_1 ?_
  refine r_newa (n := w) hx hb hts tb_65 hK hW hA (by omega) (by omega) (by omega) dX1_inverted_2 (fun q H hW hsz_q hq_q => ?_)
  have hW : Wd Z A s.heap (cw Z hc x ++ [ea Z q w (fun _ => 0)]) _ _ := hW
  refine lv_astore_n (lv' := [(2, .ref q), (0, .ref hk), (1, .ref aa)]) hx hb dX1_inverted_4 rfl hl (by decide) rfl (fun ls hl => ?_)
  refine lv_iconst (v := nI 0) hx hb dX1_inverted_5 (by decide) ?_
  refine lv_istore_n (lv' := [(3, .int (nI 0)), (2, .ref q), (0, .ref hk), (1, .ref aa)]) hx hb dX1_inverted_6 rfl hl (by decide) rfl (fun ls hl => ?_)
  exact loop w 0 x q (fun _ => 0) _ _ _ _ ls (by omega) (stp.rf hx0) (fun j hj => absurd hj (by omega)) (fun τ hτ j hj => absurd hj (by omega)) (by omega) (by omega) hW (lv_sub hl [2, 3, 1, 0] rfl)
set_option maxHeartbeats 4000000 in
set_option maxRecDepth 100000 in
/-- Reckoner.joined -/
theorem k_joined (l : Launch) (Z : Zt) (hk hc : Nat) (x : CS) (σ : Nat → Bool) (kd aa ab w : Nat) (ra rb : Nat → Nat) (hx0 : cok x σ) (hn : xn x + 1 * w < 400000) (hw : w ≤ 64) (hkd : kd ≠ 0) (hkd3 : kd ≤ 3) (hra : ∀ j, j < w → ra j < xn x) (hrb : ∀ j, j < w → rb j < xn x) : MC l yX1_joined cX1_joined 6 (some (.array .int)) 5 220 (1 + 4 * (capU (xu x) (xn x + 1 * w) - xu x)) (w + 512 * (capU (xu x) (xn x + 1 * w) - xu x)) Z (cw Z hc x) (fun H => RO Z (cw Z hc x) (eo hk 1 [.ref hc]) H ∧ RO Z (cw Z hc x) (ea Z aa w ra) H ∧ RO Z (cw Z hc x) (ea Z ab w rb) H) [.ref hk, .int (nI kd), .ref aa, .ref ab] (rowQ Z hc x σ (1 * w) w (fun τ j => c_op kd (vl x τ (ra j)) (vl x τ (rb j)))) := by
  refine mc_of (by decide) (Nat.le_of_ble_eq_true rfl) (fun p e s m below meth c ls A hx hb hr hts hown hlk hml hin hK hG hW hA hAe hro hl R hRf hRc hRs hRl => ?_)
  have hl : lv_has ls 6 [(0, .ref hk), (1, .int (nI kd)), (2, .ref aa), (3, .ref ab)] := hl
  have hW : Wd Z A s.heap (cw Z hc x ++ []) _ _ := hW
  obtain ⟨KK, hKK⟩ : ∃ k, k = 1 * w := ⟨_, rfl⟩
  rw [← hKK] at hRc hRs
  have loop : ∀ (d i : Nat) (y : CS) (q : Nat) (row : Nat → Nat) (H : Heap) (locs : List Loc) (cl sl : Nat) (ls : Array Slot), i + d = w → stp x σ (1 * i) y → (∀ j, j < i → row j < xn y) → (∀ τ, gd τ → ∀ j, j < i → vl y τ (row j) = (fun τ j => c_op kd (vl x τ (ra j)) (vl x τ (rb j))) τ j) → cl = 1 + 4 * (xu y - xu x) → sl = w + 512 * (xu y - xu x) → Wd Z A s.heap (cw Z hc y ++ [ea Z q w row]) H locs → lv_has ls 6 [(0, .ref hk), (1, .int (nI kd)), (2, .ref aa), (3, .ref ab), (4, .ref q), (5, .int (nI i))] → W p l e R s m ([.ref hk, .int (nI kd), .ref aa, .ref ab] : List Value).toArray below meth c H locs cl sl (MQ below (QC Z (cw Z hc x) s.heap.size (rowQ Z hc x σ (1 * w) w (fun τ j => c_op kd (vl x τ (ra j)) (vl x τ (rb j))))) ([.ref hk, .int (nI kd), .ref aa, .ref ab] : List Value).toArray s (1 + 4 * (capU (xu x) (xn x + 1 * w) - xu x)) (w + 512 * (capU (xu x) (xn x + 1 * w) - xu x)) A) (F0 m 9 ls []) := by
    intro d
    induction d with
    | zero =>
      intro i y q row H locs cl sl ls hid hy hrow hsem hcl hsl hW hl
      have hi : i = w := by omega
      refine lv_iload hx hb dX1_joined_9 (lv_at hl 5 rfl) ?_
      refine lv_aload_n hx hb dX1_joined_11 rfl (lv_at hl 2 rfl) ?_
      refine r_len hx hb hK (hro.2.1.here hAe hW) dX1_joined_12 ?_
      refine n_ge_t (tgt := 43) hx hb (by omega) (by omega) dX1_joined_13 (by decide) ?_
      refine lv_aload hx hb dX1_joined_43 (lv_at hl 4 rfl) ?_
      have hco := hy.cost (j := 0) (K := KK) (by omega)
      rw [hKK] at hco hRc hRs
      rw [hi] at hy hrow hsem
      exact e_ref hx hb hr (Or.inr ⟨_, rfl⟩) hlk hAe hW (by have := hy.2.2.2; omega) (by have := hy.2.2.2; omega) dX1_joined_45 ⟨y, q, row, rfl, rfl, hy, hrow, hsem⟩
    | succ d ih =>
      intro i y q row H locs cl sl ls hid hy hrow hsem hcl hsl hW hl
      have hny := hy.2.2.1
      have hra_i := hra i (by omega)
      have hrb_i := hrb i (by omega)
      refine lv_iload hx hb dX1_joined_9 (lv_at hl 5 rfl) ?_
      refine lv_aload_n hx hb dX1_joined_11 rfl (lv_at hl 2 rfl) ?_
      refine r_len hx hb hK (hro.2.1.here hAe hW) dX1_joined_12 ?_
      refine n_ge_f (tgt := 43) hx hb (by omega) (by omega) dX1_joined_13 (by decide) ?_
      refine lv_aload hx hb dX1_joined_16 (lv_at hl 4 rfl) ?_
      refine lv_iload hx hb dX1_joined_18 (lv_at hl 5 rfl) ?_
      refine lv_aload_n hx hb dX1_joined_20 rfl (lv_at hl 0 rfl) ?_
      refine r_get hx hb hts hown hK (hro.1.here hAe hW) rfl in_X1 0 (by decide) tb_66 (fun _ h => h) rfl dX1_joined_21 ?_
      refine lv_iload_n hx hb dX1_joined_24 rfl (lv_at hl 1 rfl) ?_
      refine lv_aload_n hx hb dX1_joined_25 rfl (lv_at hl 2 rfl) ?_
      refine lv_iload hx hb dX1_joined_26 (lv_at hl 5 rfl) ?_
      refine r_ald (i := i) hx hb hK (hro.2.1.here hAe hW) (by omega) (by omega) dX1_joined_28 ?_
      refine lv_aload_n hx hb dX1_joined_29 rfl (lv_at hl 3 rfl) ?_
      refine lv_iload hx hb dX1_joined_30 (lv_at hl 5 rfl) ?_
      refine r_ald (i := i) hx hb hK (hro.2.2.here hAe hW) (by omega) (by omega) dX1_joined_32 ?_
      have hco := hy.cost (j := 1) (K := KK) (by omega)
      refine c_virt (As := [.int (nI kd), .int (nI (ra i)), .int (nI (rb i))]) (rest := [.int (nI i), .ref q]) (wc := cw Z hc y) (wr := [ea Z q w row]) (nl := 0) hx hb hml hown hts hK hG rfl hA hl (k_gate l Z hc y σ kd (ra i) (rb i) hy.1 (by omega) (by omega) (by omega) (by omega) (by omega)) hW trivial (hW.at 0 rfl) rfl rfl tb_411 tb_227 tb_228 tb_3 tb_229 (nA := 3) (by decide +kernel) rfl ⟨by omega, by omega⟩ ⟨by omega, by omega⟩ rfl (Nat.le_of_ble_eq_true rfl) dX1_joined_33 (fun v w1 H1 L1 hp hW hzz hkk hdd => ?_)
      obtain ⟨y1, rfl, rfl, gy1⟩ := hp
      clear hzz hkk hdd
      generalize H1 = H at hW  ⊢
      generalize L1 = locs at hW ⊢
      have hW : Wd Z A s.heap (cw Z hc y1 ++ [ea Z q w row]) _ _ := hW
      refine W.eq (g2 := F0 m 36 ls [.int (nI (xn y)), .int (nI i), .ref q]) rfl ?_
      have hy1 := hy.g gy1
      have hny1 := hy1.2.2.1
      have huy1 := (stp.of gy1).2.2.2
      have k1 := cex.rf y1
      have k0 := gy1.2.2.2.2.1.tr k1
      refine r_ast (i := i) (x := (xn y)) hx hb hK hW 5 rfl (by omega) (by omega) dX1_joined_36 (fun H locs hW => ?_)
      have hW : Wd Z A s.heap (cw Z hc y1 ++ [ea Z q w (up row i (xn y))]) _ _ := hW
      refine lv_iinc (v := nI (i + 1)) (lv' := [(5, .int (nI (i + 1))), (0, .ref hk), (1, .int (nI kd)), (2, .ref aa), (3, .ref ab), (4, .ref q)]) hx hb dX1_joined_37 hl (k := 5) rfl (inc1 _) (by decide) rfl (fun ls hl => ?_)
      refine lv_goto (tgt := 9) hx hb dX1_joined_40 (by decide) ?_
      refine ih (i + 1) y1 q (up row i (xn y)) _ _ _ _ ls (by omega) (by have e : 1 * (i + 1) = 1 * i + 1 := (by omega); rw [e]; exact hy1) (fun j hj => ?_) (fun τ hτ j hj => ?_) ?_ ?_ hW (lv_sub hl [1, 2, 3, 4, 5, 0] rfl)
      · by_cases e : j = i
        · subst e; rw [up_s]; omega
        · rw [up_n _ _ e]; have := hrow j (by omega); omega
      · by_cases e : j = i
        · subst e
          rw [up_s]
          rw [gval gy1 hkd k1 (by omega) (by omega) τ, hy1.2.1.vl hra_i, hy1.2.1.vl hrb_i]
        · rw [up_n _ _ e, k0.vl (hrow j (by omega))]
          exact hsem τ hτ j (by omega)
      · omega
      · omega
  refine lv_aload_n hx hb dX1_joined_0 rfl (lv_at hl 2 rfl) ?_
  refine r_len hx hb hK (hro.2.1.here hAe hW) dX1_joined_1 ?_
  refine r_newa (n := w) hx hb hts tb_65 hK hW hA (by omega) (by omega) (by omega) dX1_joined_2 (fun q H hW hsz_q hq_q => ?_)
  have hW : Wd Z A s.heap (cw Z hc x ++ [ea Z q w (fun _ => 0)]) _ _ := hW
  refine lv_astore (lv' := [(4, .ref q), (0, .ref hk), (1, .int (nI kd)), (2, .ref aa), (3, .ref ab)]) hx hb dX1_joined_4 hl (by decide) rfl (fun ls hl => ?_)
  refine lv_iconst (v := nI 0) hx hb dX1_joined_6 (by decide) ?_
  refine lv_istore (lv' := [(5, .int (nI 0)), (4, .ref q), (0, .ref hk), (1, .int (nI kd)), (2, .ref aa), (3, .ref ab)]) hx hb dX1_joined_7 hl (by decide) rfl (fun ls hl => ?_)
  exact loop w 0 x q (fun _ => 0) _ _ _ _ ls (by omega) (stp.rf hx0) (fun j hj => absurd hj (by omega)) (fun τ hτ j hj => absurd hj (by omega)) (by omega) (by omega) hW (lv_sub hl [2, 3, 4, 5, 1, 0] rfl)
set_option maxHeartbeats 4000000 in
set_option maxRecDepth 100000 in
/-- Reckoner.picked -/
theorem k_picked (l : Launch) (Z : Zt) (hk hc : Nat) (x : CS) (σ : Nat → Bool) (cd aa ab w wa : Nat) (ra rb : Nat → Nat) (hx0 : cok x σ) (hn : xn x + 3 * w < 400000) (hw : w ≤ 64) (hwa : w ≤ wa) (hwa2 : wa ≤ 65) (hcd : cd < xn x) (hra : ∀ j, j < w → ra j < xn x) (hrb : ∀ j, j < w → rb j < xn x) : MC l yX1_picked cX1_picked 7 (some (.array .int)) 5 220 (1 + 4 * (capU (xu x) (xn x + 3 * w) - xu x)) (w + 512 * (capU (xu x) (xn x + 3 * w) - xu x)) Z (cw Z hc x) (fun H => RO Z (cw Z hc x) (eo hk 1 [.ref hc]) H ∧ RO Z (cw Z hc x) (ea Z aa wa ra) H ∧ RO Z (cw Z hc x) (ea Z ab w rb) H) [.ref hk, .int (nI cd), .ref aa, .ref ab] (rowQ Z hc x σ (3 * w) w (fun τ j => if vl x τ cd then vl x τ (ra j) else vl x τ (rb j))) := by
  refine mc_of (by decide) (Nat.le_of_ble_eq_true rfl) (fun p e s m below meth c ls A hx hb hr hts hown hlk hml hin hK hG hW hA hAe hro hl R hRf hRc hRs hRl => ?_)
  have hl : lv_has ls 7 [(0, .ref hk), (1, .int (nI cd)), (2, .ref aa), (3, .ref ab)] := hl
  have hW : Wd Z A s.heap (cw Z hc x ++ []) _ _ := hW
  obtain ⟨KK, hKK⟩ : ∃ k, k = 3 * w := ⟨_, rfl⟩
  rw [← hKK] at hRc hRs
  have loop : ∀ (d i : Nat) (y : CS) (q : Nat) (row : Nat → Nat) (H : Heap) (locs : List Loc) (cl sl : Nat) (ls : Array Slot), i + d = w → stp x σ (3 * i) y → (∀ j, j < i → row j < xn y) → (∀ τ, gd τ → ∀ j, j < i → vl y τ (row j) = (fun τ j => if vl x τ cd then vl x τ (ra j) else vl x τ (rb j)) τ j) → cl = 1 + 4 * (xu y - xu x) → sl = w + 512 * (xu y - xu x) → Wd Z A s.heap (cw Z hc y ++ [ea Z q w row]) H locs → lv_has ls 7 [(0, .ref hk), (1, .int (nI cd)), (2, .ref aa), (3, .ref ab), (4, .ref q), (5, .int (nI i))] → W p l e R s m ([.ref hk, .int (nI cd), .ref aa, .ref ab] : List Value).toArray below meth c H locs cl sl (MQ below (QC Z (cw Z hc x) s.heap.size (rowQ Z hc x σ (3 * w) w (fun τ j => if vl x τ cd then vl x τ (ra j) else vl x τ (rb j)))) ([.ref hk, .int (nI cd), .ref aa, .ref ab] : List Value).toArray s (1 + 4 * (capU (xu x) (xn x + 3 * w) - xu x)) (w + 512 * (capU (xu x) (xn x + 3 * w) - xu x)) A) (F0 m 9 ls []) := by
    intro d
    induction d with
    | zero =>
      intro i y q row H locs cl sl ls hid hy hrow hsem hcl hsl hW hl
      have hi : i = w := by omega
      refine lv_iload hx hb dX1_picked_9 (lv_at hl 5 rfl) ?_
      refine lv_aload_n hx hb dX1_picked_11 rfl (lv_at hl 3 rfl) ?_
      refine r_len hx hb hK (hro.2.2.here hAe hW) dX1_picked_12 ?_
      refine n_ge_t (tgt := 65) hx hb (by omega) (by omega) dX1_picked_13 (by decide) ?_
      refine lv_aload hx hb dX1_picked_65 (lv_at hl 4 rfl) ?_
      have hco := hy.cost (j := 0) (K := KK) (by omega)
      rw [hKK] at hco hRc hRs
      rw [hi] at hy hrow hsem
      exact e_ref hx hb hr (Or.inr ⟨_, rfl⟩) hlk hAe hW (by have := hy.2.2.2; omega) (by have := hy.2.2.2; omega) dX1_picked_67 ⟨y, q, row, rfl, rfl, hy, hrow, hsem⟩
    | succ d ih =>
      intro i y q row H locs cl sl ls hid hy hrow hsem hcl hsl hW hl
      have hny := hy.2.2.1
      have hra_i := hra i (by omega)
      have hrb_i := hrb i (by omega)
      refine lv_iload hx hb dX1_picked_9 (lv_at hl 5 rfl) ?_
      refine lv_aload_n hx hb dX1_picked_11 rfl (lv_at hl 3 rfl) ?_
      refine r_len hx hb hK (hro.2.2.here hAe hW) dX1_picked_12 ?_
      refine n_ge_f (tgt := 65) hx hb (by omega) (by omega) dX1_picked_13 (by decide) ?_
      refine lv_aload_n hx hb dX1_picked_16 rfl (lv_at hl 0 rfl) ?_
      refine r_get hx hb hts hown hK (hro.1.here hAe hW) rfl in_X1 0 (by decide) tb_66 (fun _ h => h) rfl dX1_picked_17 ?_
      refine lv_aload_n hx hb dX1_picked_20 rfl (lv_at hl 2 rfl) ?_
      refine lv_iload hx hb dX1_picked_21 (lv_at hl 5 rfl) ?_
      refine r_ald (i := i) hx hb hK (hro.2.1.here hAe hW) (by omega) (by omega) dX1_picked_23 ?_
      refine lv_aload_n hx hb dX1_picked_24 rfl (lv_at hl 3 rfl) ?_
      refine lv_iload hx hb dX1_picked_25 (lv_at hl 5 rfl) ?_
      refine r_ald (i := i) hx hb hK (hro.2.2.here hAe hW) (by omega) (by omega) dX1_picked_27 ?_
      have hsy := hy
      have hco := hy.cost (j := 1) (K := KK) (by omega)
      refine c_virt (As := [.int (nI (ra i)), .int (nI (rb i))]) (rest := []) (wc := cw Z hc y) (wr := [ea Z q w row]) (nl := 0) hx hb hml hown hts hK hG rfl hA hl (k_xor l Z hc y σ (ra i) (rb i) hy.1 (by omega) (by omega) (by omega)) hW trivial (hW.at 0 rfl) rfl rfl tb_368 tb_369 tb_370 tb_3 tb_371 (nA := 2) (by decide +kernel) rfl ⟨by omega, by omega⟩ ⟨by omega, by omega⟩ rfl (Nat.le_of_ble_eq_true rfl) dX1_picked_28 (fun v w1 H1 L1 hp hW hzz hkk hdd => ?_)
      obtain ⟨y1, rfl, rfl, gy1⟩ := hp
      clear hzz hkk hdd
      generalize H1 = H at hW  ⊢
      generalize L1 = locs at hW ⊢
      have hW : Wd Z A s.heap (cw Z hc y1 ++ [ea Z q w row]) _ _ := hW
      refine W.eq (g2 := F0 m 31 ls [.int (nI (xn y))]) rfl ?_
      have hy1 := hy.g gy1
      have hny1 := hy1.2.2.1
      have huy1 := (stp.of gy1).2.2.2
      refine lv_istore (lv' := [(6, .int (nI (xn y))), (0, .ref hk), (1, .int (nI cd)), (2, .ref aa), (3, .ref ab), (4, .ref q), (5, .int (nI i))]) hx hb dX1_picked_31 hl (by decide) rfl (fun ls hl => ?_)
      refine lv_aload hx hb dX1_picked_33 (lv_at hl 5 rfl) ?_
      refine lv_iload hx hb dX1_picked_35 (lv_at hl 6 rfl) ?_
      refine lv_aload_n hx hb dX1_picked_37 rfl (lv_at hl 1 rfl) ?_
      refine r_get hx hb hts hown hK (hro.1.here hAe hW) rfl in_X1 0 (by decide) tb_66 (fun _ h => h) rfl dX1_picked_38 ?_
      refine lv_aload_n hx hb dX1_picked_41 rfl (lv_at hl 4 rfl) ?_
      refine lv_iload hx hb dX1_picked_42 (lv_at hl 6 rfl) ?_
      refine r_ald (i := i) hx hb hK (hro.2.2.here hAe hW) (by omega) (by omega) dX1_picked_44 ?_
      refine lv_aload_n hx hb dX1_picked_45 rfl (lv_at hl 1 rfl) ?_
      refine r_get hx hb hts hown hK (hro.1.here hAe hW) rfl in_X1 0 (by decide) tb_66 (fun _ h => h) rfl dX1_picked_46 ?_
      refine lv_iload_n hx hb dX1_picked_49 rfl (lv_at hl 2 rfl) ?_
      refine lv_iload hx hb dX1_picked_50 (lv_at hl 0 rfl) ?_
      have hsy1 := hy1
      have hco := hy1.cost (j := 1) (K := KK) (by omega)
      refine c_virt (As := [.int (nI cd), .int (nI (xn y))]) (rest := [.int (nI (rb i)), .ref hc, .int (nI i), .ref q]) (wc := cw Z hc y1) (wr := [ea Z q w row]) (nl := 0) hx hb hml hown hts hK hG rfl hA hl (k_and l Z hc y1 σ cd (xn y) hy1.1 (by omega) (by omega) (by omega)) hW trivial (hW.at 0 rfl) rfl rfl tb_376 tb_377 tb_378 tb_3 tb_379 (nA := 2) (by decide +kernel) rfl ⟨by omega, by omega⟩ ⟨by omega, by omega⟩ rfl (Nat.le_of_ble_eq_true rfl) dX1_picked_52 (fun v w1 H1 L1 hp hW hzz hkk hdd => ?_)
      obtain ⟨y2, rfl, rfl, gy2⟩ := hp
      clear hzz hkk hdd
      generalize H1 = H at hW  ⊢
      generalize L1 = locs at hW ⊢
      have hW : Wd Z A s.heap (cw Z hc y2 ++ [ea Z q w row]) _ _ := hW
      refine W.eq (g2 := F0 m 55 ls [.int (nI (xn y1)), .int (nI (rb i)), .ref hc, .int (nI i), .ref q]) rfl ?_
      have hy2 := hy1.g gy2
      have hny2 := hy2.2.2.1
      have huy2 := (stp.of gy2).2.2.2
      have hsy2 := hy2
      have hco := hy2.cost (j := 1) (K := KK) (by omega)
      refine c_virt (As := [.int (nI (rb i)), .int (nI (xn y1))]) (rest := [.int (nI i), .ref q]) (wc := cw Z hc y2) (wr := [ea Z q w row]) (nl := 0) hx hb hml hown hts hK hG rfl hA hl (k_xor l Z hc y2 σ (rb i) (xn y1) hy2.1 (by omega) (by omega) (by omega)) hW trivial (hW.at 0 rfl) rfl rfl tb_368 tb_369 tb_370 tb_3 tb_371 (nA := 2) (by decide +kernel) rfl ⟨by omega, by omega⟩ ⟨by omega, by omega⟩ rfl (Nat.le_of_ble_eq_true rfl) dX1_picked_55 (fun v w1 H1 L1 hp hW hzz hkk hdd => ?_)
      obtain ⟨y3, rfl, rfl, gy3⟩ := hp
      clear hzz hkk hdd
      generalize H1 = H at hW  ⊢
      generalize L1 = locs at hW ⊢
      have hW : Wd Z A s.heap (cw Z hc y3 ++ [ea Z q w row]) _ _ := hW
      refine W.eq (g2 := F0 m 58 ls [.int (nI (xn y2)), .int (nI i), .ref q]) rfl ?_
      have hy3 := hy2.g gy3
      have hny3 := hy3.2.2.1
      have huy3 := (stp.of gy3).2.2.2
      have k3 := cex.rf y3
      have k2 := gy3.2.2.2.2.1.tr k3
      have k1 := gy2.2.2.2.2.1.tr k2
      have k0 := gy1.2.2.2.2.1.tr k1
      refine r_ast (i := i) (x := (xn y2)) hx hb hK hW 5 rfl (by omega) (by omega) dX1_picked_58 (fun H locs hW => ?_)
      have hW : Wd Z A s.heap (cw Z hc y3 ++ [ea Z q w (up row i (xn y2))]) _ _ := hW
      refine lv_iinc (v := nI (i + 1)) (lv' := [(5, .int (nI (i + 1))), (6, .int (nI (xn y))), (0, .ref hk), (1, .int (nI cd)), (2, .ref aa), (3, .ref ab), (4, .ref q)]) hx hb dX1_picked_59 hl (k := 6) rfl (inc1 _) (by decide) rfl (fun ls hl => ?_)
      refine lv_goto (tgt := 9) hx hb dX1_picked_62 (by decide) ?_
      refine ih (i + 1) y3 q (up row i (xn y2)) _ _ _ _ ls (by omega) (by have e : 3 * (i + 1) = 3 * i + 1 + 1 + 1 := (by omega); rw [e]; exact hy3) (fun j hj => ?_) (fun τ hτ j hj => ?_) ?_ ?_ hW (lv_sub hl [2, 3, 4, 5, 6, 0] rfl)
      · by_cases e : j = i
        · subst e; rw [up_s]; omega
        · rw [up_n _ _ e]; have := hrow j (by omega); omega
      · by_cases e : j = i
        · subst e
          rw [up_s]
          have G1 := gval gy1 (by decide) k1 (by omega) (by omega) τ
          have G2 := gval gy2 (by decide) k2 (by omega) (by omega) τ
          have G3 := gval gy3 (by decide) k3 (by omega) (by omega) τ
          rw [G3, G2, G1, c_op3, c_op3, c_op1, hy3.2.1.vl hra_i, hy3.2.1.vl hrb_i, hy3.2.1.vl hcd]
          exact pick_b _ _ _
        · rw [up_n _ _ e, k0.vl (hrow j (by omega))]
          exact hsem τ hτ j (by omega)
      · omega
      · omega
  refine lv_aload_n hx hb dX1_picked_0 rfl (lv_at hl 3 rfl) ?_
  refine r_len hx hb hK (hro.2.2.here hAe hW) dX1_picked_1 ?_
  refine r_newa (n := w) hx hb hts tb_65 hK hW hA (by omega) (by omega) (by omega) dX1_picked_2 (fun q H hW hsz_q hq_q => ?_)
  have hW : Wd Z A s.heap (cw Z hc x ++ [ea Z q w (fun _ => 0)]) _ _ := hW
  refine lv_astore (lv' := [(4, .ref q), (0, .ref hk), (1, .int (nI cd)), (2, .ref aa), (3, .ref ab)]) hx hb dX1_picked_4 hl (by decide) rfl (fun ls hl => ?_)
  refine lv_iconst (v := nI 0) hx hb dX1_picked_6 (by decide) ?_
  refine lv_istore (lv' := [(5, .int (nI 0)), (4, .ref q), (0, .ref hk), (1, .int (nI cd)), (2, .ref aa), (3, .ref ab)]) hx hb dX1_picked_7 hl (by decide) rfl (fun ls hl => ?_)
  exact loop w 0 x q (fun _ => 0) _ _ _ _ ls (by omega) (stp.rf hx0) (fun j hj => absurd hj (by omega)) (fun τ hτ j hj => absurd hj (by omega)) (by omega) (by omega) hW (lv_sub hl [2, 3, 4, 5, 1, 0] rfl)
end
section
section Rz
variable {p : Program} {l : Launch} {e : Env} {R : Room} {s : State} {m : MethodId} {args : Array Value} {below : List Frame} {meth : Method} {c : Code} {H : Heap} {locs : List Loc} {cells slots : Nat} {Q : State → Prop}
variable {cc : ByteArray} {pc : Nat} {ls : Array Slot} {rest : List Value}
theorem n_zlt_f (hx : p.tables.exec = Jvm.exec) (hb : c.code = cc) {x : Nat} {off : Int} {tgt : Nat} (hxb : x < 2 ^ 31) (hdg : decode cc pc = .ok (.ifCond .lt off, 3)) (ht : (pc : Int) + off = (tgt : Int)) (kk : W p l e R s m args below meth c H locs cells slots Q (F0 m (pc + 3) ls rest)) : W p l e R s m args below meth c H locs cells slots Q (F0 m pc ls (.int (nI x) :: rest)) :=
  lv_if_lt hx hb hdg ht (fun q => absurd q (nI_pos hxb)) (fun _ => kk)
theorem n_zge_t (hx : p.tables.exec = Jvm.exec) (hb : c.code = cc) {x : Nat} {off : Int} {tgt : Nat} (hxb : x < 2 ^ 31) (hdg : decode cc pc = .ok (.ifCond .ge off, 3)) (ht : (pc : Int) + off = (tgt : Int)) (kk : W p l e R s m args below meth c H locs cells slots Q (F0 m tgt ls rest)) : W p l e R s m args below meth c H locs cells slots Q (F0 m pc ls (.int (nI x) :: rest)) :=
  lv_if_ge hx hb hdg ht (fun _ => kk) (fun q => absurd (nI_pos' hxb) q)
theorem n_zgt_t (hx : p.tables.exec = Jvm.exec) (hb : c.code = cc) {x : Nat} {off : Int} {tgt : Nat} (h : 0 < x) (hxb : x < 2 ^ 31) (hdg : decode cc pc = .ok (.ifCond .gt off, 3)) (ht : (pc : Int) + off = (tgt : Int)) (kk : W p l e R s m args below meth c H locs cells slots Q (F0 m tgt ls rest)) : W p l e R s m args below meth c H locs cells slots Q (F0 m pc ls (.int (nI x) :: rest)) :=
  lv_if_gt hx hb hdg ht (fun _ => kk) (fun q => absurd (by have k := nI_lt (a := 0) (b := x) h hxb; rw [nI_0] at k; exact k) q)
theorem n_zgt_f (hx : p.tables.exec = Jvm.exec) (hb : c.code = cc) {x : Nat} {off : Int} {tgt : Nat} (h : x = 0) (hxb : x < 2 ^ 31) (hdg : decode cc pc = .ok (.ifCond .gt off, 3)) (ht : (pc : Int) + off = (tgt : Int)) (kk : W p l e R s m args below meth c H locs cells slots Q (F0 m (pc + 3) ls rest)) : W p l e R s m args below meth c H locs cells slots Q (F0 m pc ls (.int (nI x) :: rest)) :=
  lv_if_gt hx hb hdg ht (fun q => absurd q (by subst h; rw [nI_0]; decide)) (fun _ => kk)
end Rz
set_option maxHeartbeats 4000000 in
set_option maxRecDepth 100000 in
theorem k_checkLength (l : Launch) (Z : Zt) (lo hi : Nat) (h : lo ≤ hi) (hhi : hi < 2 ^ 31) : MC l yJ7_checkLength_df160 cJ7_checkLength_df160 2 none 0 0 (0) (0) Z ([]) (fun _ => True) [.int (nI lo), .int (nI hi)] (fun v w1 => v = none ∧ w1 = []) := by
  refine mc_of (by decide) (Nat.le_of_ble_eq_true rfl) (fun p e s m below meth c ls A hx hb hr hts hown hlk hml hin hK hG hW hA hAe hro hl R hRf hRc hRs hRl => ?_)
  have hl : lv_has ls 2 [(0, .int (nI lo)), (1, .int (nI hi))] := hl
  refine lv_iload_n hx hb dJ7_checkLength_df160_0 rfl (lv_at hl 1 rfl) ?_
  refine lv_iload_n hx hb dJ7_checkLength_df160_1 rfl (lv_at hl 0 rfl) ?_
  refine n_ge_t (tgt := 37) hx hb (by omega) (by omega) dJ7_checkLength_df160_2 (by decide) ?_
  exact e_void hx hb hr hlk hAe hW (by omega) (by omega) dJ7_checkLength_df160_37 ⟨rfl, rfl⟩
set_option maxHeartbeats 4000000 in
set_option maxRecDepth 100000 in
theorem k_copyOfRangeInt (l : Launch) (Z : Zt) (a n lo hi : Nat) (r : Nat → Nat) (h : lo ≤ hi) (hn : hi ≤ n) (hnb : n ≤ 1000000) : MC l yJ7_copyOfRangeInt_feecc cJ7_copyOfRangeInt_feecc 5 (some (.array .int)) 2 80 (1) (hi - lo) Z ([]) (fun H => zat Z (ea Z a n r) H) [.ref a, .int (nI lo), .int (nI hi)] (fun v w1 => ∃ (q : Nat) (f : Nat → Nat), v = some (.ref q) ∧ w1 = [ea Z q (hi - lo) f] ∧ ∀ j, j < hi - lo → f j = r (lo + j)) := by
  refine mc_of (by decide) (Nat.le_of_ble_eq_true rfl) (fun p e s m below meth c ls A hx hb hr hts hown hlk hml hin hK hG hW hA hAe hro hl R hRf hRc hRs hRl => ?_)
  have hl : lv_has ls 5 [(0, .ref a), (1, .int (nI lo)), (2, .int (nI hi))] := hl
  refine lv_iload_n hx hb dJ7_copyOfRangeInt_feecc_0 rfl (lv_at hl 1 rfl) ?_
  refine lv_iload_n hx hb dJ7_copyOfRangeInt_feecc_1 rfl (lv_at hl 2 rfl) ?_
  refine c_stat (As := [.int (nI lo), .int (nI hi)]) (rest := []) (wc := []) (wr := []) hx hb hml hown hts hK hG rfl hA hl (k_checkLength l Z lo hi h (by omega)) hW trivial tb_424 tb_425 tb_13 tb_426 (nA := 2) (by decide +kernel) rfl ⟨by omega, by omega⟩ ⟨by omega, by omega⟩ rfl (Nat.le_of_ble_eq_true rfl) dJ7_copyOfRangeInt_feecc_2 (fun v w1 H1 L1 hp hW hzz hkk hdd => ?_)
  obtain ⟨rfl, rfl⟩ := hp
  clear hzz hkk hdd
  generalize H1 = H at hW ⊢
  generalize L1 = locs at hW ⊢
  have hW : Wd Z A s.heap ([]) _ _ := hW
  refine W.eq (g2 := F0 m 5 ls []) rfl ?_
  refine lv_iload_n hx hb dJ7_copyOfRangeInt_feecc_5 rfl (lv_at hl 2 rfl) ?_
  refine lv_iload_n hx hb dJ7_copyOfRangeInt_feecc_6 rfl (lv_at hl 1 rfl) ?_
  refine n_isub hx hb (by omega) dJ7_copyOfRangeInt_feecc_7 ?_
  refine lv_istore_n (lv' := [(3, .int (nI (hi - lo))), (0, .ref a), (1, .int (nI lo)), (2, .int (nI hi))]) hx hb dJ7_copyOfRangeInt_feecc_8 rfl hl (by decide) rfl (fun ls hl => ?_)
  refine lv_iload_n hx hb dJ7_copyOfRangeInt_feecc_9 rfl (lv_at hl 0 rfl) ?_
  refine r_newa (n := (hi - lo)) hx hb hts tb_65 hK hW hA (by omega) (by omega) (by omega) dJ7_copyOfRangeInt_feecc_10 (fun q H hW hsz_q hq_q => ?_)
  have hW : Wd Z A s.heap ([ea Z q (hi - lo) (fun _ => 0)]) _ _ := hW
  refine lv_astore (lv' := [(4, .ref q), (3, .int (nI (hi - lo))), (0, .ref a), (1, .int (nI lo)), (2, .int (nI hi))]) hx hb dJ7_copyOfRangeInt_feecc_12 hl (by decide) rfl (fun ls hl => ?_)
  refine lv_aload_n hx hb dJ7_copyOfRangeInt_feecc_14 rfl (lv_at hl 2 rfl) ?_
  refine lv_iload_n hx hb dJ7_copyOfRangeInt_feecc_15 rfl (lv_at hl 3 rfl) ?_
  refine lv_aload hx hb dJ7_copyOfRangeInt_feecc_16 (lv_at hl 0 rfl) ?_
  refine lv_iconst (v := nI 0) hx hb dJ7_copyOfRangeInt_feecc_18 (by decide) ?_
  refine lv_aload_n hx hb dJ7_copyOfRangeInt_feecc_19 rfl (lv_at hl 2 rfl) ?_
  refine r_len hx hb hK ((RO.nil hro).here hAe hW) dJ7_copyOfRangeInt_feecc_20 ?_
  refine lv_iload_n hx hb dJ7_copyOfRangeInt_feecc_21 rfl (lv_at hl 3 rfl) ?_
  refine n_isub hx hb (by omega) dJ7_copyOfRangeInt_feecc_22 ?_
  refine lv_iload_n hx hb dJ7_copyOfRangeInt_feecc_23 rfl (lv_at hl 1 rfl) ?_
  refine n_min hx hb hml hl hown hts tb_240 (by omega) (by rw [hRl]; exact Nat.le_of_ble_eq_true rfl) (by omega) (by omega) (x := n - lo) (y := hi - lo) (by omega) (by omega) dJ7_copyOfRangeInt_feecc_24 ?_
  refine r_copy hx hb hml hl hown hts hK hW tb_243 (f := r) (n0 := n) (sp := lo) (dp := 0) (n := min (n - lo) (hi - lo)) ((RO.nil hro).here hAe hW) 0 rfl (by omega) (by omega) (by omega) (by omega) (by omega) (by rw [hRl]; exact Nat.le_of_ble_eq_true rfl) dJ7_copyOfRangeInt_feecc_27 (fun H locs hW => ?_)
  have hW : Wd Z A s.heap ([ea Z q (hi - lo) (va_cpy r (fun _ => 0) lo 0 (min (n - lo) (hi - lo)))]) _ _ := hW
  refine lv_aload hx hb dJ7_copyOfRangeInt_feecc_30 (lv_at hl 0 rfl) ?_
  exact e_ref hx hb hr (Or.inr ⟨_, rfl⟩) hlk hAe hW (by omega) (by omega) dJ7_copyOfRangeInt_feecc_32 ⟨q, _, rfl, rfl, fun j hj => by rw [pk_cpy_in (by omega) (by omega), Nat.sub_zero]⟩
set_option maxHeartbeats 4000000 in
set_option maxRecDepth 100000 in
theorem k_copyOfRange (l : Launch) (Z : Zt) (a n lo hi : Nat) (r : Nat → Nat) (h : lo ≤ hi) (hn : hi ≤ n) (hnb : n ≤ 1000000) : MC l yJ7_copyOfRange_feecc cJ7_copyOfRange_feecc 3 (some (.array .int)) 3 120 (1) (hi - lo) Z ([]) (fun H => zat Z (ea Z a n r) H) [.ref a, .int (nI lo), .int (nI hi)] (fun v w1 => ∃ (q : Nat) (f : Nat → Nat), v = some (.ref q) ∧ w1 = [ea Z q (hi - lo) f] ∧ ∀ j, j < hi - lo → f j = r (lo + j)) := by
  refine mc_of (by decide) (Nat.le_of_ble_eq_true rfl) (fun p e s m below meth c ls A hx hb hr hts hown hlk hml hin hK hG hW hA hAe hro hl R hRf hRc hRs hRl => ?_)
  have hl : lv_has ls 3 [(0, .ref a), (1, .int (nI lo)), (2, .int (nI hi))] := hl
  refine lv_iload_n hx hb dJ7_copyOfRange_feecc_0 rfl (lv_at hl 1 rfl) ?_
  by_cases hlo : lo = 0
  · refine n_zne_f (tgt := 10) hx hb (by omega) dJ7_copyOfRange_feecc_1 (by decide) ?_
    refine lv_iload_n hx hb dJ7_copyOfRange_feecc_4 rfl (lv_at hl 2 rfl) ?_
    refine lv_aload_n hx hb dJ7_copyOfRange_feecc_5 rfl (lv_at hl 0 rfl) ?_
    refine r_len hx hb hK ((RO.nil hro).here hAe hW) dJ7_copyOfRange_feecc_6 ?_
    by_cases hhi : hi = n
    · refine n_eq_t (tgt := 17) hx hb (by omega) dJ7_copyOfRange_feecc_7 (by decide) ?_
      refine lv_aload_n hx hb dJ7_copyOfRange_feecc_17 rfl (lv_at hl 0 rfl) ?_
      refine r_clone hx hb hml hl hown hts hK hG.1 hW hA ((RO.nil hro).here hAe hW) (by omega) (by rw [hRl]; exact Nat.le_of_ble_eq_true rfl) (by omega) (by omega) dJ7_copyOfRange_feecc_18 (fun q H hW => ?_)
      refine va_castA (D := Z.1) (ws := [ea Z q n r]) hx hb hown (hts _ tb_239) hW.1 0 rfl (va_nm_int (hK.2 0 _ rfl).2) dJ7_copyOfRange_feecc_21 ?_
      have e : n = hi - lo := by omega
      rw [e] at hW
      exact e_ref hx hb hr (Or.inr ⟨_, rfl⟩) hlk hAe hW (by omega) (by omega) dJ7_copyOfRange_feecc_24 ⟨q, r, rfl, rfl, fun j hj => by rw [hlo, Nat.zero_add]⟩
    · refine n_eq_f (tgt := 17) hx hb (by omega) (by omega) (by omega) dJ7_copyOfRange_feecc_7 (by decide) ?_
      refine lv_aload_n hx hb dJ7_copyOfRange_feecc_10 rfl (lv_at hl 0 rfl) ?_
      refine lv_iload_n hx hb dJ7_copyOfRange_feecc_11 rfl (lv_at hl 1 rfl) ?_
      refine lv_iload_n hx hb dJ7_copyOfRange_feecc_12 rfl (lv_at hl 2 rfl) ?_
      refine c_stat (As := [.ref a, .int (nI lo), .int (nI hi)]) (rest := []) (wc := []) (wr := []) hx hb hml hown hts hK hG rfl hA hl (k_copyOfRangeInt l Z a n lo hi r h hn hnb) hW ((RO.nil hro).here hAe hW) tb_421 tb_422 tb_13 tb_423 (nA := 3) (by decide +kernel) rfl ⟨by omega, by omega⟩ ⟨by omega, by omega⟩ rfl (Nat.le_of_ble_eq_true rfl) dJ7_copyOfRange_feecc_13 (fun v w1 H1 L1 hp hW hzz hkk hdd => ?_)
      obtain ⟨q, f, rfl, rfl, hf⟩ := hp
      clear hzz hkk hdd
      generalize H1 = H at hW ⊢
      generalize L1 = locs at hW ⊢
      have hW : Wd Z A s.heap ([ea Z q (hi - lo) f]) _ _ := hW
      refine W.eq (g2 := F0 m 16 ls [.ref q]) rfl ?_
      exact e_ref hx hb hr (Or.inr ⟨_, rfl⟩) hlk hAe hW (by omega) (by omega) dJ7_copyOfRange_feecc_16 ⟨q, f, rfl, rfl, hf⟩
  · refine n_zne_t (tgt := 10) hx hb (by omega) (by omega) dJ7_copyOfRange_feecc_1 (by decide) ?_
    refine lv_aload_n hx hb dJ7_copyOfRange_feecc_10 rfl (lv_at hl 0 rfl) ?_
    refine lv_iload_n hx hb dJ7_copyOfRange_feecc_11 rfl (lv_at hl 1 rfl) ?_
    refine lv_iload_n hx hb dJ7_copyOfRange_feecc_12 rfl (lv_at hl 2 rfl) ?_
    refine c_stat (As := [.ref a, .int (nI lo), .int (nI hi)]) (rest := []) (wc := []) (wr := []) hx hb hml hown hts hK hG rfl hA hl (k_copyOfRangeInt l Z a n lo hi r h hn hnb) hW ((RO.nil hro).here hAe hW) tb_421 tb_422 tb_13 tb_423 (nA := 3) (by decide +kernel) rfl ⟨by omega, by omega⟩ ⟨by omega, by omega⟩ rfl (Nat.le_of_ble_eq_true rfl) dJ7_copyOfRange_feecc_13 (fun v w1 H1 L1 hp hW hzz hkk hdd => ?_)
    obtain ⟨q, f, rfl, rfl, hf⟩ := hp
    clear hzz hkk hdd
    generalize H1 = H at hW ⊢
    generalize L1 = locs at hW ⊢
    have hW : Wd Z A s.heap ([ea Z q (hi - lo) f]) _ _ := hW
    refine W.eq (g2 := F0 m 16 ls [.ref q]) rfl ?_
    exact e_ref hx hb hr (Or.inr ⟨_, rfl⟩) hlk hAe hW (by omega) (by omega) dJ7_copyOfRange_feecc_16 ⟨q, f, rfl, rfl, hf⟩
set_option maxHeartbeats 4000000 in
set_option maxRecDepth 100000 in
theorem k_rangeCheck (l : Launch) (Z : Zt) (n lo hi : Nat) (h : lo ≤ hi) (hn : hi ≤ n) (hnb : n ≤ 1000000) : MC l yJ7_rangeCheck_23922 cJ7_rangeCheck_23922 3 none 0 0 (0) (0) Z ([]) (fun _ => True) [.int (nI n), .int (nI lo), .int (nI hi)] (fun v w1 => v = none ∧ w1 = []) := by
  refine mc_of (by decide) (Nat.le_of_ble_eq_true rfl) (fun p e s m below meth c ls A hx hb hr hts hown hlk hml hin hK hG hW hA hAe hro hl R hRf hRc hRs hRl => ?_)
  have hl : lv_has ls 3 [(0, .int (nI n)), (1, .int (nI lo)), (2, .int (nI hi))] := hl
  refine lv_iload_n hx hb dJ7_rangeCheck_23922_0 rfl (lv_at hl 1 rfl) ?_
  refine lv_iload_n hx hb dJ7_rangeCheck_23922_1 rfl (lv_at hl 2 rfl) ?_
  refine n_le_t (tgt := 46) hx hb (by omega) (by omega) dJ7_rangeCheck_23922_2 (by decide) ?_
  refine lv_iload_n hx hb dJ7_rangeCheck_23922_46 rfl (lv_at hl 1 rfl) ?_
  refine n_zge_t (tgt := 59) hx hb (by omega) dJ7_rangeCheck_23922_47 (by decide) ?_
  refine lv_iload_n hx hb dJ7_rangeCheck_23922_59 rfl (lv_at hl 2 rfl) ?_
  refine lv_iload_n hx hb dJ7_rangeCheck_23922_60 rfl (lv_at hl 0 rfl) ?_
  refine n_le_t (tgt := 73) hx hb (by omega) (by omega) dJ7_rangeCheck_23922_61 (by decide) ?_
  exact e_void hx hb hr hlk hAe hW (by omega) (by omega) dJ7_rangeCheck_23922_73 ⟨rfl, rfl⟩
set_option maxHeartbeats 4000000 in
set_option maxRecDepth 100000 in
theorem k_fill (l : Launch) (Z : Zt) (a n lo hi x : Nat) (r : Nat → Nat) (h : lo ≤ hi) (hn : hi ≤ n) (hnb : n ≤ 1000000) : MC l yJ7_fill_fda19 cJ7_fill_fda19 5 none 2 80 (0) (0) Z ([ea Z a n r]) (fun _ => True) [.ref a, .int (nI lo), .int (nI hi), .int (nI x)] (fun v w1 => ∃ f : Nat → Nat, v = none ∧ w1 = [ea Z a n f] ∧ ∀ j, f j = if lo ≤ j ∧ j < hi then x else r j) := by
  refine mc_of (by decide) (Nat.le_of_ble_eq_true rfl) (fun p e s m below meth c ls A hx hb hr hts hown hlk hml hin hK hG hW hA hAe hro hl R hRf hRc hRs hRl => ?_)
  have hl : lv_has ls 5 [(0, .ref a), (1, .int (nI lo)), (2, .int (nI hi)), (3, .int (nI x))] := hl
  have loop : ∀ (d i : Nat) (g : Nat → Nat) (H : Heap) (locs : List Loc) (ls : Array Slot), i + d = hi → lo ≤ i → (∀ j, g j = if lo ≤ j ∧ j < i then x else r j) → Wd Z A s.heap [ea Z a n g] H locs → lv_has ls 5 [(0, .ref a), (2, .int (nI hi)), (3, .int (nI x)), (4, .int (nI i))] → W p l e R s m ([.ref a, .int (nI lo), .int (nI hi), .int (nI x)] : List Value).toArray below meth c H locs 0 0 (MQ below (QC Z [ea Z a n r] s.heap.size (fun v w1 => ∃ f : Nat → Nat, v = none ∧ w1 = [ea Z a n f] ∧ ∀ j, f j = if lo ≤ j ∧ j < hi then x else r j)) ([.ref a, .int (nI lo), .int (nI hi), .int (nI x)] : List Value).toArray s 0 0 A) (F0 m 10 ls []) := by
    intro d
    induction d with
    | zero =>
      intro i g H locs ls hid hlo hg hW hl
      refine lv_iload hx hb dJ7_fill_fda19_10 (lv_at hl 3 rfl) ?_
      refine lv_iload_n hx hb dJ7_fill_fda19_12 rfl (lv_at hl 1 rfl) ?_
      refine n_ge_t (tgt := 27) hx hb (by omega) (by omega) dJ7_fill_fda19_13 (by decide) ?_
      have hi2 : i = hi := by omega
      subst hi2
      exact e_void hx hb hr hlk hAe hW (by omega) (by omega) dJ7_fill_fda19_27 ⟨g, rfl, rfl, hg⟩
    | succ d ih =>
      intro i g H locs ls hid hlo hg hW hl
      refine lv_iload hx hb dJ7_fill_fda19_10 (lv_at hl 3 rfl) ?_
      refine lv_iload_n hx hb dJ7_fill_fda19_12 rfl (lv_at hl 1 rfl) ?_
      refine n_ge_f (tgt := 27) hx hb (by omega) (by omega) dJ7_fill_fda19_13 (by decide) ?_
      refine lv_aload_n hx hb dJ7_fill_fda19_16 rfl (lv_at hl 0 rfl) ?_
      refine lv_iload hx hb dJ7_fill_fda19_17 (lv_at hl 3 rfl) ?_
      refine lv_iload_n hx hb dJ7_fill_fda19_19 rfl (lv_at hl 2 rfl) ?_
      refine r_ast (i := i) (x := x) hx hb hK hW 0 rfl (by omega) (by omega) dJ7_fill_fda19_20 (fun H locs hW => ?_)
      have hW : Wd Z A s.heap ([ea Z a n (up g i x)]) _ _ := hW
      refine lv_iinc (v := nI (i + 1)) (lv' := [(4, .int (nI (i + 1))), (0, .ref a), (2, .int (nI hi)), (3, .int (nI x))]) hx hb dJ7_fill_fda19_21 hl (k := 3) rfl (inc1 _) (by decide) rfl (fun ls hl => ?_)
      refine lv_goto (tgt := 10) hx hb dJ7_fill_fda19_24 (by decide) ?_
      refine ih (i + 1) (up g i x) _ _ ls (by omega) (by omega) (fun j => ?_) hW (lv_sub hl [1, 2, 3, 0] rfl)
      by_cases e : j = i
      · subst e; rw [up_s, if_pos (by omega)]
      · rw [up_n _ _ e, hg j]
        by_cases q : lo ≤ j ∧ j < i
        · rw [if_pos q, if_pos (by omega)]
        · rw [if_neg q, if_neg (by omega)]
  refine lv_aload_n hx hb dJ7_fill_fda19_0 rfl (lv_at hl 0 rfl) ?_
  refine r_len hx hb hK (hW.at 0 rfl) dJ7_fill_fda19_1 ?_
  refine lv_iload_n hx hb dJ7_fill_fda19_2 rfl (lv_at hl 1 rfl) ?_
  refine lv_iload_n hx hb dJ7_fill_fda19_3 rfl (lv_at hl 2 rfl) ?_
  refine c_stat (As := [.int (nI n), .int (nI lo), .int (nI hi)]) (rest := []) (wc := []) (wr := [ea Z a n r]) hx hb hml hown hts hK hG rfl hA hl (k_rangeCheck l Z n lo hi h hn hnb) hW trivial tb_731 tb_732 tb_13 tb_733 (nA := 3) (by decide +kernel) rfl ⟨by omega, by omega⟩ ⟨by omega, by omega⟩ rfl (Nat.le_of_ble_eq_true rfl) dJ7_fill_fda19_4 (fun v w1 H1 L1 hp hW hzz hkk hdd => ?_)
  obtain ⟨rfl, rfl⟩ := hp
  clear hzz hkk hdd
  generalize H1 = H at hW ⊢
  generalize L1 = locs at hW ⊢
  have hW : Wd Z A s.heap ([ea Z a n r]) _ _ := hW
  refine W.eq (g2 := F0 m 7 ls []) rfl ?_
  refine lv_iload_n hx hb dJ7_fill_fda19_7 rfl (lv_at hl 1 rfl) ?_
  refine lv_istore (lv' := [(4, .int (nI lo)), (0, .ref a), (1, .int (nI lo)), (2, .int (nI hi)), (3, .int (nI x))]) hx hb dJ7_fill_fda19_8 hl (by decide) rfl (fun ls hl => ?_)
  exact loop (hi - lo) lo r _ _ ls (by omega) (Nat.le_refl _) (fun j => by rw [if_neg (by omega)]) hW (lv_sub hl [1, 3, 4, 0] rfl)
/-- moved by k places upwards (upw = 1) or downwards, fl coming in -/
def mvd (r : Nat → Nat) (w k upw fl j : Nat) : Nat := if upw = 1 then (if k ≤ j then r (j - k) else fl) else (if j + k < w then r (j + k) else fl)
set_option maxHeartbeats 4000000 in
set_option maxRecDepth 100000 in
/-- Reckoner.moved -/
theorem k_moved (l : Launch) (Z : Zt) (aa w k upw fl : Nat) (ra : Nat → Nat) (hw : w ≤ 1000) (hk : k ≤ 1000) (hu : upw ≤ 1) : MC l yX1_moved cX1_moved 7 (some (.array .int)) 0 0 (1) (w) Z ([]) (fun H => zat Z (ea Z aa w ra) H) [.ref aa, .int (nI k), .int (nI upw), .int (nI fl)] (fun v w1 => ∃ (q : Nat) (f : Nat → Nat), v = some (.ref q) ∧ w1 = [ea Z q w f] ∧ ∀ j, j < w → f j = mvd ra w k upw fl j) := by
  refine mc_of (by decide) (Nat.le_of_ble_eq_true rfl) (fun p e s m below meth c ls A hx hb hr hts hown hlk hml hin hK hG hW hA hAe hro hl R hRf hRc hRs hRl => ?_)
  have hl : lv_has ls 7 [(0, .ref aa), (1, .int (nI k)), (2, .int (nI upw)), (3, .int (nI fl))] := hl
  have loop : ∀ (d i q : Nat) (row : Nat → Nat) (H : Heap) (locs : List Loc) (ls : Array Slot), i + d = w → (∀ j, j < i → row j = mvd ra w k upw fl j) → Wd Z A s.heap [ea Z q w row] H locs → lv_has ls 7 [(0, .ref aa), (1, .int (nI k)), (2, .int (nI upw)), (3, .int (nI fl)), (4, .ref q), (5, .int (nI i))] → W p l e R s m ([.ref aa, .int (nI k), .int (nI upw), .int (nI fl)] : List Value).toArray below meth c H locs 1 w (MQ below (QC Z [] s.heap.size (fun v w1 => ∃ (q : Nat) (f : Nat → Nat), v = some (.ref q) ∧ w1 = [ea Z q w f] ∧ ∀ j, j < w → f j = mvd ra w k upw fl j)) ([.ref aa, .int (nI k), .int (nI upw), .int (nI fl)] : List Value).toArray s 1 w A) (F0 m 9 ls []) := by
    intro d
    induction d with
    | zero =>
      intro i q row H locs ls hid hrow hW hl
      refine lv_iload hx hb dX1_moved_9 (lv_at hl 5 rfl) ?_
      refine lv_aload_n hx hb dX1_moved_11 rfl (lv_at hl 0 rfl) ?_
      refine r_len hx hb hK ((RO.nil hro).here hAe hW) dX1_moved_12 ?_
      refine n_ge_t (tgt := 64) hx hb (by omega) (by omega) dX1_moved_13 (by decide) ?_
      refine lv_aload hx hb dX1_moved_64 (lv_at hl 4 rfl) ?_
      exact e_ref hx hb hr (Or.inr ⟨_, rfl⟩) hlk hAe hW (by omega) (by omega) dX1_moved_66 ⟨q, row, rfl, rfl, fun j hj => hrow j (by omega)⟩
    | succ d ih =>
      intro i q row H locs ls hid hrow hW hl
      have nxt : ∀ (v : Nat) (H1 : Heap) (L1 : List Loc) (ls1 : Array Slot), v = mvd ra w k upw fl i → Wd Z A s.heap [ea Z q w (up row i v)] H1 L1 → lv_has ls1 7 [(0, .ref aa), (1, .int (nI k)), (2, .int (nI upw)), (3, .int (nI fl)), (4, .ref q), (5, .int (nI (i + 1)))] → W p l e R s m ([.ref aa, .int (nI k), .int (nI upw), .int (nI fl)] : List Value).toArray below meth c H1 L1 1 w (MQ below (QC Z [] s.heap.size (fun v w1 => ∃ (q : Nat) (f : Nat → Nat), v = some (.ref q) ∧ w1 = [ea Z q w f] ∧ ∀ j, j < w → f j = mvd ra w k upw fl j)) ([.ref aa, .int (nI k), .int (nI upw), .int (nI fl)] : List Value).toArray s 1 w A) (F0 m 9 ls1 []) := by
        intro v H1 L1 ls1 hv hW1 hl1
        refine ih (i + 1) q (up row i v) H1 L1 ls1 (by omega) (fun j hj => ?_) hW1 hl1
        by_cases e : j = i
        · subst e; rw [up_s]; exact hv
        · rw [up_n _ _ e]; exact hrow j (by omega)
      refine lv_iload hx hb dX1_moved_9 (lv_at hl 5 rfl) ?_
      refine lv_aload_n hx hb dX1_moved_11 rfl (lv_at hl 0 rfl) ?_
      refine r_len hx hb hK ((RO.nil hro).here hAe hW) dX1_moved_12 ?_
      refine n_ge_f (tgt := 64) hx hb (by omega) (by omega) dX1_moved_13 (by decide) ?_
      refine lv_iload_n hx hb dX1_moved_16 rfl (lv_at hl 2 rfl) ?_
      by_cases hup : upw = 1
      · refine n_zeq_f (tgt := 27) hx hb (by omega) (by omega) dX1_moved_17 (by decide) ?_
        refine lv_iload hx hb dX1_moved_20 (lv_at hl 5 rfl) ?_
        refine lv_iload_n hx hb dX1_moved_22 rfl (lv_at hl 1 rfl) ?_
        by_cases hki : k ≤ i
        · refine n_isub hx hb (by omega) dX1_moved_23 ?_
          refine lv_goto (tgt := 31) hx hb dX1_moved_24 (by decide) ?_
          refine lv_istore (lv' := [(6, .int (nI (i - k))), (0, .ref aa), (1, .int (nI k)), (2, .int (nI upw)), (3, .int (nI fl)), (4, .ref q), (5, .int (nI i))]) hx hb dX1_moved_31 hl (by decide) rfl (fun ls hl => ?_)
          refine lv_aload hx hb dX1_moved_33 (lv_at hl 5 rfl) ?_
          refine lv_iload hx hb dX1_moved_35 (lv_at hl 6 rfl) ?_
          refine lv_iload hx hb dX1_moved_37 (lv_at hl 0 rfl) ?_
          refine n_zlt_f (tgt := 56) hx hb (by omega) dX1_moved_39 (by decide) ?_
          refine lv_iload hx hb dX1_moved_42 (lv_at hl 0 rfl) ?_
          refine lv_aload_n hx hb dX1_moved_44 rfl (lv_at hl 1 rfl) ?_
          refine r_len hx hb hK ((RO.nil hro).here hAe hW) dX1_moved_45 ?_
          refine n_ge_f (tgt := 56) hx hb (by omega) (by omega) dX1_moved_46 (by decide) ?_
          refine lv_aload_n hx hb dX1_moved_49 rfl (lv_at hl 1 rfl) ?_
          refine lv_iload hx hb dX1_moved_50 (lv_at hl 0 rfl) ?_
          refine r_ald (i := (i - k)) hx hb hK ((RO.nil hro).here hAe hW) (by omega) (by omega) dX1_moved_52 ?_
          refine lv_goto (tgt := 57) hx hb dX1_moved_53 (by decide) ?_
          refine r_ast (i := i) (x := (ra (i - k))) hx hb hK hW 0 rfl (by omega) (by omega) dX1_moved_57 (fun H locs hW => ?_)
          have hW : Wd Z A s.heap ([ea Z q w (up row i (ra (i - k)))]) _ _ := hW
          refine lv_iinc (v := nI (i + 1)) (lv' := [(5, .int (nI (i + 1))), (6, .int (nI (i - k))), (0, .ref aa), (1, .int (nI k)), (2, .int (nI upw)), (3, .int (nI fl)), (4, .ref q)]) hx hb dX1_moved_58 hl (k := 6) rfl (inc1 _) (by decide) rfl (fun ls hl => ?_)
          refine lv_goto (tgt := 9) hx hb dX1_moved_61 (by decide) ?_
          exact nxt (ra (i - k)) _ _ ls (by rw [mvd, if_pos hup, if_pos hki]) hW (lv_sub hl [2, 3, 4, 5, 6, 0] rfl)
        · refine lv_isub hx hb dX1_moved_23 ?_
          refine lv_goto (tgt := 31) hx hb dX1_moved_24 (by decide) ?_
          refine lv_istore (lv' := [(6, .int (nI i - nI k)), (0, .ref aa), (1, .int (nI k)), (2, .int (nI upw)), (3, .int (nI fl)), (4, .ref q), (5, .int (nI i))]) hx hb dX1_moved_31 hl (by decide) rfl (fun ls hl => ?_)
          refine lv_aload hx hb dX1_moved_33 (lv_at hl 5 rfl) ?_
          refine lv_iload hx hb dX1_moved_35 (lv_at hl 6 rfl) ?_
          refine lv_iload hx hb dX1_moved_37 (lv_at hl 0 rfl) ?_
          refine lv_if_lt (tgt := 56) hx hb dX1_moved_39 (by decide) (fun _ => ?_) (fun q => absurd (pk_sneg (by omega) (by omega)) q)
          refine lv_iload_n hx hb dX1_moved_56 rfl (lv_at hl 4 rfl) ?_
          refine r_ast (i := i) (x := fl) hx hb hK hW 0 rfl (by omega) (by omega) dX1_moved_57 (fun H locs hW => ?_)
          have hW : Wd Z A s.heap ([ea Z q w (up row i fl)]) _ _ := hW
          refine lv_iinc (v := nI (i + 1)) (lv' := [(5, .int (nI (i + 1))), (6, .int (nI i - nI k)), (0, .ref aa), (1, .int (nI k)), (2, .int (nI upw)), (3, .int (nI fl)), (4, .ref q)]) hx hb dX1_moved_58 hl (k := 6) rfl (inc1 _) (by decide) rfl (fun ls hl => ?_)
          refine lv_goto (tgt := 9) hx hb dX1_moved_61 (by decide) ?_
          exact nxt (fl) _ _ ls (by rw [mvd, if_pos hup, if_neg hki]) hW (lv_sub hl [2, 3, 4, 5, 6, 0] rfl)
      · refine n_zeq_t (tgt := 27) hx hb (by omega) dX1_moved_17 (by decide) ?_
        refine lv_iload hx hb dX1_moved_27 (lv_at hl 5 rfl) ?_
        refine lv_iload_n hx hb dX1_moved_29 rfl (lv_at hl 1 rfl) ?_
        refine n_iadd hx hb dX1_moved_30 ?_
        refine lv_istore (lv' := [(6, .int (nI (i + k))), (0, .ref aa), (1, .int (nI k)), (2, .int (nI upw)), (3, .int (nI fl)), (4, .ref q), (5, .int (nI i))]) hx hb dX1_moved_31 hl (by decide) rfl (fun ls hl => ?_)
        refine lv_aload hx hb dX1_moved_33 (lv_at hl 5 rfl) ?_
        refine lv_iload hx hb dX1_moved_35 (lv_at hl 6 rfl) ?_
        refine lv_iload hx hb dX1_moved_37 (lv_at hl 0 rfl) ?_
        refine n_zlt_f (tgt := 56) hx hb (by omega) dX1_moved_39 (by decide) ?_
        refine lv_iload hx hb dX1_moved_42 (lv_at hl 0 rfl) ?_
        refine lv_aload_n hx hb dX1_moved_44 rfl (lv_at hl 1 rfl) ?_
        refine r_len hx hb hK ((RO.nil hro).here hAe hW) dX1_moved_45 ?_
        by_cases hki : i + k < w
        · refine n_ge_f (tgt := 56) hx hb (by omega) (by omega) dX1_moved_46 (by decide) ?_
          refine lv_aload_n hx hb dX1_moved_49 rfl (lv_at hl 1 rfl) ?_
          refine lv_iload hx hb dX1_moved_50 (lv_at hl 0 rfl) ?_
          refine r_ald (i := (i + k)) hx hb hK ((RO.nil hro).here hAe hW) (by omega) (by omega) dX1_moved_52 ?_
          refine lv_goto (tgt := 57) hx hb dX1_moved_53 (by decide) ?_
          refine r_ast (i := i) (x := (ra (i + k))) hx hb hK hW 0 rfl (by omega) (by omega) dX1_moved_57 (fun H locs hW => ?_)
          have hW : Wd Z A s.heap ([ea Z q w (up row i (ra (i + k)))]) _ _ := hW
          refine lv_iinc (v := nI (i + 1)) (lv' := [(5, .int (nI (i + 1))), (6, .int (nI (i + k))), (0, .ref aa), (1, .int (nI k)), (2, .int (nI upw)), (3, .int (nI fl)), (4, .ref q)]) hx hb dX1_moved_58 hl (k := 6) rfl (inc1 _) (by decide) rfl (fun ls hl => ?_)
          refine lv_goto (tgt := 9) hx hb dX1_moved_61 (by decide) ?_
          exact nxt (ra (i + k)) _ _ ls (by rw [mvd, if_neg hup, if_pos hki]) hW (lv_sub hl [2, 3, 4, 5, 6, 0] rfl)
        · refine n_ge_t (tgt := 56) hx hb (by omega) (by omega) dX1_moved_46 (by decide) ?_
          refine lv_iload_n hx hb dX1_moved_56 rfl (lv_at hl 4 rfl) ?_
          refine r_ast (i := i) (x := fl) hx hb hK hW 0 rfl (by omega) (by omega) dX1_moved_57 (fun H locs hW => ?_)
          have hW : Wd Z A s.heap ([ea Z q w (up row i fl)]) _ _ := hW
          refine lv_iinc (v := nI (i + 1)) (lv' := [(5, .int (nI (i + 1))), (6, .int (nI (i + k))), (0, .ref aa), (1, .int (nI k)), (2, .int (nI upw)), (3, .int (nI fl)), (4, .ref q)]) hx hb dX1_moved_58 hl (k := 6) rfl (inc1 _) (by decide) rfl (fun ls hl => ?_)
          refine lv_goto (tgt := 9) hx hb dX1_moved_61 (by decide) ?_
          exact nxt (fl) _ _ ls (by rw [mvd, if_neg hup, if_neg hki]) hW (lv_sub hl [2, 3, 4, 5, 6, 0] rfl)
  refine lv_aload_n hx hb dX1_moved_0 rfl (lv_at hl 0 rfl) ?_
  refine r_len hx hb hK ((RO.nil hro).here hAe hW) dX1_moved_1 ?_
  refine r_newa (n := w) hx hb hts tb_65 hK hW hA (by omega) (by omega) (by omega) dX1_moved_2 (fun q H hW hsz_q hq_q => ?_)
  have hW : Wd Z A s.heap ([ea Z q w (fun _ => 0)]) _ _ := hW
  refine lv_astore (lv' := [(4, .ref q), (0, .ref aa), (1, .int (nI k)), (2, .int (nI upw)), (3, .int (nI fl))]) hx hb dX1_moved_4 hl (by decide) rfl (fun ls hl => ?_)
  refine lv_iconst (v := nI 0) hx hb dX1_moved_6 (by decide) ?_
  refine lv_istore (lv' := [(5, .int (nI 0)), (4, .ref q), (0, .ref aa), (1, .int (nI k)), (2, .int (nI upw)), (3, .int (nI fl))]) hx hb dX1_moved_7 hl (by decide) rfl (fun ls hl => ?_)
  have e1 : (0 : Nat) + 1 = 1 := rfl
  rw [e1, Nat.zero_add]
  exact loop w 0 q (fun _ => 0) _ _ ls (by omega) (fun j hj => absurd hj (by omega)) hW (lv_sub hl [2, 3, 4, 5, 1, 0] rfl)
set_option maxHeartbeats 4000000 in
set_option maxRecDepth 100000 in
/-- Reckoner.withoutCarry -/
theorem k_withoutCarry (l : Launch) (Z : Zt) (aa w : Nat) (ra : Nat → Nat) (hw : w ≤ 1000) : MC l yX1_withoutCarry cX1_withoutCarry 1 (some (.array .int)) 3 120 (1) (w) Z ([]) (fun H => zat Z (ea Z aa (w + 1) ra) H) [.ref aa] (fun v w1 => ∃ (q : Nat) (f : Nat → Nat), v = some (.ref q) ∧ w1 = [ea Z q w f] ∧ ∀ j, j < w → f j = ra j) := by
  refine mc_of (by decide) (Nat.le_of_ble_eq_true rfl) (fun p e s m below meth c ls A hx hb hr hts hown hlk hml hin hK hG hW hA hAe hro hl R hRf hRc hRs hRl => ?_)
  have hl : lv_has ls 1 [(0, .ref aa)] := hl
  refine lv_aload_n hx hb dX1_withoutCarry_0 rfl (lv_at hl 0 rfl) ?_
  refine lv_aload_n hx hb dX1_withoutCarry_1 rfl (lv_at hl 0 rfl) ?_
  refine r_len hx hb hK ((RO.nil hro).here hAe hW) dX1_withoutCarry_2 ?_
  refine lv_iconst (v := nI 1) hx hb dX1_withoutCarry_3 (by decide) ?_
  refine n_isub hx hb (by omega) dX1_withoutCarry_4 ?_
  refine lv_iconst (v := nI 0) hx hb dX1_withoutCarry_5 (by decide) ?_
  refine n_max hx hb hml hl hown hts tb_387 (by omega) (by rw [hRl]; exact Nat.le_of_ble_eq_true rfl) (by omega) (by omega) (x := w + 1 - 1) (y := 0) (by omega) (by omega) dX1_withoutCarry_6 ?_
  rw [show max (w + 1 - 1) 0 = w by omega]
  refine c_stat (As := [.ref aa, .int (nI w)]) (rest := []) (wc := []) (wr := []) hx hb hml hown hts hK hG rfl hA hl (k_copyOf l Z aa (w + 1) w ra (by omega) (by omega)) hW ((RO.nil hro).here hAe hW) tb_388 tb_231 tb_13 tb_232 (nA := 2) (by decide +kernel) rfl ⟨by omega, by omega⟩ ⟨by omega, by omega⟩ rfl (Nat.le_of_ble_eq_true rfl) dX1_withoutCarry_9 (fun v w1 H1 L1 hp hW hzz hkk hdd => ?_)
  obtain ⟨q, f, rfl, rfl, hf⟩ := hp
  clear hzz hkk hdd
  generalize H1 = H at hW ⊢
  generalize L1 = locs at hW ⊢
  have hW : Wd Z A s.heap ([ea Z q w f]) _ _ := hW
  refine W.eq (g2 := F0 m 12 ls [.ref q]) rfl ?_
  exact e_ref hx hb hr (Or.inr ⟨_, rfl⟩) hlk hAe hW (by omega) (by omega) dX1_withoutCarry_12 ⟨q, f, rfl, rfl, fun j hj => by rw [hf j hj, if_pos (by omega)]⟩
end
section
def numQ (Z : Zt) (hc : Nat) (x : CS) (σ : Nat → Bool) (k w : Nat) (N : (Nat → Bool) → Nat) (v : Option Value) (w1 : va_W) : Prop := ∃ (y : CS) (q : Nat) (f : Nat → Nat), v = some (.ref q) ∧ w1 = cw Z hc y ++ [ea Z q w f] ∧ stp x σ k y ∧ (∀ j, j < w → f j < xn y) ∧ ∀ τ, gd τ → rn y τ f w = N τ
def bitQ (Z : Zt) (hc : Nat) (x : CS) (σ : Nat → Bool) (k : Nat) (B : (Nat → Bool) → Bool) (v : Option Value) (w1 : va_W) : Prop := ∃ (y : CS) (g : Nat), v = some (.int (nI g)) ∧ w1 = cw Z hc y ∧ stp x σ k y ∧ g < xn y ∧ ∀ τ, gd τ → vl y τ g = B τ
theorem low_mod {r b S w : Nat} (h : r + b * 2 ^ w = S) (hr : r < 2 ^ w) : r = S % 2 ^ w := by
  rw [← h, Nat.add_mul_mod_self_right, Nat.mod_eq_of_lt hr]
theorem rn_zero {x : CS} {τ σ : Nat → Bool} (h : cok x σ) (hτ : gd τ) (w : Nat) : rn x τ (fun _ => 0) w = 0 := by
  have e : rn x τ (fun _ => 0) w = bn (fun _ => false) w := bn_congr (fun j _ => vl_0 h hτ)
  rw [e, bn_zero]
def ngN (c : Bool) (A w : Nat) : Nat := if c then (2 ^ w - A) % 2 ^ w else A
theorem ng_row {A w : Nat} {β γ : Nat → Bool} {c : Bool} (hA : bn β w = A) (h : ∀ j, j < w → γ j = (β j ^^ c)) : (bn γ w + 0 + c.toNat) % 2 ^ w = ngN c A w := by
  rw [bn_congr h, ngN]
  have hlt := bn_lt β w
  cases c
  · simp only [Bool.xor_false, Bool.toNat_false, Nat.add_zero]
    rw [hA, Nat.mod_eq_of_lt (by omega)]; rfl
  · have hn := bn_not β w
    simp only [Bool.xor_true, Bool.toNat_true, Nat.add_zero, if_true]
    congr 1
    omega
theorem eq_step {a b i : Nat} {p q : Bool} (ha : a < 2 ^ i) (hb : b < 2 ^ i) : (a + p.toNat * 2 ^ i = b + q.toNat * 2 ^ i) ↔ (a = b ∧ p = q) := by
  refine ⟨fun h => ?_, fun h => by rw [h.1, h.2]⟩
  cases p <;> cases q <;> simp only [Bool.toNat_true, Bool.toNat_false, Nat.zero_mul, Nat.one_mul, Nat.add_zero] at h <;> first | exact ⟨by omega, rfl⟩ | omega
theorem ge_bit {A B r : Nat} {b : Bool} {w : Nat} (h : r + b.toNat * 2 ^ w = A + (2 ^ w - 1 - B) + 1) (hr : r < 2 ^ w) (hA : A < 2 ^ w) (hB : B < 2 ^ w) : b = decide (B ≤ A) := by
  cases b
  · simp only [Bool.toNat_false, Nat.zero_mul, Nat.add_zero] at h
    exact (decide_eq_false (by omega)).symm
  · simp only [Bool.toNat_true, Nat.one_mul] at h
    exact (decide_eq_true (by omega)).symm
set_option maxHeartbeats 4000000 in
set_option maxRecDepth 100000 in
/-- Reckoner.negatedIf -/
theorem k_negatedIf (l : Launch) (Z : Zt) (hk hc : Nat) (x : CS) (σ : Nat → Bool) (cd aa w : Nat) (ra : Nat → Nat) (hx0 : cok x σ) (hn : xn x + (6 * w) < 400000) (hw : w ≤ 64) (hcd : cd < xn x) (hra : ∀ j, j < w → ra j < xn x) : MC l yX1_negatedIf cX1_negatedIf 5 (some (.array .int)) 6 260 (4 + 4 * (capU (xu x) (xn x + (6 * w)) - xu x)) ((4 * w + 1) + 512 * (capU (xu x) (xn x + (6 * w)) - xu x)) Z (cw Z hc x) (fun H => RO Z (cw Z hc x) (eo hk 1 [.ref hc]) H ∧ RO Z (cw Z hc x) (ea Z aa w ra) H) [.ref hk, .int (nI cd), .ref aa] (numQ Z hc x σ (6 * w) w (fun τ => ngN (vl x τ cd) (rn x τ ra w) w)) := by
  refine mc_of (by decide) (Nat.le_of_ble_eq_true rfl) (fun p e s m below meth c ls A hx hb hr hts hown hlk hml hin hK hG hW hA hAe hro hl R hRf hRc hRs hRl => ?_)
  have hl : lv_has ls 5 [(0, .ref hk), (1, .int (nI cd)), (2, .ref aa)] := hl
  have hW : Wd Z A s.heap (cw Z hc x ++ []) _ _ := hW
  obtain ⟨KK, hKK⟩ : ∃ k, k = 6 * w := ⟨_, rfl⟩
  rw [← hKK] at hRc hRs hn
  have loop : ∀ (d i : Nat) (y : CS) (q : Nat) (row : Nat → Nat) (H : Heap) (locs : List Loc) (cl sl : Nat) (ls : Array Slot), i + d = w → stp x σ i y → (∀ j, j < i → row j < xn y) → (∀ τ, gd τ → ∀ j, j < i → vl y τ (row j) = (vl x τ (ra j) ^^ vl x τ cd)) → cl = 1 + 4 * (xu y - xu x) → sl = w + 512 * (xu y - xu x) → Wd Z A s.heap (cw Z hc y ++ [ea Z q w row]) H locs → lv_has ls 5 [(0, .ref hk), (1, .int (nI cd)), (2, .ref aa), (3, .ref q), (4, .int (nI i))] → W p l e R s m ([.ref hk, .int (nI cd), .ref aa] : List Value).toArray below meth c H locs cl sl (MQ below (QC Z (cw Z hc x) s.heap.size (numQ Z hc x σ (6 * w) w (fun τ => ngN (vl x τ cd) (rn x τ ra w) w))) ([.ref hk, .int (nI cd), .ref aa] : List Value).toArray s (4 + 4 * (capU (xu x) (xn x + (6 * w)) - xu x)) ((4 * w + 1) + 512 * (capU (xu x) (xn x + (6 * w)) - xu x)) A) (F0 m 8 ls []) := by
    intro d
    induction d with
    | zero =>
      intro i y q row H locs cl sl ls hid hy hrow hsem hcl hsl hW hl
      have hi : i = w := by omega
      refine lv_iload hx hb dX1_negatedIf_8 (lv_at hl 4 rfl) ?_
      refine lv_aload_n hx hb dX1_negatedIf_10 rfl (lv_at hl 2 rfl) ?_
      refine r_len hx hb hK (hro.2.here hAe hW) dX1_negatedIf_11 ?_
      refine n_ge_t (tgt := 37) hx hb (by omega) (by omega) dX1_negatedIf_12 (by decide) ?_
      rw [hi] at hy hrow hsem
      have hny := hy.2.2.1
      have hco := hy.cost (j := 5 * w) (K := KK) (by omega)
      refine lv_aload_n hx hb dX1_negatedIf_37 rfl (lv_at hl 0 rfl) ?_
      refine lv_aload_n hx hb dX1_negatedIf_38 rfl (lv_at hl 3 rfl) ?_
      refine lv_aload_n hx hb dX1_negatedIf_39 rfl (lv_at hl 2 rfl) ?_
      refine r_len hx hb hK (hro.2.here hAe hW) dX1_negatedIf_40 ?_
      refine r_newa (n := w) hx hb hts tb_65 hK hW hA (by omega) (by omega) (by omega) dX1_negatedIf_41 (fun q2 H hW hsz_q2 hq_q2 => ?_)
      have hW : Wd Z A s.heap (cw Z hc y ++ [ea Z q w row, ea Z q2 w (fun _ => 0)]) _ _ := hW
      refine lv_iload_n hx hb dX1_negatedIf_43 rfl (lv_at hl 1 rfl) ?_
      refine c_virt (As := [.ref q, .ref q2, .int (nI cd)]) (rest := []) (wc := cw Z hc y) (wr := [ea Z q w row, ea Z q2 w (fun _ => 0)]) (nl := 0) hx hb hml hown hts hK hG rfl hA hl (k_sum l Z hk hc y σ q q2 w w row (fun _ => 0) cd hy.1 (by omega) hw (Nat.le_refl _) (by omega) hrow (fun j _ => by have := hy.1.1; omega) (by omega)) hW ⟨RO.pass hro.1 hAe hW, RO.loc hW 0 rfl, RO.loc hW 1 rfl⟩ (hro.1.here hAe hW) rfl rfl tb_372 tb_373 tb_374 tb_2 tb_375 (nA := 3) (by decide +kernel) rfl ⟨by omega, by omega⟩ ⟨by omega, by omega⟩ rfl (Nat.le_of_ble_eq_true rfl) dX1_negatedIf_44 (fun v w1 H1 L1 hp hW hzz hkk hdd => ?_)
      obtain ⟨y2, q3, f, rfl, rfl, hst, hfb, hfs⟩ := hp
      clear hzz hkk hdd
      generalize H1 = H at hW  ⊢
      generalize L1 = locs at hW ⊢
      have hW : Wd Z A s.heap (cw Z hc y2 ++ [ea Z q3 (w + 1) f, ea Z q w row, ea Z q2 w (fun _ => 0)]) _ _ := hW
      refine W.eq (g2 := F0 m 47 ls [.ref q3]) rfl ?_
      have hu2 := hst.2.2.2
      have h2 := hy.tr hst
      refine c_stat (As := [.ref q3]) (rest := []) (wc := []) (wr := cw Z hc y2 ++ [ea Z q3 (w + 1) f, ea Z q w row, ea Z q2 w (fun _ => 0)]) hx hb hml hown hts hK hG rfl hA hl (k_withoutCarry l Z q3 w f (by omega)) hW (hW.at 5 rfl) tb_384 tb_385 tb_2 tb_386 (nA := 1) (by decide +kernel) rfl ⟨by omega, by omega⟩ ⟨by omega, by omega⟩ rfl (Nat.le_of_ble_eq_true rfl) dX1_negatedIf_47 (fun v w1 H1 L1 hp hW hzz hkk hdd => ?_)
      obtain ⟨q4, f4, rfl, rfl, hf4⟩ := hp
      clear hzz hkk hdd
      generalize H1 = H at hW  ⊢
      generalize L1 = locs at hW ⊢
      have hW : Wd Z A s.heap ([ea Z q4 w f4] ++ cw Z hc y2 ++ [ea Z q3 (w + 1) f, ea Z q w row, ea Z q2 w (fun _ => 0)]) _ _ := hW
      refine W.eq (g2 := F0 m 50 ls [.ref q4]) rfl ?_
      have hW : Wd Z A s.heap (cw Z hc y2 ++ [ea Z q4 w f4]) _ _ := hW.sub [1, 2, 3, 4, 5, 0] (by decide) rfl
      rw [hKK] at hco hRc hRs
      have hu3 := h2.2.2.2
      refine e_ref hx hb hr (Or.inr ⟨_, rfl⟩) hlk hAe hW (by omega) (by omega) dX1_negatedIf_50 ⟨y2, q4, f4, rfl, rfl, (by have e : 6 * w = w + 5 * w := (by omega); rw [e]; exact h2), fun j hj => (by rw [hf4 j hj]; exact hfb j (by omega)), fun τ hτ => ?_⟩
      have hs := hfs τ hτ
      rw [rn_s, rn_zero hy.1 hτ, hy.2.1.vl hcd] at hs
      rw [rn_congr hf4, low_mod hs (rn_lt _ _ _ _)]
      exact ng_row rfl (hsem τ hτ)
    | succ d ih =>
      intro i y q row H locs cl sl ls hid hy hrow hsem hcl hsl hW hl
      have hny := hy.2.2.1
      have hra_i := hra i (by omega)
      refine lv_iload hx hb dX1_negatedIf_8 (lv_at hl 4 rfl) ?_
      refine lv_aload_n hx hb dX1_negatedIf_10 rfl (lv_at hl 2 rfl) ?_
      refine r_len hx hb hK (hro.2.here hAe hW) dX1_negatedIf_11 ?_
      refine n_ge_f (tgt := 37) hx hb (by omega) (by omega) dX1_negatedIf_12 (by decide) ?_
      refine lv_aload_n hx hb dX1_negatedIf_15 rfl (lv_at hl 3 rfl) ?_
      refine lv_iload hx hb dX1_negatedIf_16 (lv_at hl 4 rfl) ?_
      refine lv_aload_n hx hb dX1_negatedIf_18 rfl (lv_at hl 0 rfl) ?_
      refine r_get hx hb hts hown hK (hro.1.here hAe hW) rfl in_X1 0 (by decide) tb_66 (fun _ h => h) rfl dX1_negatedIf_19 ?_
      refine lv_aload_n hx hb dX1_negatedIf_22 rfl (lv_at hl 2 rfl) ?_
      refine lv_iload hx hb dX1_negatedIf_23 (lv_at hl 4 rfl) ?_
      refine r_ald (i := i) hx hb hK (hro.2.here hAe hW) (by omega) (by omega) dX1_negatedIf_25 ?_
      refine lv_iload_n hx hb dX1_negatedIf_26 rfl (lv_at hl 1 rfl) ?_
      have hsy := hy
      have hco := hy.cost (j := 1) (K := KK) (by omega)
      refine c_virt (As := [.int (nI (ra i)), .int (nI cd)]) (rest := [.int (nI i), .ref q]) (wc := cw Z hc y) (wr := [ea Z q w row]) (nl := 0) hx hb hml hown hts hK hG rfl hA hl (k_xor l Z hc y σ (ra i) cd hy.1 (by omega) (by omega) (by omega)) hW trivial (hW.at 0 rfl) rfl rfl tb_368 tb_369 tb_370 tb_3 tb_371 (nA := 2) (by decide +kernel) rfl ⟨by omega, by omega⟩ ⟨by omega, by omega⟩ rfl (Nat.le_of_ble_eq_true rfl) dX1_negatedIf_27 (fun v w1 H1 L1 hp hW hzz hkk hdd => ?_)
      obtain ⟨y1, rfl, rfl, gy1⟩ := hp
      clear hzz hkk hdd
      generalize H1 = H at hW  ⊢
      generalize L1 = locs at hW ⊢
      have hW : Wd Z A s.heap (cw Z hc y1 ++ [ea Z q w row]) _ _ := hW
      refine W.eq (g2 := F0 m 30 ls [.int (nI (xn y)), .int (nI i), .ref q]) rfl ?_
      have hy1 := hy.g gy1
      have hny1 := hy1.2.2.1
      have huy1 := (stp.of gy1).2.2.2
      have k1 := cex.rf y1
      have k0 := gy1.2.2.2.2.1.tr k1
      refine r_ast (i := i) (x := (xn y)) hx hb hK hW 5 rfl (by omega) (by omega) dX1_negatedIf_30 (fun H locs hW => ?_)
      have hW : Wd Z A s.heap (cw Z hc y1 ++ [ea Z q w (up row i (xn y))]) _ _ := hW
      refine lv_iinc (v := nI (i + 1)) (lv' := [(4, .int (nI (i + 1))), (0, .ref hk), (1, .int (nI cd)), (2, .ref aa), (3, .ref q)]) hx hb dX1_negatedIf_31 hl (k := 4) rfl (inc1 _) (by decide) rfl (fun ls hl => ?_)
      refine lv_goto (tgt := 8) hx hb dX1_negatedIf_34 (by decide) ?_
      refine ih (i + 1) y1 q (up row i (xn y)) _ _ _ _ ls (by omega) hy1 (fun j hj => ?_) (fun τ hτ j hj => ?_) ?_ ?_ hW (lv_sub hl [1, 2, 3, 4, 0] rfl)
      · by_cases e : j = i
        · subst e; rw [up_s]; omega
        · rw [up_n _ _ e]; have := hrow j (by omega); omega
      · by_cases e : j = i
        · subst e
          rw [up_s, gval gy1 (by decide) k1 (by omega) (by omega) τ, c_op3, hy1.2.1.vl hra_i, hy1.2.1.vl hcd]
        · rw [up_n _ _ e, k0.vl (hrow j (by omega))]
          exact hsem τ hτ j (by omega)
      · omega
      · omega
  refine lv_aload_n hx hb dX1_negatedIf_0 rfl (lv_at hl 2 rfl) ?_
  refine r_len hx hb hK (hro.2.here hAe hW) dX1_negatedIf_1 ?_
  refine r_newa (n := w) hx hb hts tb_65 hK hW hA (by omega) (by omega) (by omega) dX1_negatedIf_2 (fun q H hW hsz_q hq_q => ?_)
  have hW : Wd Z A s.heap (cw Z hc x ++ [ea Z q w (fun _ => 0)]) _ _ := hW
  refine lv_astore_n (lv' := [(3, .ref q), (0, .ref hk), (1, .int (nI cd)), (2, .ref aa)]) hx hb dX1_negatedIf_4 rfl hl (by decide) rfl (fun ls hl => ?_)
  refine lv_iconst (v := nI 0) hx hb dX1_negatedIf_5 (by decide) ?_
  refine lv_istore (lv' := [(4, .int (nI 0)), (3, .ref q), (0, .ref hk), (1, .int (nI cd)), (2, .ref aa)]) hx hb dX1_negatedIf_6 hl (by decide) rfl (fun ls hl => ?_)
  exact loop w 0 x q (fun _ => 0) _ _ _ _ ls (by omega) (stp.rf hx0) (fun j hj => absurd hj (by omega)) (fun τ hτ j hj => absurd hj (by omega)) (by omega) (by omega) hW (lv_sub hl [2, 3, 4, 1, 0] rfl)
set_option maxHeartbeats 4000000 in
set_option maxRecDepth 100000 in
/-- Reckoner.signTurned -/
theorem k_signTurned (l : Launch) (Z : Zt) (hk hc : Nat) (x : CS) (σ : Nat → Bool) (aa w : Nat) (ra : Nat → Nat) (hx0 : cok x σ) (hn : xn x + (1) < 400000) (hw : w ≤ 64) (hw1 : 1 ≤ w) (hra : ∀ j, j < w → ra j < xn x) : MC l yX1_signTurned cX1_signTurned 3 (some (.array .int)) 5 220 (1 + 4 * (capU (xu x) (xn x + (1)) - xu x)) (w + 512 * (capU (xu x) (xn x + (1)) - xu x)) Z (cw Z hc x) (fun H => RO Z (cw Z hc x) (eo hk 1 [.ref hc]) H ∧ RO Z (cw Z hc x) (ea Z aa w ra) H) [.ref hk, .ref aa] (rowQ Z hc x σ 1 w (fun τ j => if j = w - 1 then !vl x τ (ra j) else vl x τ (ra j))) := by
  refine mc_of (by decide) (Nat.le_of_ble_eq_true rfl) (fun p e s m below meth c ls A hx hb hr hts hown hlk hml hin hK hG hW hA hAe hro hl R hRf hRc hRs hRl => ?_)
  have hl : lv_has ls 3 [(0, .ref hk), (1, .ref aa)] := hl
  have hW : Wd Z A s.heap (cw Z hc x ++ []) _ _ := hW
  obtain ⟨KK, hKK⟩ : ∃ k, k = 1 := ⟨_, rfl⟩
  rw [← hKK] at hRc hRs hn
  refine lv_aload_n hx hb dX1_signTurned_0 rfl (lv_at hl 1 rfl) ?_
  refine lv_aload_n hx hb dX1_signTurned_1 rfl (lv_at hl 1 rfl) ?_
  refine r_len hx hb hK (hro.2.here hAe hW) dX1_signTurned_2 ?_
  refine c_stat (As := [.ref aa, .int (nI w)]) (rest := []) (wc := []) (wr := cw Z hc x) hx hb hml hown hts hK hG rfl hA hl (k_copyOf l Z aa w w ra (by omega) (by omega)) hW (hro.2.here hAe hW) tb_388 tb_231 tb_13 tb_232 (nA := 2) (by decide +kernel) rfl ⟨by omega, by omega⟩ ⟨by omega, by omega⟩ rfl (Nat.le_of_ble_eq_true rfl) dX1_signTurned_3 (fun v w1 H1 L1 hp hW hzz hkk hdd => ?_)
  obtain ⟨q, f, rfl, rfl, hf⟩ := hp
  clear hzz hkk hdd
  generalize H1 = H at hW  ⊢
  generalize L1 = locs at hW ⊢
  have hW : Wd Z A s.heap ([ea Z q w f] ++ cw Z hc x) _ _ := hW
  have hW : Wd Z A s.heap (cw Z hc x ++ [ea Z q w f]) _ _ := hW.sub [1, 2, 3, 4, 5, 0] (by decide) rfl
  refine W.eq (g2 := F0 m 6 ls [.ref q]) rfl ?_
  have hra_i := hra (w - 1) (by omega)
  skip
  have hy : stp x σ 0 x := stp.rf hx0
  have hny := hy.2.2.1
  refine lv_astore_n (lv' := [(2, .ref q), (0, .ref hk), (1, .ref aa)]) hx hb dX1_signTurned_6 rfl hl (by decide) rfl (fun ls hl => ?_)
  refine lv_aload_n hx hb dX1_signTurned_7 rfl (lv_at hl 0 rfl) ?_
  refine lv_aload_n hx hb dX1_signTurned_8 rfl (lv_at hl 2 rfl) ?_
  refine r_len hx hb hK (hro.2.here hAe hW) dX1_signTurned_9 ?_
  refine lv_iconst (v := nI 1) hx hb dX1_signTurned_10 (by decide) ?_
  refine n_isub hx hb (by omega) dX1_signTurned_11 ?_
  refine lv_aload_n hx hb dX1_signTurned_12 rfl (lv_at hl 1 rfl) ?_
  refine r_get hx hb hts hown hK (hro.1.here hAe hW) rfl in_X1 0 (by decide) tb_66 (fun _ h => h) rfl dX1_signTurned_13 ?_
  refine lv_aload_n hx hb dX1_signTurned_16 rfl (lv_at hl 2 rfl) ?_
  refine lv_aload_n hx hb dX1_signTurned_17 rfl (lv_at hl 2 rfl) ?_
  refine r_len hx hb hK (hro.2.here hAe hW) dX1_signTurned_18 ?_
  refine lv_iconst (v := nI 1) hx hb dX1_signTurned_19 (by decide) ?_
  refine n_isub hx hb (by omega) dX1_signTurned_20 ?_
  refine r_ald (i := (w - 1)) hx hb hK (hro.2.here hAe hW) (by omega) (by omega) dX1_signTurned_21 ?_
  have hxx := hy
  have hco := hy.cost (j := 1) (K := KK) (by omega)
  refine c_virt (As := [.int (nI (ra (w - 1)))]) (rest := [.int (nI (w - 1)), .ref q]) (wc := cw Z hc x) (wr := [ea Z q w f]) (nl := 0) hx hb hml hown hts hK hG rfl hA hl (k_not l Z hc x σ (ra (w - 1)) hx0 (by omega) (by omega)) hW trivial (hW.at 0 rfl) rfl rfl tb_360 tb_361 tb_362 tb_3 tb_363 (nA := 1) (by decide +kernel) rfl ⟨by omega, by omega⟩ ⟨by omega, by omega⟩ rfl (Nat.le_of_ble_eq_true rfl) dX1_signTurned_22 (fun v w1 H1 L1 hp hW hzz hkk hdd => ?_)
  obtain ⟨y1, rfl, rfl, gy1⟩ := hp
  clear hzz hkk hdd
  generalize H1 = H at hW  ⊢
  generalize L1 = locs at hW ⊢
  have hW : Wd Z A s.heap (cw Z hc y1 ++ [ea Z q w f]) _ _ := hW
  refine W.eq (g2 := F0 m 25 ls [.int (nI (xn x)), .int (nI (w - 1)), .ref q]) rfl ?_
  have hy1 := hy.g gy1
  have hny1 := hy1.2.2.1
  have huy1 := (stp.of gy1).2.2.2
  have k1 := cex.rf y1
  refine r_ast (i := (w - 1)) (x := (xn x)) hx hb hK hW 5 rfl (by omega) (by omega) dX1_signTurned_25 (fun H locs hW => ?_)
  have hW : Wd Z A s.heap (cw Z hc y1 ++ [ea Z q w (up f (w - 1) (xn x))]) _ _ := hW
  refine lv_aload_n hx hb dX1_signTurned_26 rfl (lv_at hl 0 rfl) ?_
  rw [hKK] at hco hRc hRs
  refine e_ref hx hb hr (Or.inr ⟨_, rfl⟩) hlk hAe hW (by omega) (by omega) dX1_signTurned_27 ⟨y1, q, up f (w - 1) (xn x), rfl, rfl, hy1, fun j hj => ?_, fun τ hτ j hj => ?_⟩
  · by_cases e : j = w - 1
    · subst e; rw [up_s]; omega
    · rw [up_n _ _ e, hf j hj, if_pos hj]; have := hra j hj; omega
  · by_cases e : j = w - 1
    · subst e
      dsimp only
      rw [up_s, if_pos rfl, gval gy1 (by decide) k1 (by omega) (by have := hx0.1; omega) τ, c_op3, vl_1 hy1.1 hτ, hy1.2.1.vl hra_i]
      exact Bool.xor_true _
    · dsimp only
      rw [up_n _ _ e, if_neg e, hf j hj, if_pos hj, hy1.2.1.vl (hra j hj)]
set_option maxHeartbeats 4000000 in
set_option maxRecDepth 100000 in
/-- Reckoner.same -/
theorem k_same (l : Launch) (Z : Zt) (hk hc : Nat) (x : CS) (σ : Nat → Bool) (aa ab w : Nat) (ra rb : Nat → Nat) (hx0 : cok x σ) (hn : xn x + (2 * w + 1) < 400000) (hw : w ≤ 64) (hra : ∀ j, j < w → ra j < xn x) (hrb : ∀ j, j < w → rb j < xn x) : MC l yX1_same cX1_same 5 (some .int) 5 220 (0 + 4 * (capU (xu x) (xn x + (2 * w + 1)) - xu x)) (0 + 512 * (capU (xu x) (xn x + (2 * w + 1)) - xu x)) Z (cw Z hc x) (fun H => RO Z (cw Z hc x) (eo hk 1 [.ref hc]) H ∧ RO Z (cw Z hc x) (ea Z aa w ra) H ∧ RO Z (cw Z hc x) (ea Z ab w rb) H) [.ref hk, .ref aa, .ref ab] (bitQ Z hc x σ (2 * w + 1) (fun τ => decide (rn x τ ra w = rn x τ rb w))) := by
  refine mc_of (by decide) (Nat.le_of_ble_eq_true rfl) (fun p e s m below meth c ls A hx hb hr hts hown hlk hml hin hK hG hW hA hAe hro hl R hRf hRc hRs hRl => ?_)
  have hl : lv_has ls 5 [(0, .ref hk), (1, .ref aa), (2, .ref ab)] := hl
  have hW : Wd Z A s.heap (cw Z hc x ++ []) _ _ := hW
  obtain ⟨KK, hKK⟩ : ∃ k, k = 2 * w + 1 := ⟨_, rfl⟩
  rw [← hKK] at hRc hRs hn
  have loop : ∀ (d i : Nat) (y : CS) (df : Nat) (H : Heap) (locs : List Loc) (cl sl : Nat) (ls : Array Slot), i + d = w → stp x σ (2 * i) y → df < xn y → (∀ τ, gd τ → vl y τ df = !decide (rn x τ ra i = rn x τ rb i)) → cl = 4 * (xu y - xu x) → sl = 512 * (xu y - xu x) → Wd Z A s.heap (cw Z hc y ++ []) H locs → lv_has ls 5 [(0, .ref hk), (1, .ref aa), (2, .ref ab), (3, .int (nI df)), (4, .int (nI i))] → W p l e R s m ([.ref hk, .ref aa, .ref ab] : List Value).toArray below meth c H locs cl sl (MQ below (QC Z (cw Z hc x) s.heap.size (bitQ Z hc x σ (2 * w + 1) (fun τ => decide (rn x τ ra w = rn x τ rb w)))) ([.ref hk, .ref aa, .ref ab] : List Value).toArray s (0 + 4 * (capU (xu x) (xn x + (2 * w + 1)) - xu x)) (0 + 512 * (capU (xu x) (xn x + (2 * w + 1)) - xu x)) A) (F0 m 5 ls []) := by
    intro d
    induction d with
    | zero =>
      intro i y df H locs cl sl ls hid hy hdf hsem hcl hsl hW hl
      have hi : i = w := by omega
      refine lv_iload hx hb dX1_same_5 (lv_at hl 4 rfl) ?_
      refine lv_aload_n hx hb dX1_same_7 rfl (lv_at hl 1 rfl) ?_
      refine r_len hx hb hK (hro.2.1.here hAe hW) dX1_same_8 ?_
      refine n_ge_t (tgt := 42) hx hb (by omega) (by omega) dX1_same_9 (by decide) ?_
      rw [hi] at hy hsem
      have hny := hy.2.2.1
      refine lv_aload_n hx hb dX1_same_42 rfl (lv_at hl 0 rfl) ?_
      refine r_get hx hb hts hown hK (hro.1.here hAe hW) rfl in_X1 0 (by decide) tb_66 (fun _ h => h) rfl dX1_same_43 ?_
      refine lv_iload_n hx hb dX1_same_46 rfl (lv_at hl 3 rfl) ?_
      have hsy := hy
      have hco := hy.cost (j := 1) (K := KK) (by omega)
      refine c_virt (As := [.int (nI df)]) (rest := []) (wc := cw Z hc y) (wr := []) (nl := 0) hx hb hml hown hts hK hG rfl hA hl (k_not l Z hc y σ df hy.1 (by omega) (by omega)) hW trivial (hW.at 0 rfl) rfl rfl tb_360 tb_361 tb_362 tb_3 tb_363 (nA := 1) (by decide +kernel) rfl ⟨by omega, by omega⟩ ⟨by omega, by omega⟩ rfl (Nat.le_of_ble_eq_true rfl) dX1_same_47 (fun v w1 H1 L1 hp hW hzz hkk hdd => ?_)
      obtain ⟨y1, rfl, rfl, gy1⟩ := hp
      clear hzz hkk hdd
      generalize H1 = H at hW  ⊢
      generalize L1 = locs at hW ⊢
      have hW : Wd Z A s.heap (cw Z hc y1) _ _ := hW
      refine W.eq (g2 := F0 m 50 ls [.int (nI (xn y))]) rfl ?_
      have hy1 := hy.g gy1
      have hny1 := hy1.2.2.1
      have huy1 := (stp.of gy1).2.2.2
      rw [hKK] at hco hRc hRs
      have k1 := cex.rf y1
      have hu3 := hy1.2.2.2
      refine e_int hx hb hr hlk hAe hW (by omega) (by omega) dX1_same_50 ⟨y1, xn y, rfl, rfl, hy1, by omega, fun τ hτ => ?_⟩
      rw [gval gy1 (by decide) k1 (by omega) (by have := hy.1.1; omega) τ, c_op3, vl_1 hy1.1 hτ, gy1.2.2.2.2.1.vl hdf, hsem τ hτ]
      dsimp only
      cases decide (rn x τ ra w = rn x τ rb w) <;> rfl
    | succ d ih =>
      intro i y df H locs cl sl ls hid hy hdf hsem hcl hsl hW hl
      have hny := hy.2.2.1
      have hra_i := hra i (by omega)
      have hrb_i := hrb i (by omega)
      refine lv_iload hx hb dX1_same_5 (lv_at hl 4 rfl) ?_
      refine lv_aload_n hx hb dX1_same_7 rfl (lv_at hl 1 rfl) ?_
      refine r_len hx hb hK (hro.2.1.here hAe hW) dX1_same_8 ?_
      refine n_ge_f (tgt := 42) hx hb (by omega) (by omega) dX1_same_9 (by decide) ?_
      refine lv_aload_n hx hb dX1_same_12 rfl (lv_at hl 0 rfl) ?_
      refine r_get hx hb hts hown hK (hro.1.here hAe hW) rfl in_X1 0 (by decide) tb_66 (fun _ h => h) rfl dX1_same_13 ?_
      refine lv_iload_n hx hb dX1_same_16 rfl (lv_at hl 3 rfl) ?_
      refine lv_aload_n hx hb dX1_same_17 rfl (lv_at hl 0 rfl) ?_
      refine r_get hx hb hts hown hK (hro.1.here hAe hW) rfl in_X1 0 (by decide) tb_66 (fun _ h => h) rfl dX1_same_18 ?_
      refine lv_aload_n hx hb dX1_same_21 rfl (lv_at hl 1 rfl) ?_
      refine lv_iload hx hb dX1_same_22 (lv_at hl 4 rfl) ?_
      refine r_ald (i := i) hx hb hK (hro.2.1.here hAe hW) (by omega) (by omega) dX1_same_24 ?_
      refine lv_aload_n hx hb dX1_same_25 rfl (lv_at hl 2 rfl) ?_
      refine lv_iload hx hb dX1_same_26 (lv_at hl 4 rfl) ?_
      refine r_ald (i := i) hx hb hK (hro.2.2.here hAe hW) (by omega) (by omega) dX1_same_28 ?_
      have hsy := hy
      have hco := hy.cost (j := 1) (K := KK) (by omega)
      refine c_virt (As := [.int (nI (ra i)), .int (nI (rb i))]) (rest := [.int (nI df), .ref hc]) (wc := cw Z hc y) (wr := []) (nl := 0) hx hb hml hown hts hK hG rfl hA hl (k_xor l Z hc y σ (ra i) (rb i) hy.1 (by omega) (by omega) (by omega)) hW trivial (hW.at 0 rfl) rfl rfl tb_368 tb_369 tb_370 tb_3 tb_371 (nA := 2) (by decide +kernel) rfl ⟨by omega, by omega⟩ ⟨by omega, by omega⟩ rfl (Nat.le_of_ble_eq_true rfl) dX1_same_29 (fun v w1 H1 L1 hp hW hzz hkk hdd => ?_)
      obtain ⟨y1, rfl, rfl, gy1⟩ := hp
      clear hzz hkk hdd
      generalize H1 = H at hW  ⊢
      generalize L1 = locs at hW ⊢
      have hW : Wd Z A s.heap (cw Z hc y1) _ _ := hW
      refine W.eq (g2 := F0 m 32 ls [.int (nI (xn y)), .int (nI df), .ref hc]) rfl ?_
      have hy1 := hy.g gy1
      have hny1 := hy1.2.2.1
      have huy1 := (stp.of gy1).2.2.2
      have hsy1 := hy1
      have hco := hy1.cost (j := 1) (K := KK) (by omega)
      refine c_virt (As := [.int (nI df), .int (nI (xn y))]) (rest := []) (wc := cw Z hc y1) (wr := []) (nl := 0) hx hb hml hown hts hK hG rfl hA hl (k_or l Z hc y1 σ df (xn y) hy1.1 (by omega) (by omega) (by omega)) hW trivial (hW.at 0 rfl) rfl rfl tb_380 tb_381 tb_382 tb_3 tb_383 (nA := 2) (by decide +kernel) rfl ⟨by omega, by omega⟩ ⟨by omega, by omega⟩ rfl (Nat.le_of_ble_eq_true rfl) dX1_same_32 (fun v w1 H1 L1 hp hW hzz hkk hdd => ?_)
      obtain ⟨y2, rfl, rfl, gy2⟩ := hp
      clear hzz hkk hdd
      generalize H1 = H at hW  ⊢
      generalize L1 = locs at hW ⊢
      have hW : Wd Z A s.heap (cw Z hc y2) _ _ := hW
      refine W.eq (g2 := F0 m 35 ls [.int (nI (xn y1))]) rfl ?_
      have hy2 := hy1.g gy2
      have hny2 := hy2.2.2.1
      have huy2 := (stp.of gy2).2.2.2
      refine lv_istore_n (lv' := [(3, .int (nI (xn y1))), (0, .ref hk), (1, .ref aa), (2, .ref ab), (4, .int (nI i))]) hx hb dX1_same_35 rfl hl (by decide) rfl (fun ls hl => ?_)
      refine lv_iinc (v := nI (i + 1)) (lv' := [(4, .int (nI (i + 1))), (3, .int (nI (xn y1))), (0, .ref hk), (1, .ref aa), (2, .ref ab)]) hx hb dX1_same_36 hl (k := 4) rfl (inc1 _) (by decide) rfl (fun ls hl => ?_)
      refine lv_goto (tgt := 5) hx hb dX1_same_39 (by decide) ?_
      have k2 := cex.rf y2
      have k1 := gy2.2.2.2.2.1.tr k2
      have k0 := gy1.2.2.2.2.1.tr k1
      refine ih (i + 1) y2 (xn y1) _ _ _ _ ls (by omega) (by have e : 2 * (i + 1) = 2 * i + 1 + 1 := (by omega); rw [e]; exact hy2) (by omega) (fun τ hτ => ?_) ?_ ?_ hW (lv_sub hl [2, 3, 4, 1, 0] rfl)
      · have G1 := gval gy1 (by decide) k1 (by omega) (by omega) τ
        have G2 := gval gy2 (by decide) k2 (by omega) (by omega) τ
        rw [G2, G1, c_op2, c_op3, hy2.2.1.vl hra_i, hy2.2.1.vl hrb_i, k0.vl hdf, hsem τ hτ, rn_s, rn_s]
        have hq := eq_step (p := vl x τ (ra i)) (q := vl x τ (rb i)) (rn_lt x τ ra i) (rn_lt x τ rb i)
        by_cases q1 : rn x τ ra i = rn x τ rb i
        · by_cases q2 : vl x τ (ra i) = vl x τ (rb i)
          · rw [decide_eq_true q1, decide_eq_true (hq.mpr ⟨q1, q2⟩), q2]
            cases vl x τ (rb i) <;> rfl
          · rw [decide_eq_true q1, decide_eq_false (fun z => q2 (hq.mp z).2)]
            revert q2
            cases vl x τ (ra i) <;> cases vl x τ (rb i) <;> simp
        · rw [decide_eq_false q1, decide_eq_false (fun z => q1 (hq.mp z).1)]
          rfl
      · omega
      · omega
  refine lv_iconst (v := nI 0) hx hb dX1_same_0 (by decide) ?_
  refine lv_istore_n (lv' := [(3, .int (nI 0)), (0, .ref hk), (1, .ref aa), (2, .ref ab)]) hx hb dX1_same_1 rfl hl (by decide) rfl (fun ls hl => ?_)
  refine lv_iconst (v := nI 0) hx hb dX1_same_2 (by decide) ?_
  refine lv_istore (lv' := [(4, .int (nI 0)), (3, .int (nI 0)), (0, .ref hk), (1, .ref aa), (2, .ref ab)]) hx hb dX1_same_3 hl (by decide) rfl (fun ls hl => ?_)
  refine loop w 0 x 0 _ _ _ _ ls (by omega) (stp.rf hx0) (by have := hx0.1; omega) (fun τ hτ => ?_) (by omega) (by omega) hW (lv_sub hl [2, 3, 4, 1, 0] rfl)
  rw [vl_0 hx0 hτ]; rfl
set_option maxHeartbeats 4000000 in
set_option maxRecDepth 100000 in
/-- Reckoner.atLeast -/
theorem k_atLeast (l : Launch) (Z : Zt) (hk hc : Nat) (x : CS) (σ : Nat → Bool) (aa ab w : Nat) (ra rb : Nat → Nat) (hx0 : cok x σ) (hn : xn x + (6 * w) < 400000) (hw : w ≤ 64) (hra : ∀ j, j < w → ra j < xn x) (hrb : ∀ j, j < w → rb j < xn x) : MC l yX1_atLeast cX1_atLeast 3 (some .int) 6 260 (2 + 4 * (capU (xu x) (xn x + (6 * w)) - xu x)) ((2 * w + 1) + 512 * (capU (xu x) (xn x + (6 * w)) - xu x)) Z (cw Z hc x) (fun H => RO Z (cw Z hc x) (eo hk 1 [.ref hc]) H ∧ RO Z (cw Z hc x) (ea Z aa w ra) H ∧ RO Z (cw Z hc x) (ea Z ab w rb) H) [.ref hk, .ref aa, .ref ab] (bitQ Z hc x σ (6 * w) (fun τ => decide (rn x τ rb w ≤ rn x τ ra w))) := by
  refine mc_of (by decide) (Nat.le_of_ble_eq_true rfl) (fun p e s m below meth c ls A hx hb hr hts hown hlk hml hin hK hG hW hA hAe hro hl R hRf hRc hRs hRl => ?_)
  have hl : lv_has ls 3 [(0, .ref hk), (1, .ref aa), (2, .ref ab)] := hl
  have hW : Wd Z A s.heap (cw Z hc x ++ []) _ _ := hW
  obtain ⟨KK, hKK⟩ : ∃ k, k = 6 * w := ⟨_, rfl⟩
  rw [← hKK] at hRc hRs hn
  refine lv_aload_n hx hb dX1_atLeast_0 rfl (lv_at hl 0 rfl) ?_
  refine lv_aload_n hx hb dX1_atLeast_1 rfl (lv_at hl 1 rfl) ?_
  refine lv_aload_n hx hb dX1_atLeast_2 rfl (lv_at hl 0 rfl) ?_
  refine lv_aload_n hx hb dX1_atLeast_3 rfl (lv_at hl 2 rfl) ?_
  have hx1 := stp.rf hx0
  have hco := hx1.cost (j := 1 * w) (K := KK) (by omega)
  refine c_virt (As := [.ref ab]) (rest := [.ref aa, .ref hk]) (wc := cw Z hc x) (wr := []) (nl := 0) hx hb hml hown hts hK hG rfl hA hl (k_inverted l Z hk hc x σ ab w rb hx0 (by omega) hw hrb) hW ⟨RO.pass hro.1 hAe hW, RO.pass hro.2.2 hAe hW⟩ (hro.1.here hAe hW) rfl rfl tb_651 tb_357 tb_358 tb_2 tb_359 (nA := 1) (by decide +kernel) rfl ⟨by omega, by omega⟩ ⟨by omega, by omega⟩ rfl (Nat.le_of_ble_eq_true rfl) dX1_atLeast_4 (fun v w1 H1 L1 hp hW hzz hkk hdd => ?_)
  obtain ⟨y, q, f, rfl, rfl, hy, hfb, hfs⟩ := hp
  clear hzz hkk hdd
  generalize H1 = H at hW  ⊢
  generalize L1 = locs at hW ⊢
  have hW : Wd Z A s.heap (cw Z hc y ++ [ea Z q w f]) _ _ := hW
  refine W.eq (g2 := F0 m 7 ls [.ref q, .ref aa, .ref hk]) rfl ?_
  have hny := hy.2.2.1
  have huy := hy.2.2.2
  have hco2 := hy.cost (j := 5 * w) (K := KK) (by omega)
  refine lv_iconst (v := nI 1) hx hb dX1_atLeast_7 (by decide) ?_
  refine c_virt (As := [.ref aa, .ref q, .int (nI 1)]) (rest := []) (wc := cw Z hc y) (wr := [ea Z q w f]) (nl := 0) hx hb hml hown hts hK hG rfl hA hl (k_sum l Z hk hc y σ aa q w w ra f 1 hy.1 (by omega) hw (Nat.le_refl _) (by omega) (fun j hj => by have := hra j hj; omega) hfb (by have := hy.1.1; omega)) hW ⟨RO.pass hro.1 hAe hW, RO.pass hro.2.1 hAe hW, RO.loc hW 0 rfl⟩ (hro.1.here hAe hW) rfl rfl tb_372 tb_373 tb_374 tb_2 tb_375 (nA := 3) (by decide +kernel) rfl ⟨by omega, by omega⟩ ⟨by omega, by omega⟩ rfl (Nat.le_of_ble_eq_true rfl) dX1_atLeast_8 (fun v w1 H1 L1 hp hW hzz hkk hdd => ?_)
  obtain ⟨y2, q2, g, rfl, rfl, hst, hgb, hgs⟩ := hp
  clear hzz hkk hdd
  generalize H1 = H at hW  ⊢
  generalize L1 = locs at hW ⊢
  have hW : Wd Z A s.heap (cw Z hc y2 ++ [ea Z q2 (w + 1) g, ea Z q w f]) _ _ := hW
  refine W.eq (g2 := F0 m 11 ls [.ref q2]) rfl ?_
  have hu2 := hst.2.2.2
  have h2 := hy.tr hst
  refine lv_aload_n hx hb dX1_atLeast_11 rfl (lv_at hl 1 rfl) ?_
  refine r_len hx hb hK (hro.2.1.here hAe hW) dX1_atLeast_12 ?_
  refine r_ald (i := w) hx hb hK (hW.at 5 rfl) (by omega) (by omega) dX1_atLeast_13 ?_
  have hW : Wd Z A s.heap (cw Z hc y2) _ _ := hW.sub [0, 1, 2, 3, 4] (by decide) rfl
  rw [hKK] at hco hco2 hRc hRs
  have hu3 := h2.2.2.2
  refine e_int hx hb hr hlk hAe hW (by omega) (by omega) dX1_atLeast_14 ⟨y2, g w, rfl, rfl, (by have e : 6 * w = 1 * w + 5 * w := (by omega); rw [e]; exact h2), hgb w (by omega), fun τ hτ => ?_⟩
  have hs := hgs τ hτ
  have e1 : rn y τ f w = 2 ^ w - 1 - rn x τ rb w := by
    have h1 : rn y τ f w = bn (fun j => !vl x τ (rb j)) w := bn_congr (hfs τ hτ)
    have h2 := bn_not (fun j => vl x τ (rb j)) w
    have h3 : rn x τ rb w = bn (fun j => vl x τ (rb j)) w := rfl
    rw [h1, h3]; omega
  rw [rn_s, e1, rn_ex hy.2.1 hra, vl_1 hy.1 hτ] at hs
  exact ge_bit hs (rn_lt _ _ _ _) (rn_lt _ _ _ _) (rn_lt _ _ _ _)
end
section
/-! pure: products, quotients, shifts by rows -/
theorem split_mod {a p m n : Nat} (hp : 0 < p) (ha : a < p) : (a + p * m) % (p * n) = a + p * (m % n) := by
  rw [Nat.mod_mul, Nat.add_mul_mod_self_left, Nat.mod_eq_of_lt ha, Nat.add_mul_div_left _ _ hp, Nat.div_eq_of_lt ha, Nat.zero_add]
theorem two_split {i w : Nat} (h : i ≤ w) : 2 ^ i * 2 ^ (w - i) = 2 ^ w := by rw [← Nat.pow_add]; congr 1; omega
theorem mul_step {Tl H A Bi i w : Nat} {b : Bool} (hi : i ≤ w) (hT : Tl + 2 ^ i * H = (A * Bi) % 2 ^ w) (hTl : Tl < 2 ^ i) :
    Tl + 2 ^ i * ((H + b.toNat * (A % 2 ^ (w - i))) % 2 ^ (w - i)) = (A * (Bi + b.toNat * 2 ^ i)) % 2 ^ w := by
  have hp : 0 < 2 ^ i := Nat.two_pow_pos i
  have e1 : (H + b.toNat * (A % 2 ^ (w - i))) % 2 ^ (w - i) = (H + b.toNat * A) % 2 ^ (w - i) := by
    cases b
    · simp
    · simp
  rw [e1, ← split_mod hp hTl, two_split hi, Nat.mul_add, Nat.mul_add, ← Nat.add_assoc, hT, Nat.mod_add_mod]
  congr 1
  congr 1
  rw [Nat.mul_comm (2 ^ i), Nat.mul_comm A, Nat.mul_assoc, Nat.mul_assoc, Nat.mul_comm (2 ^ i) A]
theorem bn_and (β : Nat → Bool) (b : Bool) (w : Nat) : bn (fun j => β j && b) w = b.toNat * bn β w := by
  cases b
  · simp only [Bool.and_false, Bool.toNat_false, Nat.zero_mul]; exact bn_zero w
  · simp only [Bool.and_true, Bool.toNat_true, Nat.one_mul]
theorem bn_low (β : Nat → Bool) {i w : Nat} (h : i ≤ w) : bn β i = bn β w % 2 ^ i := by
  have e : w = i + (w - i) := by omega
  rw [e, bn_split, Nat.add_mul_mod_self_left, Nat.mod_eq_of_lt (bn_lt β i)]
theorem rn_low {x : CS} {τ : Nat → Bool} {r : Nat → Nat} {i w : Nat} (h : i ≤ w) : rn x τ r i = rn x τ r w % 2 ^ i := bn_low _ h
theorem rn_split (x : CS) (τ : Nat → Bool) (r : Nat → Nat) (i k : Nat) : rn x τ r (i + k) = rn x τ r i + 2 ^ i * rn x τ (fun j => r (i + j)) k := bn_split _ i k
/-- gates of a product, i rows done -/
def pg (w : Nat) : Nat → Nat
  | 0 => 0
  | i + 1 => pg w i + 6 * (w - i)
theorem pg_s (w i : Nat) : pg w (i + 1) = pg w i + 6 * (w - i) := rfl
theorem pg_mono (w : Nat) : ∀ {i j : Nat}, i ≤ j → pg w i ≤ pg w j := by
  intro i j h
  induction j with
  | zero => rw [show i = 0 by omega]; exact Nat.le_refl _
  | succ j ih =>
    rcases Nat.lt_or_ge j i with q | q
    · rw [show i = j + 1 by omega]; exact Nat.le_refl _
    · rw [pg_s]; have := ih q; omega
/-- gates of a division, k steps done -/
def dg (w : Nat) : Nat → Nat
  | 0 => w
  | k + 1 => dg w k + 8 * w
theorem dg_s (w k : Nat) : dg w (k + 1) = dg w k + 8 * w := rfl
theorem dg_mono (w : Nat) : ∀ {i j : Nat}, i ≤ j → dg w i ≤ dg w j := by
  intro i j h
  induction j with
  | zero => rw [show i = 0 by omega]; exact Nat.le_refl _
  | succ j ih =>
    rcases Nat.lt_or_ge j i with q | q
    · rw [show i = j + 1 by omega]; exact Nat.le_refl _
    · rw [dg_s]; have := ih q; omega
/-- gates of a shift, i places done -/
def sg (w : Nat) : Nat → Nat
  | 0 => 0
  | i + 1 => sg w i + (if 2 ^ i < w then 3 * w else 1)
theorem sg_s (w i : Nat) : sg w (i + 1) = sg w i + (if 2 ^ i < w then 3 * w else 1) := rfl
theorem sg_mono (w : Nat) : ∀ {i j : Nat}, i ≤ j → sg w i ≤ sg w j := by
  intro i j h
  induction j with
  | zero => rw [show i = 0 by omega]; exact Nat.le_refl _
  | succ j ih =>
    rcases Nat.lt_or_ge j i with q | q
    · rw [show i = j + 1 by omega]; exact Nat.le_refl _
    · rw [sg_s]; have := ih q; omega
/-! long division: what stands when the low k bits of A are still to come -/
def dQ (A B w k : Nat) : Nat := if B = 0 then 2 ^ (w - k) - 1 else A / 2 ^ k / B
def dR (A B k : Nat) : Nat := if B = 0 then A / 2 ^ k else (A / 2 ^ k) % B
theorem half_step (A k : Nat) : A / 2 ^ k = 2 * (A / 2 ^ (k + 1)) + (A.testBit k).toNat := by
  rw [Nat.pow_succ, ← Nat.div_div_eq_div_mul, Nat.toNat_testBit]
  omega
theorem dR_step (A B k : Nat) : dR A B k = if B ≤ 2 * dR A B (k + 1) + (A.testBit k).toNat then 2 * dR A B (k + 1) + (A.testBit k).toNat - B else 2 * dR A B (k + 1) + (A.testBit k).toNat := by
  have hb : (A.testBit k).toNat ≤ 1 := by cases A.testBit k <;> simp
  have hs := half_step A k
  unfold dR
  by_cases h : B = 0
  · simp only [if_pos h]
    rw [if_pos (by omega), hs, h, Nat.sub_zero]
  · simp only [if_neg h]
    rw [hs]
    generalize A / 2 ^ (k + 1) = P
    generalize (A.testBit k).toNat = a at hb ⊢
    have hB : 0 < B := Nat.pos_of_ne_zero h
    have h1 := Nat.mod_lt P hB
    have h2 : 2 * P + a = B * (2 * (P / B)) + (2 * (P % B) + a) := by
      have := Nat.div_add_mod P B
      rw [Nat.mul_left_comm]
      omega
    rw [h2, Nat.mul_add_mod]
    by_cases q : B ≤ 2 * (P % B) + a
    · rw [if_pos q, Nat.mod_eq_sub_mod q, Nat.mod_eq_of_lt (by omega)]
    · rw [if_neg q, Nat.mod_eq_of_lt (by omega)]
theorem dQ_step (A B w k : Nat) (hk : k < w) : dQ A B w k = (decide (B ≤ 2 * dR A B (k + 1) + (A.testBit k).toNat)).toNat + 2 * dQ A B w (k + 1) := by
  have hb : (A.testBit k).toNat ≤ 1 := by cases A.testBit k <;> simp
  have hs := half_step A k
  unfold dR dQ
  by_cases h : B = 0
  · simp only [if_pos h]
    rw [decide_eq_true (by omega)]
    have e : w - k = (w - (k + 1)) + 1 := by omega
    rw [e, Nat.pow_succ]
    have := Nat.two_pow_pos (w - (k + 1))
    simp only [Bool.toNat_true]
    omega
  · simp only [if_neg h]
    rw [hs]
    generalize A / 2 ^ (k + 1) = P
    generalize (A.testBit k).toNat = a at hb ⊢
    have hB : 0 < B := Nat.pos_of_ne_zero h
    have h1 := Nat.mod_lt P hB
    have h2 : 2 * P + a = (2 * (P % B) + a) + B * (2 * (P / B)) := by
      have := Nat.div_add_mod P B
      rw [Nat.mul_left_comm]
      omega
    rw [h2, Nat.add_mul_div_left _ _ hB]
    by_cases q : B ≤ 2 * (P % B) + a
    · rw [decide_eq_true q]
      have : (2 * (P % B) + a) / B = 1 := Nat.div_eq_of_lt_le (by omega) (by omega)
      rw [this]; rfl
    · rw [decide_eq_false q, Nat.div_eq_of_lt (by omega)]; rfl
theorem dR_le (A B k : Nat) : dR A B k ≤ A / 2 ^ k := by
  unfold dR
  by_cases h : B = 0
  · rw [if_pos h]; exact Nat.le_refl _
  · rw [if_neg h]; exact Nat.mod_le _ _
theorem dR_top {A w : Nat} (hA : A < 2 ^ w) (B : Nat) : dR A B w = 0 := by
  have := dR_le A B w
  rw [Nat.div_eq_of_lt hA] at this
  omega
theorem dR_lt {A w k : Nat} (hA : A < 2 ^ w) (hk : k < w) (B : Nat) : dR A B (k + 1) < 2 ^ (w - 1) := by
  have h1 := dR_le A B (k + 1)
  have h2 : A / 2 ^ (k + 1) < 2 ^ (w - (k + 1)) := by
    rw [Nat.div_lt_iff_lt_mul (Nat.two_pow_pos _), ← Nat.pow_add, show w - (k + 1) + (k + 1) = w by omega]
    exact hA
  have h3 : 2 ^ (w - (k + 1)) ≤ 2 ^ (w - 1) := Nat.pow_le_pow_right (by decide) (by omega)
  omega
/-- a row moved up by one, with a bit at the bottom -/
theorem bn_up1 {β γ : Nat → Bool} {b : Bool} {w R : Nat} (hw : 1 ≤ w) (hR : bn β w = R) (hlt : R < 2 ^ (w - 1)) (h0 : γ 0 = b) (h1 : ∀ j, 1 ≤ j → j < w → γ j = β (j - 1)) : bn γ w = 2 * R + b.toNat := by
  have e : w = 1 + (w - 1) := by omega
  have h2 : bn β (w - 1) = R := by rw [bn_low β (w := w) (by omega), hR, Nat.mod_eq_of_lt hlt]
  have h3 : bn (fun j => γ (1 + j)) (w - 1) = R := by
    rw [← h2]
    exact bn_congr (fun j hj => by rw [h1 (1 + j) (by omega) (by omega)]; congr 1; omega)
  rw [e, bn_split, h3]
  simp only [bn, h0, Nat.pow_zero, Nat.mul_one, Nat.zero_add, Nat.pow_one]
  omega
theorem bn_shift1 (β : Nat → Bool) (k m : Nat) : bn (fun j => β (k + j)) (m + 1) = (β k).toNat + 2 * bn (fun j => β (k + 1 + j)) m := by
  have e : m + 1 = 1 + m := by omega
  rw [e, bn_split]
  have h : (fun j => β (k + (1 + j))) = fun j => β (k + 1 + j) := by funext j; congr 1; omega
  rw [h]
  simp only [bn, Nat.add_zero, Nat.pow_zero, Nat.mul_one, Nat.zero_add, Nat.pow_one]
theorem mvd_two (r s : Nat → Nat) {w k d upw fl j : Nat} (F : Nat → Bool) (G : Nat → Bool) (hj : j < w) (hfl : F fl = G fl) (h : ∀ i, i < w → F (s i) = G (mvd r w k upw fl i)) : F (mvd s w d upw fl j) = G (mvd r w (k + d) upw fl j) := by
  unfold mvd
  by_cases u : upw = 1
  · simp only [if_pos u]
    by_cases q : d ≤ j
    · rw [if_pos q, h (j - d) (by omega)]
      unfold mvd
      rw [if_pos u]
      by_cases q2 : k ≤ j - d
      · rw [if_pos q2, if_pos (by omega)]; congr 2; omega
      · rw [if_neg q2, if_neg (by omega)]
    · rw [if_neg q, if_neg (by omega), hfl]
  · simp only [if_neg u]
    by_cases q : j + d < w
    · rw [if_pos q, h (j + d) q]
      unfold mvd
      rw [if_neg u]
      by_cases q2 : j + d + k < w
      · rw [if_pos q2, if_pos (by omega)]; congr 2; omega
      · rw [if_neg q2, if_neg (by omega)]
    · rw [if_neg q, if_neg (by omega), hfl]
theorem mvd_far {r : Nat → Nat} {w k upw fl j : Nat} (hj : j < w) (hk : w ≤ k) : mvd r w k upw fl j = fl := by
  unfold mvd
  by_cases u : upw = 1
  · rw [if_pos u, if_neg (by omega)]
  · rw [if_neg u, if_neg (by omega)]
theorem mvd_0 {r : Nat → Nat} {w upw fl j : Nat} (hj : j < w) : mvd r w 0 upw fl j = r j := by
  unfold mvd
  by_cases u : upw = 1
  · rw [if_pos u, if_pos (by omega)]; rfl
  · rw [if_neg u, if_pos (by omega)]; rfl
theorem mvd_lt {r : Nat → Nat} {w k upw fl j n : Nat} (hj : j < w) (hf : fl < n) (hr : ∀ i, i < w → r i < n) : mvd r w k upw fl j < n := by
  unfold mvd
  by_cases u : upw = 1
  · rw [if_pos u]
    by_cases q : k ≤ j
    · rw [if_pos q]; exact hr _ (by omega)
    · rw [if_neg q]; exact hf
  · rw [if_neg u]
    by_cases q : j + k < w
    · rw [if_pos q]; exact hr _ q
    · rw [if_neg q]; exact hf
theorem rn_mono (x : CS) (τ : Nat → Bool) (r : Nat → Nat) {i j : Nat} (h : i ≤ j) : rn x τ r i ≤ rn x τ r j := by
  induction j with
  | zero => rw [show i = 0 by omega]; exact Nat.le_refl _
  | succ j ih =>
    rcases Nat.lt_or_ge j i with q | q
    · rw [show i = j + 1 by omega]; exact Nat.le_refl _
    · rw [rn_s]; have := ih q; omega
theorem rn_big {x : CS} {τ : Nat → Bool} {r : Nat → Nat} {i j : Nat} (h : i ≤ j) (hne : rn x τ r j ≠ rn x τ r i) : 2 ^ i ≤ rn x τ r j := by
  rcases Nat.lt_or_ge (rn x τ r j) (2 ^ i) with q | q
  · exfalso
    apply hne
    rw [rn_low h, Nat.mod_eq_of_lt q]
  · exact q
theorem Wd.pre {Z : Zt} {A : Nat → Prop} {H0 H : Heap} {wc wr : va_W} {locs : List Loc} (h : Wd Z A H0 (wc ++ wr) H locs) : Wd Z A H0 wc H locs := ⟨pre_P h.1, pre_D h.2.1, h.2.2⟩
theorem Wd.rot {Z : Zt} {A : Nat → Prop} {H0 H : Heap} {w1 wc wr : va_W} {locs : List Loc} (h : Wd Z A H0 (w1 ++ (wc ++ wr)) H locs) : Wd Z A H0 (wc ++ (w1 ++ wr)) H locs := by
  have hP1 := pre_P h.1
  have hP2 := suf_P h.1
  have hD2 := suf_D h.2.1
  refine ⟨va_P.app (pre_P hP2) (va_P.app hP1 (suf_P hP2)), va_D.app (pre_D hD2) (va_D.app (pre_D h.2.1) (suf_D hD2) (fun i j p q hi hj e => ?_)) (fun i j p q hi hj e => ?_), h.2.2⟩
  · have h1 := h.2.1.1 _ _ p q (pre_at (wr := wc ++ wr) hi) (suf_at (wc := w1) (suf_at (wc := wc) hj)) e
    have h2 := (List.getElem?_eq_some_iff.mp hi).1
    omega
  · rcases Nat.lt_or_ge j w1.length with hl | hl
    · rw [List.getElem?_append_left hl] at hj
      have h1 := h.2.1.1 _ _ q p (pre_at (wr := wc ++ wr) hj) (suf_at (wc := w1) (pre_at (wr := wr) hi)) e.symm
      omega
    · rw [List.getElem?_append_right hl] at hj
      have h1 := hD2.1 _ _ p q (pre_at (wr := wr) hi) (suf_at (wc := wc) hj) e
      have h2 := (List.getElem?_eq_some_iff.mp hi).1
      omega
end
section
set_option maxHeartbeats 4000000 in
set_option maxRecDepth 100000 in
/-- Reckoner.product -/
theorem k_product (l : Launch) (Z : Zt) (hk hc : Nat) (x : CS) (σ : Nat → Bool) (aa ab w : Nat) (ra rb : Nat → Nat) (hx0 : cok x σ) (hn : xn x + (pg w w) < 400000) (hw : w ≤ 64) (hra : ∀ j, j < w → ra j < xn x) (hrb : ∀ j, j < w → rb j < xn x) : MC l yX1_product cX1_product 8 (some (.array .int)) 6 280 ((1 + 3 * w) + 4 * (capU (xu x) (xn x + (pg w w)) - xu x)) ((w + 193 * w) + 512 * (capU (xu x) (xn x + (pg w w)) - xu x)) Z (cw Z hc x) (fun H => RO Z (cw Z hc x) (eo hk 1 [.ref hc]) H ∧ RO Z (cw Z hc x) (ea Z aa w ra) H ∧ RO Z (cw Z hc x) (ea Z ab w rb) H) [.ref hk, .ref aa, .ref ab] (numQ Z hc x σ (pg w w) w (fun τ => (rn x τ ra w * rn x τ rb w) % 2 ^ w)) := by
  refine mc_of (by decide) (Nat.le_of_ble_eq_true rfl) (fun p e s m below meth c ls A hx hb hr hts hown hlk hml hin hK hG hW hA hAe hro hl R hRf hRc hRs hRl => ?_)
  have hl : lv_has ls 8 [(0, .ref hk), (1, .ref aa), (2, .ref ab)] := hl
  have hW : Wd Z A s.heap (cw Z hc x ++ []) _ _ := hW
  obtain ⟨KK, hKK⟩ : ∃ k, k = pg w w := ⟨_, rfl⟩
  rw [← hKK] at hRc hRs hn
  have loop : ∀ (d i : Nat) (y : CS) (qt : Nat) (tot : Nat → Nat) (H : Heap) (locs : List Loc) (cl sl : Nat) (ls : Array Slot), i + d = w → stp x σ (pg w i) y → (∀ j, j < w → tot j < xn y) → (∀ τ, gd τ → rn y τ tot w = (rn x τ ra w * rn x τ rb i) % 2 ^ w) → cl = 1 + 3 * i + 4 * (xu y - xu x) → sl ≤ w + 193 * i + 512 * (xu y - xu x) → Wd Z A s.heap (cw Z hc y ++ [ea Z qt w tot]) H locs → lv_has ls 8 [(0, .ref hk), (1, .ref aa), (2, .ref ab), (3, .int (nI w)), (4, .ref qt), (5, .int (nI i))] → W p l e R s m ([.ref hk, .ref aa, .ref ab] : List Value).toArray below meth c H locs cl sl (MQ below (QC Z (cw Z hc x) s.heap.size (numQ Z hc x σ (pg w w) w (fun τ => (rn x τ ra w * rn x τ rb w) % 2 ^ w))) ([.ref hk, .ref aa, .ref ab] : List Value).toArray s ((1 + 3 * w) + 4 * (capU (xu x) (xn x + (pg w w)) - xu x)) ((w + 193 * w) + 512 * (capU (xu x) (xn x + (pg w w)) - xu x)) A) (F0 m 11 ls []) := by
    intro d
    induction d with
    | zero =>
      intro i y qt tot H locs cl sl ls hid hy htb hsem hcl hsl hW hl
      have hi : i = w := by omega
      refine lv_iload hx hb dX1_product_11 (lv_at hl 5 rfl) ?_
      refine lv_iload_n hx hb dX1_product_13 rfl (lv_at hl 3 rfl) ?_
      refine n_ge_t (tgt := 98) hx hb (by omega) (by omega) dX1_product_14 (by decide) ?_
      refine lv_aload hx hb dX1_product_98 (lv_at hl 4 rfl) ?_
      rw [hi] at hy hsem
      have hco := hy.cost (j := 0) (K := KK) (by omega)
      rw [hKK] at hco hRc hRs
      have hu3 := hy.2.2.2
      exact e_ref hx hb hr (Or.inr ⟨_, rfl⟩) hlk hAe hW (by omega) (by omega) dX1_product_100 ⟨y, qt, tot, rfl, rfl, hy, htb, hsem⟩
    | succ d ih =>
      intro i y qt tot H locs cl sl ls hid hy htb hsem hcl hsl hW hl
      have hny := hy.2.2.1
      have hrb_i := hrb i (by omega)
      have hpg := pg_mono w (i := i + 1) (j := w) (by omega)
      rw [pg_s] at hpg
      have huy := hy.2.2.2
      have hux : xu x ≤ xu y := (hy.cost (j := 0) (K := KK) (by omega)).1
      refine lv_iload hx hb dX1_product_11 (lv_at hl 5 rfl) ?_
      refine lv_iload_n hx hb dX1_product_13 rfl (lv_at hl 3 rfl) ?_
      refine n_ge_f (tgt := 98) hx hb (by omega) (by omega) dX1_product_14 (by decide) ?_
      refine lv_iload_n hx hb dX1_product_17 rfl (lv_at hl 3 rfl) ?_
      refine lv_iload hx hb dX1_product_18 (lv_at hl 5 rfl) ?_
      refine n_isub hx hb (by omega) dX1_product_20 ?_
      have hcof := hy.cost (j := 6 * (w - i)) (K := KK) (by omega)
      refine r_newa (n := (w - i)) hx hb hts tb_65 hK hW hA (by omega) (by omega) (by omega) dX1_product_21 (fun qp H hW hsz_qp hq_qp => ?_)
      have hW : Wd Z A s.heap (cw Z hc y ++ [ea Z qt w tot, ea Z qp (w - i) (fun _ => 0)]) _ _ := hW
      refine lv_astore (lv' := [(6, .ref qp), (0, .ref hk), (1, .ref aa), (2, .ref ab), (3, .int (nI w)), (4, .ref qt), (5, .int (nI i))]) hx hb dX1_product_23 hl (by decide) rfl (fun ls hl => ?_)
      refine lv_iconst (v := nI 0) hx hb dX1_product_25 (by decide) ?_
      refine lv_istore (lv' := [(7, .int (nI 0)), (6, .ref qp), (0, .ref hk), (1, .ref aa), (2, .ref ab), (3, .int (nI w)), (4, .ref qt), (5, .int (nI i))]) hx hb dX1_product_26 hl (by decide) rfl (fun ls hl => ?_)
      have inner : ∀ (d2 j : Nat) (y1 : CS) (qp : Nat) (pr : Nat → Nat) (H : Heap) (locs : List Loc) (cl2 sl2 : Nat) (ls : Array Slot), j + d2 = w - i → stp y σ j y1 → (∀ k, k < j → pr k < xn y1) → (∀ τ, gd τ → ∀ k, k < j → vl y1 τ (pr k) = (vl x τ (ra k) && vl x τ (rb i))) → cl2 = cl + 1 + 4 * (xu y1 - xu y) → sl2 = sl + (w - i) + 512 * (xu y1 - xu y) → Wd Z A s.heap (cw Z hc y1 ++ [ea Z qt w tot, ea Z qp (w - i) pr]) H locs → lv_has ls 8 [(0, .ref hk), (1, .ref aa), (2, .ref ab), (3, .int (nI w)), (4, .ref qt), (5, .int (nI i)), (6, .ref qp), (7, .int (nI j))] → W p l e R s m ([.ref hk, .ref aa, .ref ab] : List Value).toArray below meth c H locs cl2 sl2 (MQ below (QC Z (cw Z hc x) s.heap.size (numQ Z hc x σ (pg w w) w (fun τ => (rn x τ ra w * rn x τ rb w) % 2 ^ w))) ([.ref hk, .ref aa, .ref ab] : List Value).toArray s ((1 + 3 * w) + 4 * (capU (xu x) (xn x + (pg w w)) - xu x)) ((w + 193 * w) + 512 * (capU (xu x) (xn x + (pg w w)) - xu x)) A) (F0 m 28 ls []) := by
        intro d2
        induction d2 with
        | zero =>
          intro j y1 qp pr H locs cl2 sl2 ls hjd hy1 hpb hps hcl2 hsl2 hW hl
          have hj : j = w - i := by omega
          rw [hj] at hy1 hpb hps
          have hny1 := hy1.2.2.1
          have huy1 := hy1.2.2.2
          have hux1 := capU_le (xu y) (xn y + (w - i))
          have hco := hy1.cost (j := 5 * (w - i)) (K := 6 * (w - i)) (by omega)
          refine lv_iload hx hb dX1_product_28 (lv_at hl 7 rfl) ?_
          refine lv_aload hx hb dX1_product_30 (lv_at hl 6 rfl) ?_
          refine r_len hx hb hK (hW.at 6 rfl) dX1_product_32 ?_
          refine n_ge_t (tgt := 62) hx hb (by omega) (by omega) dX1_product_33 (by decide) ?_
          refine lv_aload_n hx hb dX1_product_62 rfl (lv_at hl 0 rfl) ?_
          refine lv_aload hx hb dX1_product_63 (lv_at hl 4 rfl) ?_
          refine lv_iload hx hb dX1_product_65 (lv_at hl 5 rfl) ?_
          refine lv_iload_n hx hb dX1_product_67 rfl (lv_at hl 3 rfl) ?_
          refine c_stat (As := [.ref qt, .int (nI i), .int (nI w)]) (rest := [.ref hk]) (wc := []) (wr := cw Z hc y1 ++ [ea Z qt w tot, ea Z qp (w - i) pr]) hx hb hml hown hts hK hG rfl hA hl (k_copyOfRange l Z qt w i w tot (by omega) (by omega) (by omega)) hW (hW.at 5 rfl) tb_418 tb_419 tb_13 tb_420 (nA := 3) (by decide +kernel) rfl ⟨by omega, by omega⟩ ⟨by omega, by omega⟩ rfl (Nat.le_of_ble_eq_true rfl) dX1_product_68 (fun v w1 H1 L1 hp hW hzz hkk hdd => ?_)
          obtain ⟨q2, t2, rfl, rfl, ht2⟩ := hp
          clear hzz hkk hdd
          generalize H1 = H at hW  ⊢
          generalize L1 = locs at hW ⊢
          have hW : Wd Z A s.heap ([ea Z q2 (w - i) t2] ++ cw Z hc y1 ++ [ea Z qt w tot, ea Z qp (w - i) pr]) _ _ := hW
          have hW : Wd Z A s.heap (cw Z hc y1 ++ [ea Z qt w tot, ea Z qp (w - i) pr, ea Z q2 (w - i) t2]) _ _ := hW.sub [1, 2, 3, 4, 5, 6, 7, 0] (by decide) rfl
          refine W.eq (g2 := F0 m 71 ls [.ref q2, .ref hk]) rfl ?_
          refine lv_aload hx hb dX1_product_71 (lv_at hl 6 rfl) ?_
          refine lv_iconst (v := nI 0) hx hb dX1_product_73 (by decide) ?_
          refine c_virt (As := [.ref q2, .ref qp, .int (nI 0)]) (rest := []) (wc := cw Z hc y1) (wr := [ea Z qt w tot, ea Z qp (w - i) pr, ea Z q2 (w - i) t2]) (nl := 0) hx hb hml hown hts hK hG rfl hA hl (k_sum l Z hk hc y1 σ q2 qp (w - i) (w - i) t2 pr 0 hy1.1 (by omega) (by omega) (Nat.le_refl _) (by omega) (fun k hk => by rw [ht2 k hk]; have := htb (i + k) (by omega); omega) hpb (by have := hy1.1.1; omega)) hW ⟨RO.pass hro.1 hAe hW, RO.loc hW 2 rfl, RO.loc hW 1 rfl⟩ (hro.1.here hAe hW) rfl rfl tb_372 tb_373 tb_374 tb_2 tb_375 (nA := 3) (by decide +kernel) rfl ⟨by omega, by omega⟩ ⟨by omega, by omega⟩ rfl (Nat.le_of_ble_eq_true rfl) dX1_product_74 (fun v w1 H1 L1 hp hW hzz hkk hdd => ?_)
          obtain ⟨y2, q3, g, rfl, rfl, hst, hgb, hgs⟩ := hp
          clear hzz hkk hdd
          generalize H1 = H at hW  ⊢
          generalize L1 = locs at hW ⊢
          have hW : Wd Z A s.heap (cw Z hc y2 ++ [ea Z q3 (w - i + 1) g, ea Z qt w tot, ea Z qp (w - i) pr, ea Z q2 (w - i) t2]) _ _ := hW
          refine W.eq (g2 := F0 m 77 ls [.ref q3]) rfl ?_
          have hu2 := hst.2.2.2
          have h2 := hy1.tr hst
          have h3 := hy.tr h2
          refine lv_astore (lv' := [(7, .ref q3), (0, .ref hk), (1, .ref aa), (2, .ref ab), (3, .int (nI w)), (4, .ref qt), (5, .int (nI i)), (6, .ref qp)]) hx hb dX1_product_77 hl (by decide) rfl (fun ls hl => ?_)
          refine lv_aload hx hb dX1_product_79 (lv_at hl 0 rfl) ?_
          refine lv_iconst (v := nI 0) hx hb dX1_product_81 (by decide) ?_
          refine lv_aload hx hb dX1_product_82 (lv_at hl 5 rfl) ?_
          refine lv_iload hx hb dX1_product_84 (lv_at hl 6 rfl) ?_
          refine lv_aload hx hb dX1_product_86 (lv_at hl 7 rfl) ?_
          refine r_len hx hb hK (hW.at 7 rfl) dX1_product_88 ?_
          refine r_copy hx hb hml hl hown hts hK hW tb_646 (f := g) (n0 := w - i + 1) (sp := 0) (dp := i) (n := w - i) (hW.at 5 rfl) 6 rfl (by omega) (by omega) (by omega) (by omega) (by omega) (by rw [hRl]; exact Nat.le_of_ble_eq_true rfl) dX1_product_89 (fun H locs hW => ?_)
          have hW : Wd Z A s.heap (cw Z hc y2 ++ [ea Z q3 (w - i + 1) g, ea Z qt w (va_cpy g tot 0 i (w - i)), ea Z qp (w - i) pr, ea Z q2 (w - i) t2]) _ _ := hW
          refine lv_iinc (v := nI (i + 1)) (lv' := [(5, .int (nI (i + 1))), (7, .ref q3), (0, .ref hk), (1, .ref aa), (2, .ref ab), (3, .int (nI w)), (4, .ref qt), (6, .ref qp)]) hx hb dX1_product_92 hl (k := 6) rfl (inc1 _) (by decide) rfl (fun ls hl => ?_)
          refine lv_goto (tgt := 11) hx hb dX1_product_95 (by decide) ?_
          have hW : Wd Z A s.heap (cw Z hc y2 ++ [ea Z qt w (va_cpy g tot 0 i (w - i))]) _ _ := hW.sub [0, 1, 2, 3, 4, 6] (by decide) rfl
          have hny2 := h3.2.2.1
          refine ih (i + 1) y2 qt (va_cpy g tot 0 i (w - i)) _ _ _ _ ls (by omega) (by rw [pg_s]; have e : pg w i + 6 * (w - i) = pg w i + (w - i + 5 * (w - i)) := (by omega); rw [e]; exact h3) (fun j hj => ?_) (fun τ hτ => ?_) ?_ ?_ hW (lv_sub hl [2, 3, 4, 5, 6, 0] rfl)
          · by_cases e : i ≤ j
            · rw [pk_cpy_in e (by omega)]; exact hgb _ (by omega)
            · rw [pk_cpy_out (by omega)]; have := htb j hj; omega
          · have c1 : cex y y2 := h2.2.1
            have hs := hgs τ hτ
            have eT := hsem τ hτ
            have eL : rn y2 τ (va_cpy g tot 0 i (w - i)) i = rn y τ tot i := by
              rw [rn_congr (r' := tot) (fun j hj => pk_cpy_out (by omega)), rn_ex c1 (fun j hj => htb j (by omega))]
            have eH : rn y2 τ (fun j => va_cpy g tot 0 i (w - i) (i + j)) (w - i) = rn y2 τ g (w - i) := rn_congr (fun j hj => by rw [pk_cpy_in (by omega) (by omega)]; congr 1; omega)
            have e3 : rn y1 τ t2 (w - i) = rn y τ (fun j => tot (i + j)) (w - i) := by
              rw [rn_congr (r' := fun j => tot (i + j)) (fun j hj => ht2 j (by omega)), rn_ex hy1.2.1 (fun j hj => htb (i + j) (by omega))]
            have e4 : rn y1 τ pr (w - i) = (vl x τ (rb i)).toNat * (rn x τ ra w % 2 ^ (w - i)) := by
              have h1 : rn y1 τ pr (w - i) = bn (fun j => vl x τ (ra j) && vl x τ (rb i)) (w - i) := bn_congr (hps τ hτ)
              rw [h1, bn_and, ← rn_low (by omega)]; rfl
            rw [rn_s, e3, e4, vl_0 hy1.1 hτ] at hs
            have hw2 : w = i + (w - i) := by omega
            rw [hw2, rn_split, ← hw2] at eT
            have eG : rn y2 τ g (w - i) = (rn y τ (fun j => tot (i + j)) (w - i) + (vl x τ (rb i)).toNat * (rn x τ ra w % 2 ^ (w - i))) % 2 ^ (w - i) := low_mod (b := (vl y2 τ (g (w - i))).toNat) (by rw [hs]; rfl) (rn_lt _ _ _ _)
            have eF : rn y2 τ (va_cpy g tot 0 i (w - i)) w = rn y τ tot i + 2 ^ i * rn y2 τ g (w - i) := by
              have h := rn_split y2 τ (va_cpy g tot 0 i (w - i)) i (w - i)
              rw [← hw2, eL, eH] at h
              exact h
            rw [eF, eG, rn_s]
            exact mul_step (by omega) eT (rn_lt _ _ _ _)
          · omega
          · omega
        | succ d2 ih2 =>
          intro j y1 qp pr H locs cl2 sl2 ls hjd hy1 hpb hps hcl2 hsl2 hW hl
          have hny1 := hy1.2.2.1
          have huy1 := hy1.2.2.2
          have hra_j := hra j (by omega)
          refine lv_iload hx hb dX1_product_28 (lv_at hl 7 rfl) ?_
          refine lv_aload hx hb dX1_product_30 (lv_at hl 6 rfl) ?_
          refine r_len hx hb hK (hW.at 6 rfl) dX1_product_32 ?_
          refine n_ge_f (tgt := 62) hx hb (by omega) (by omega) dX1_product_33 (by decide) ?_
          refine lv_aload hx hb dX1_product_36 (lv_at hl 6 rfl) ?_
          refine lv_iload hx hb dX1_product_38 (lv_at hl 7 rfl) ?_
          refine lv_aload_n hx hb dX1_product_40 rfl (lv_at hl 0 rfl) ?_
          refine r_get hx hb hts hown hK (hro.1.here hAe hW) rfl in_X1 0 (by decide) tb_66 (fun _ h => h) rfl dX1_product_41 ?_
          refine lv_aload_n hx hb dX1_product_44 rfl (lv_at hl 1 rfl) ?_
          refine lv_iload hx hb dX1_product_45 (lv_at hl 7 rfl) ?_
          refine r_ald (i := j) hx hb hK (hro.2.1.here hAe hW) (by omega) (by omega) dX1_product_47 ?_
          refine lv_aload_n hx hb dX1_product_48 rfl (lv_at hl 2 rfl) ?_
          refine lv_iload hx hb dX1_product_49 (lv_at hl 5 rfl) ?_
          refine r_ald (i := i) hx hb hK (hro.2.2.here hAe hW) (by omega) (by omega) dX1_product_51 ?_
          have hco := hy1.cost (j := 1) (K := 6 * (w - i)) (by omega)
          refine c_virt (As := [.int (nI (ra j)), .int (nI (rb i))]) (rest := [.int (nI j), .ref qp]) (wc := cw Z hc y1) (wr := [ea Z qt w tot, ea Z qp (w - i) pr]) (nl := 0) hx hb hml hown hts hK hG rfl hA hl (k_and l Z hc y1 σ (ra j) (rb i) hy1.1 (by omega) (by omega) (by omega)) hW trivial (hW.at 0 rfl) rfl rfl tb_376 tb_377 tb_378 tb_3 tb_379 (nA := 2) (by decide +kernel) rfl ⟨by omega, by omega⟩ ⟨by omega, by omega⟩ rfl (Nat.le_of_ble_eq_true rfl) dX1_product_52 (fun v w1 H1 L1 hp hW hzz hkk hdd => ?_)
          obtain ⟨y2, rfl, rfl, g2⟩ := hp
          clear hzz hkk hdd
          generalize H1 = H at hW  ⊢
          generalize L1 = locs at hW ⊢
          have hW : Wd Z A s.heap (cw Z hc y2 ++ [ea Z qt w tot, ea Z qp (w - i) pr]) _ _ := hW
          refine W.eq (g2 := F0 m 55 ls [.int (nI (xn y1)), .int (nI j), .ref qp]) rfl ?_
          have hy2 := hy1.g g2
          have hny2 := hy2.2.2.1
          have huy2 := (stp.of g2).2.2.2
          have k1 := cex.rf y2
          have k0 := g2.2.2.2.2.1.tr k1
          have kx := hy.2.1.tr hy2.2.1
          refine r_ast (i := j) (x := (xn y1)) hx hb hK hW 6 rfl (by omega) (by omega) dX1_product_55 (fun H locs hW => ?_)
          have hW : Wd Z A s.heap (cw Z hc y2 ++ [ea Z qt w tot, ea Z qp (w - i) (up pr j (xn y1))]) _ _ := hW
          refine lv_iinc (v := nI (j + 1)) (lv' := [(7, .int (nI (j + 1))), (0, .ref hk), (1, .ref aa), (2, .ref ab), (3, .int (nI w)), (4, .ref qt), (5, .int (nI i)), (6, .ref qp)]) hx hb dX1_product_56 hl (k := 7) rfl (inc1 _) (by decide) rfl (fun ls hl => ?_)
          refine lv_goto (tgt := 28) hx hb dX1_product_59 (by decide) ?_
          refine ih2 (j + 1) y2 qp (up pr j (xn y1)) _ _ _ _ ls (by omega) hy2 (fun k hk => ?_) (fun τ hτ k hk => ?_) ?_ ?_ hW (lv_sub hl [1, 2, 3, 4, 5, 6, 7, 0] rfl)
          · by_cases e : k = j
            · subst e; rw [up_s]; omega
            · rw [up_n _ _ e]; have := hpb k (by omega); omega
          · by_cases e : k = j
            · subst e
              rw [up_s, gval g2 (by decide) k1 (by omega) (by omega) τ, c_op1, kx.vl hra_j, kx.vl hrb_i]
            · rw [up_n _ _ e, k0.vl (hpb k (by omega))]
              exact hps τ hτ k (by omega)
          · omega
          · omega
      exact inner (w - i) 0 y qp (fun _ => 0) _ _ _ _ ls (by omega) (stp.rf hy.1) (fun j hj => absurd hj (by omega)) (fun τ hτ j hj => absurd hj (by omega)) (by omega) (by omega) hW (lv_sub hl [2, 3, 4, 5, 6, 7, 1, 0] rfl)
  refine lv_aload_n hx hb dX1_product_0 rfl (lv_at hl 1 rfl) ?_
  refine r_len hx hb hK (hro.2.1.here hAe hW) dX1_product_1 ?_
  refine lv_istore_n (lv' := [(3, .int (nI w)), (0, .ref hk), (1, .ref aa), (2, .ref ab)]) hx hb dX1_product_2 rfl hl (by decide) rfl (fun ls hl => ?_)
  refine lv_iload_n hx hb dX1_product_3 rfl (lv_at hl 0 rfl) ?_
  refine r_newa (n := w) hx hb hts tb_65 hK hW hA (by omega) (by omega) (by omega) dX1_product_4 (fun qt H hW hsz_qt hq_qt => ?_)
  have hW : Wd Z A s.heap (cw Z hc x ++ [ea Z qt w (fun _ => 0)]) _ _ := hW
  refine lv_astore (lv' := [(4, .ref qt), (3, .int (nI w)), (0, .ref hk), (1, .ref aa), (2, .ref ab)]) hx hb dX1_product_6 hl (by decide) rfl (fun ls hl => ?_)
  refine lv_iconst (v := nI 0) hx hb dX1_product_8 (by decide) ?_
  refine lv_istore (lv' := [(5, .int (nI 0)), (4, .ref qt), (3, .int (nI w)), (0, .ref hk), (1, .ref aa), (2, .ref ab)]) hx hb dX1_product_9 hl (by decide) rfl (fun ls hl => ?_)
  refine loop w 0 x qt (fun _ => 0) _ _ _ _ ls (by omega) (stp.rf hx0) (fun j hj => by have := hx0.1; omega) (fun τ hτ => ?_) (by omega) (by omega) hW (lv_sub hl [3, 4, 5, 2, 1, 0] rfl)
  rw [rn_zero hx0 hτ]
  simp [rn, bn]
def dvi (k : Nat) : Int32 := nI k + Int32.ofInt (-1)
theorem dvi_s (k : Nat) : dvi (k + 1) = nI k := dec1 (by omega)
theorem dvi_0 : dvi 0 < 0 := by decide
def dvN (wr : Nat) (A B w : Nat) : Nat := if wr = 0 then dQ A B w 0 else dR A B 0
set_option maxHeartbeats 4000000 in
set_option maxRecDepth 100000 in
/-- Reckoner.divided -/
theorem k_divided (l : Launch) (Z : Zt) (hk hc : Nat) (x : CS) (σ : Nat → Bool) (aa ab w wr : Nat) (ra rb : Nat → Nat) (hx0 : cok x σ) (hn : xn x + (dg w w) < 400000) (hw : w ≤ 64) (hw1 : 1 ≤ w) (hwr : wr ≤ 1) (hra : ∀ j, j < w → ra j < xn x) (hrb : ∀ j, j < w → rb j < xn x) : MC l yX1_divided cX1_divided 11 (some (.array .int)) 6 280 ((3 + 3 * w) + 4 * (capU (xu x) (xn x + (dg w w)) - xu x)) ((3 * w + 193 * w) + 512 * (capU (xu x) (xn x + (dg w w)) - xu x)) Z (cw Z hc x) (fun H => RO Z (cw Z hc x) (eo hk 1 [.ref hc]) H ∧ RO Z (cw Z hc x) (ea Z aa w ra) H ∧ RO Z (cw Z hc x) (ea Z ab w rb) H) [.ref hk, .ref aa, .ref ab, .int (nI wr)] (numQ Z hc x σ (dg w w) w (fun τ => dvN wr (rn x τ ra w) (rn x τ rb w) w)) := by
  refine mc_of (by decide) (Nat.le_of_ble_eq_true rfl) (fun p e s m below meth c ls A hx hb hr hts hown hlk hml hin hK hG hW hA hAe hro hl R hRf hRc hRs hRl => ?_)
  have hl : lv_has ls 11 [(0, .ref hk), (1, .ref aa), (2, .ref ab), (3, .int (nI wr))] := hl
  have hW : Wd Z A s.heap (cw Z hc x ++ []) _ _ := hW
  obtain ⟨KK, hKK⟩ : ∃ k, k = dg w w := ⟨_, rfl⟩
  rw [← hKK] at hRc hRs hn
  have loop : ∀ (k i : Nat) (y : CS) (q5 q6 q7 : Nat) (iv qt rs : Nat → Nat) (H : Heap) (locs : List Loc) (cl sl : Nat) (ls : Array Slot), i + k = w → stp x σ (dg w i) y → (∀ j, j < w → iv j < xn y ∧ rs j < xn y ∧ qt j < xn y) → (∀ τ, gd τ → (∀ j, j < w → vl y τ (iv j) = !vl x τ (rb j)) ∧ rn y τ rs w = dR (rn x τ ra w) (rn x τ rb w) k ∧ bn (fun j => vl y τ (qt (k + j))) (w - k) = dQ (rn x τ ra w) (rn x τ rb w) w k) → cl = 3 + 3 * i + 4 * (xu y - xu x) → sl ≤ 3 * w + 193 * i + 512 * (xu y - xu x) → Wd Z A s.heap (cw Z hc y ++ [ea Z q5 w iv, ea Z q6 w qt, ea Z q7 w rs]) H locs → lv_has ls 11 [(0, .ref hk), (1, .ref aa), (3, .int (nI wr)), (4, .int (nI w)), (5, .ref q5), (6, .ref q6), (7, .ref q7), (8, .int (dvi k))] → W p l e R s m ([.ref hk, .ref aa, .ref ab, .int (nI wr)] : List Value).toArray below meth c H locs cl sl (MQ below (QC Z (cw Z hc x) s.heap.size (numQ Z hc x σ (dg w w) w (fun τ => dvN wr (rn x τ ra w) (rn x τ rb w) w))) ([.ref hk, .ref aa, .ref ab, .int (nI wr)] : List Value).toArray s ((3 + 3 * w) + 4 * (capU (xu x) (xn x + (dg w w)) - xu x)) ((3 * w + 193 * w) + 512 * (capU (xu x) (xn x + (dg w w)) - xu x)) A) (F0 m 29 ls []) := by
    intro k
    induction k with
    | zero =>
      intro i y q5 q6 q7 iv qt rs H locs cl sl ls hid hy hbd hsem hcl hsl hW hl
      have hi : i = w := by omega
      rw [hi] at hy
      have hco := hy.cost (j := 0) (K := KK) (by omega)
      rw [hKK] at hco hRc hRs
      have hu3 := hy.2.2.2
      refine lv_iload hx hb dX1_divided_29 (lv_at hl 7 rfl) ?_
      refine lv_if_lt (tgt := 89) hx hb dX1_divided_31 (by decide) (fun _ => ?_) (fun q => absurd dvi_0 q)
      refine lv_iload_n hx hb dX1_divided_89 rfl (lv_at hl 2 rfl) ?_
      by_cases hw0 : wr = 0
      · refine n_zeq_t (tgt := 98) hx hb (by omega) dX1_divided_90 (by decide) ?_
        refine lv_aload hx hb dX1_divided_98 (lv_at hl 5 rfl) ?_
        have hW : Wd Z A s.heap (cw Z hc y ++ [ea Z q6 w qt]) _ _ := hW.sub [0, 1, 2, 3, 4, 6] (by decide) rfl
        refine e_ref hx hb hr (Or.inr ⟨_, rfl⟩) hlk hAe hW (by omega) (by omega) dX1_divided_100 ⟨y, q6, qt, rfl, rfl, hy, fun j hj => (hbd j hj).2.2, fun τ hτ => ?_⟩
        have h := (hsem τ hτ).2.2
        simp only [Nat.zero_add, Nat.sub_zero] at h
        dsimp only
        rw [dvN, if_pos hw0]
        exact h
      · refine n_zeq_f (tgt := 98) hx hb (by omega) (by omega) dX1_divided_90 (by decide) ?_
        refine lv_aload hx hb dX1_divided_93 (lv_at hl 6 rfl) ?_
        refine lv_goto (tgt := 100) hx hb dX1_divided_95 (by decide) ?_
        have hW : Wd Z A s.heap (cw Z hc y ++ [ea Z q7 w rs]) _ _ := hW.sub [0, 1, 2, 3, 4, 7] (by decide) rfl
        refine e_ref hx hb hr (Or.inr ⟨_, rfl⟩) hlk hAe hW (by omega) (by omega) dX1_divided_100 ⟨y, q7, rs, rfl, rfl, hy, fun j hj => (hbd j hj).2.1, fun τ hτ => ?_⟩
        dsimp only
        rw [dvN, if_neg hw0]
        exact (hsem τ hτ).2.1
    | succ k ih =>
      intro i y q5 q6 q7 iv qt rs H locs cl sl ls hid hy hbd hsem hcl hsl hW hl
      have hny := hy.2.2.1
      have huy := hy.2.2.2
      have hra_k := hra k (by omega)
      have hdg := dg_mono w (i := i + 1) (j := w) (by omega)
      rw [dg_s] at hdg
      rw [dvi_s] at hl
      have hl : lv_has ls 11 [(0, .ref hk), (1, .ref aa), (3, .int (nI wr)), (4, .int (nI w)), (5, .ref q5), (6, .ref q6), (7, .ref q7), (8, .int (nI k))] := hl
      have hux : xu x ≤ xu y := (hy.cost (j := 0) (K := KK) (by omega)).1
      have hco := hy.cost (j := 5 * w) (K := KK) (by omega)
      refine lv_iload hx hb dX1_divided_29 (lv_at hl 7 rfl) ?_
      refine n_zlt_f (tgt := 89) hx hb (by omega) dX1_divided_31 (by decide) ?_
      refine lv_aload hx hb dX1_divided_34 (lv_at hl 6 rfl) ?_
      refine lv_iconst (v := nI 1) hx hb dX1_divided_36 (by decide) ?_
      refine lv_iconst (v := nI 1) hx hb dX1_divided_37 (by decide) ?_
      refine lv_aload_n hx hb dX1_divided_38 rfl (lv_at hl 1 rfl) ?_
      refine lv_iload hx hb dX1_divided_39 (lv_at hl 7 rfl) ?_
      refine r_ald (i := k) hx hb hK (hro.2.1.here hAe hW) (by omega) (by omega) dX1_divided_41 ?_
      refine c_stat (As := [.ref q7, .int (nI 1), .int (nI 1), .int (nI (ra k))]) (rest := []) (wc := []) (wr := cw Z hc y ++ [ea Z q5 w iv, ea Z q6 w qt, ea Z q7 w rs]) hx hb hml hown hts hK hG rfl hA hl (k_moved l Z q7 w 1 1 (ra k) rs (by omega) (by omega) (by omega)) hW (hW.at 7 rfl) tb_652 tb_653 tb_2 tb_654 (nA := 4) (by decide +kernel) rfl ⟨by omega, by omega⟩ ⟨by omega, by omega⟩ rfl (Nat.le_of_ble_eq_true rfl) dX1_divided_42 (fun v w1 H1 L1 hp hW hzz hkk hdd => ?_)
      obtain ⟨q9, nx, rfl, rfl, hnx⟩ := hp
      clear hzz hkk hdd
      generalize H1 = H at hW  ⊢
      generalize L1 = locs at hW ⊢
      have hW : Wd Z A s.heap ([ea Z q9 w nx] ++ cw Z hc y ++ [ea Z q5 w iv, ea Z q6 w qt, ea Z q7 w rs]) _ _ := hW
      have hW : Wd Z A s.heap (cw Z hc y ++ [ea Z q5 w iv, ea Z q6 w qt, ea Z q7 w rs, ea Z q9 w nx]) _ _ := hW.sub [1, 2, 3, 4, 5, 6, 7, 8, 0] (by decide) rfl
      refine W.eq (g2 := F0 m 45 ls [.ref q9]) rfl ?_
      refine lv_astore (lv' := [(9, .ref q9), (0, .ref hk), (1, .ref aa), (3, .int (nI wr)), (4, .int (nI w)), (5, .ref q5), (6, .ref q6), (7, .ref q7), (8, .int (nI k))]) hx hb dX1_divided_45 hl (by decide) rfl (fun ls hl => ?_)
      refine lv_aload_n hx hb dX1_divided_47 rfl (lv_at hl 1 rfl) ?_
      refine lv_aload hx hb dX1_divided_48 (lv_at hl 0 rfl) ?_
      refine lv_aload hx hb dX1_divided_50 (lv_at hl 5 rfl) ?_
      refine lv_iconst (v := nI 1) hx hb dX1_divided_52 (by decide) ?_
      have hnb : ∀ j, j < w → nx j < xn y := fun j hj => by rw [hnx j hj]; exact mvd_lt hj (by omega) (fun i hi => (hbd i hi).2.1)
      refine c_virt (As := [.ref q9, .ref q5, .int (nI 1)]) (rest := []) (wc := cw Z hc y) (wr := [ea Z q5 w iv, ea Z q6 w qt, ea Z q7 w rs, ea Z q9 w nx]) (nl := 0) hx hb hml hown hts hK hG rfl hA hl (k_sum l Z hk hc y σ q9 q5 w w nx iv 1 hy.1 (by omega) hw (Nat.le_refl _) (by omega) hnb (fun j hj => (hbd j hj).1) (by have := hy.1.1; omega)) hW ⟨RO.pass hro.1 hAe hW, RO.loc hW 3 rfl, RO.loc hW 0 rfl⟩ (hro.1.here hAe hW) rfl rfl tb_372 tb_373 tb_374 tb_2 tb_375 (nA := 3) (by decide +kernel) rfl ⟨by omega, by omega⟩ ⟨by omega, by omega⟩ rfl (Nat.le_of_ble_eq_true rfl) dX1_divided_53 (fun v w1 H1 L1 hp hW hzz hkk hdd => ?_)
      obtain ⟨y2, q10, td, rfl, rfl, hst, htdb, htds⟩ := hp
      clear hzz hkk hdd
      generalize H1 = H at hW  ⊢
      generalize L1 = locs at hW ⊢
      have hW : Wd Z A s.heap (cw Z hc y2 ++ [ea Z q10 (w + 1) td, ea Z q5 w iv, ea Z q6 w qt, ea Z q7 w rs, ea Z q9 w nx]) _ _ := hW
      refine W.eq (g2 := F0 m 56 ls [.ref q10]) rfl ?_
      have hu2 := hst.2.2.2
      have h2 := hy.tr hst
      have hny2 := hst.2.2.1
      have hco2 := h2.cost (j := 3 * w) (K := KK) (by omega)
      have htw := htdb w (by omega)
      refine lv_astore (lv' := [(10, .ref q10), (9, .ref q9), (0, .ref hk), (1, .ref aa), (3, .int (nI wr)), (4, .int (nI w)), (5, .ref q5), (6, .ref q6), (7, .ref q7), (8, .int (nI k))]) hx hb dX1_divided_56 hl (by decide) rfl (fun ls hl => ?_)
      refine lv_aload hx hb dX1_divided_58 (lv_at hl 7 rfl) ?_
      refine lv_iload hx hb dX1_divided_60 (lv_at hl 9 rfl) ?_
      refine lv_aload hx hb dX1_divided_62 (lv_at hl 0 rfl) ?_
      refine lv_iload hx hb dX1_divided_64 (lv_at hl 5 rfl) ?_
      refine r_ald (i := w) hx hb hK (hW.at 5 rfl) (by omega) (by omega) dX1_divided_66 ?_
      refine r_ast (i := k) (x := (td w)) hx hb hK hW 7 rfl (by omega) (by omega) dX1_divided_67 (fun H locs hW => ?_)
      have hW : Wd Z A s.heap (cw Z hc y2 ++ [ea Z q10 (w + 1) td, ea Z q5 w iv, ea Z q6 w (up qt k (td w)), ea Z q7 w rs, ea Z q9 w nx]) _ _ := hW
      refine lv_aload_n hx hb dX1_divided_68 rfl (lv_at hl 2 rfl) ?_
      refine lv_aload hx hb dX1_divided_69 (lv_at hl 7 rfl) ?_
      refine lv_iload hx hb dX1_divided_71 (lv_at hl 9 rfl) ?_
      refine r_ald (i := k) hx hb hK (hW.at 7 rfl) (by omega) (by omega) dX1_divided_73 ?_
      refine lv_aload hx hb dX1_divided_74 (lv_at hl 0 rfl) ?_
      refine lv_aload hx hb dX1_divided_76 (lv_at hl 1 rfl) ?_
      rw [up_s]
      refine c_virt (As := [.int (nI (td w)), .ref q10, .ref q9]) (rest := []) (wc := cw Z hc y2) (wr := [ea Z q10 (w + 1) td, ea Z q5 w iv, ea Z q6 w (up qt k (td w)), ea Z q7 w rs, ea Z q9 w nx]) (nl := 0) hx hb hml hown hts hK hG rfl hA hl (k_picked l Z hk hc y2 σ (td w) q10 q9 w (w + 1) td nx h2.1 (by omega) hw (by omega) (by omega) htw (fun j hj => htdb j (by omega)) (fun j hj => by have := hnb j hj; omega)) hW ⟨RO.pass hro.1 hAe hW, RO.loc hW 0 rfl, RO.loc hW 4 rfl⟩ (hro.1.here hAe hW) rfl rfl tb_655 tb_656 tb_657 tb_2 tb_658 (nA := 3) (by decide +kernel) rfl ⟨by omega, by omega⟩ ⟨by omega, by omega⟩ rfl (Nat.le_of_ble_eq_true rfl) dX1_divided_78 (fun v w1 H1 L1 hp hW hzz hkk hdd => ?_)
      obtain ⟨y3, q11, rs2, rfl, rfl, hst3, hrb3, hrs3⟩ := hp
      clear hzz hkk hdd
      generalize H1 = H at hW  ⊢
      generalize L1 = locs at hW ⊢
      have hW : Wd Z A s.heap (cw Z hc y3 ++ [ea Z q11 w rs2, ea Z q10 (w + 1) td, ea Z q5 w iv, ea Z q6 w (up qt k (td w)), ea Z q7 w rs, ea Z q9 w nx]) _ _ := hW
      refine W.eq (g2 := F0 m 81 ls [.ref q11]) rfl ?_
      have hu3 := hst3.2.2.2
      have h3 := h2.tr hst3
      have hny3 := h3.2.2.1
      refine lv_astore (lv' := [(7, .ref q11), (10, .ref q10), (9, .ref q9), (0, .ref hk), (1, .ref aa), (3, .int (nI wr)), (4, .int (nI w)), (5, .ref q5), (6, .ref q6), (8, .int (nI k))]) hx hb dX1_divided_81 hl (by decide) rfl (fun ls hl => ?_)
      refine lv_iinc (v := dvi k) (lv' := [(8, .int (dvi k)), (7, .ref q11), (10, .ref q10), (9, .ref q9), (0, .ref hk), (1, .ref aa), (3, .int (nI wr)), (4, .int (nI w)), (5, .ref q5), (6, .ref q6)]) hx hb dX1_divided_83 hl (k := 9) rfl rfl (by decide) rfl (fun ls hl => ?_)
      refine lv_goto (tgt := 29) hx hb dX1_divided_86 (by decide) ?_
      have hW : Wd Z A s.heap (cw Z hc y3 ++ [ea Z q5 w iv, ea Z q6 w (up qt k (td w)), ea Z q11 w rs2]) _ _ := hW.sub [0, 1, 2, 3, 4, 7, 8, 5] (by decide) rfl
      have c2 : cex y y3 := hst.2.1.tr hst3.2.1
      refine ih (i + 1) y3 q5 q6 q11 iv (up qt k (td w)) rs2 _ _ _ _ ls (by omega) (by rw [dg_s]; have e : dg w i + 8 * w = dg w i + 5 * w + 3 * w := (by omega); rw [e]; exact h3) (fun j hj => ⟨?_, hrb3 j hj, ?_⟩) (fun τ hτ => ?_) ?_ ?_ hW (lv_sub hl [4, 5, 6, 7, 8, 9, 1, 0] rfl)
      · have := (hbd j hj).1; omega
      · by_cases e : j = k
        · subst e; rw [up_s]; omega
        · rw [up_n _ _ e]; have := (hbd j hj).2.2; omega
      · obtain ⟨s1, s2, s3⟩ := hsem τ hτ
        have hAl := rn_lt x τ ra w
        have hab : (rn x τ ra w).testBit k = vl x τ (ra k) := by
          have h := bn_bit (fun j => vl x τ (ra j)) w k
          rw [decide_eq_true (by omega), Bool.true_and] at h
          exact h
        have hRl := dR_lt hAl (show k < w by omega) (rn x τ rb w)
        have hnv : rn y τ nx w = 2 * dR (rn x τ ra w) (rn x τ rb w) (k + 1) + (vl x τ (ra k)).toNat := by
          refine bn_up1 (β := fun j => vl y τ (rs j)) (by omega) s2 hRl ?_ (fun j h1 h2 => ?_)
          · show vl y τ (nx 0) = _
            rw [hnx 0 (by omega), mvd, if_pos rfl, if_neg (by omega), hy.2.1.vl hra_k]
          · show vl y τ (nx j) = _
            rw [hnx j h2, mvd, if_pos rfl, if_pos h1]
        have e1 : rn y τ iv w = 2 ^ w - 1 - rn x τ rb w := by
          have h1 : rn y τ iv w = bn (fun j => !vl x τ (rb j)) w := bn_congr s1
          have h2 := bn_not (fun j => vl x τ (rb j)) w
          have h3 : rn x τ rb w = bn (fun j => vl x τ (rb j)) w := rfl
          rw [h1, h3]; omega
        have hBl := rn_lt x τ rb w
        have hNl := rn_lt y τ nx w
        have hs := htds τ hτ
        rw [rn_s, e1, vl_1 hy.1 hτ] at hs
        have hge := ge_bit hs (rn_lt _ _ _ _) hNl hBl
        have hge3 : vl y3 τ (td w) = vl y2 τ (td w) := hst3.2.1.vl htw
        have hlow : rn y2 τ td w = (rn y τ nx w + (2 ^ w - 1 - rn x τ rb w) + 1) % 2 ^ w := low_mod hs (rn_lt _ _ _ _)
        refine ⟨fun j hj => by rw [c2.vl (hbd j hj).1]; exact s1 j hj, ?_, ?_⟩
        · rw [dR_step, hab, ← hnv]
          have hpk : rn y3 τ rs2 w = if vl y2 τ (td w) then rn y2 τ td w else rn y2 τ nx w := by
            have h := bn_congr (n := w) (β := fun j => vl y3 τ (rs2 j)) (hrs3 τ hτ)
            dsimp only at h
            cases hc : vl y2 τ (td w)
            · rw [hc] at h; exact h
            · rw [hc] at h; exact h
          rw [hpk, hge, rn_ex hst.2.1 hnb]
          by_cases q : rn x τ rb w ≤ rn y τ nx w
          · rw [decide_eq_true q, if_pos rfl, if_pos q, hlow]
            have e : rn y τ nx w + (2 ^ w - 1 - rn x τ rb w) + 1 = (rn y τ nx w - rn x τ rb w) + 2 ^ w := by omega
            rw [e, Nat.add_mod_right, Nat.mod_eq_of_lt (by omega)]
          · rw [decide_eq_false q, if_neg (by simp), if_neg q]
        · have e : w - k = (w - (k + 1)) + 1 := by omega
          have h0 := bn_shift1 (fun j => vl y3 τ (up qt k (td w) j)) k (w - (k + 1))
          rw [e, h0, up_s, dQ_step _ _ _ _ (by omega), hab, ← hnv, hge3, hge, ← s3]
          congr 2
          refine bn_congr (fun j hj => ?_)
          rw [up_n _ _ (by omega), c2.vl (hbd _ (by omega)).2.2]
      · omega
      · omega
  refine lv_aload_n hx hb dX1_divided_0 rfl (lv_at hl 1 rfl) ?_
  refine r_len hx hb hK (hro.2.1.here hAe hW) dX1_divided_1 ?_
  refine lv_istore (lv' := [(4, .int (nI w)), (0, .ref hk), (1, .ref aa), (2, .ref ab), (3, .int (nI wr))]) hx hb dX1_divided_2 hl (by decide) rfl (fun ls hl => ?_)
  refine lv_aload_n hx hb dX1_divided_4 rfl (lv_at hl 1 rfl) ?_
  refine lv_aload_n hx hb dX1_divided_5 rfl (lv_at hl 3 rfl) ?_
  have hx1 := stp.rf hx0
  have hdw : dg w 0 ≤ dg w w := dg_mono w (by omega)
  have hdw0 : dg w 0 = w := rfl
  have hco := hx1.cost (j := 1 * w) (K := KK) (by omega)
  refine c_virt (As := [.ref ab]) (rest := []) (wc := cw Z hc x) (wr := []) (nl := 0) hx hb hml hown hts hK hG rfl hA hl (k_inverted l Z hk hc x σ ab w rb hx0 (by omega) hw hrb) hW ⟨RO.pass hro.1 hAe hW, RO.pass hro.2.2 hAe hW⟩ (hro.1.here hAe hW) rfl rfl tb_651 tb_357 tb_358 tb_2 tb_359 (nA := 1) (by decide +kernel) rfl ⟨by omega, by omega⟩ ⟨by omega, by omega⟩ rfl (Nat.le_of_ble_eq_true rfl) dX1_divided_6 (fun v w1 H1 L1 hp hW hzz hkk hdd => ?_)
  obtain ⟨y, q5, iv, rfl, rfl, hy, hib, his⟩ := hp
  clear hzz hkk hdd
  generalize H1 = H at hW  ⊢
  generalize L1 = locs at hW ⊢
  have hW : Wd Z A s.heap (cw Z hc y ++ [ea Z q5 w iv]) _ _ := hW
  refine W.eq (g2 := F0 m 9 ls [.ref q5]) rfl ?_
  have huy := hy.2.2.2
  have hny := hy.2.2.1
  refine lv_astore (lv' := [(5, .ref q5), (4, .int (nI w)), (0, .ref hk), (1, .ref aa), (2, .ref ab), (3, .int (nI wr))]) hx hb dX1_divided_9 hl (by decide) rfl (fun ls hl => ?_)
  refine lv_iload hx hb dX1_divided_11 (lv_at hl 1 rfl) ?_
  refine r_newa (n := w) hx hb hts tb_65 hK hW hA (by omega) (by omega) (by omega) dX1_divided_13 (fun q6 H hW hsz_q6 hq_q6 => ?_)
  have hW : Wd Z A s.heap (cw Z hc y ++ [ea Z q5 w iv, ea Z q6 w (fun _ => 0)]) _ _ := hW
  refine lv_astore (lv' := [(6, .ref q6), (5, .ref q5), (4, .int (nI w)), (0, .ref hk), (1, .ref aa), (2, .ref ab), (3, .int (nI wr))]) hx hb dX1_divided_15 hl (by decide) rfl (fun ls hl => ?_)
  refine lv_iload hx hb dX1_divided_17 (lv_at hl 2 rfl) ?_
  refine r_newa (n := w) hx hb hts tb_65 hK hW hA (by omega) (by omega) (by omega) dX1_divided_19 (fun q7 H hW hsz_q7 hq_q7 => ?_)
  have hW : Wd Z A s.heap (cw Z hc y ++ [ea Z q5 w iv, ea Z q6 w (fun _ => 0), ea Z q7 w (fun _ => 0)]) _ _ := hW
  refine lv_astore (lv' := [(7, .ref q7), (6, .ref q6), (5, .ref q5), (4, .int (nI w)), (0, .ref hk), (1, .ref aa), (2, .ref ab), (3, .int (nI wr))]) hx hb dX1_divided_21 hl (by decide) rfl (fun ls hl => ?_)
  refine lv_iload hx hb dX1_divided_23 (lv_at hl 3 rfl) ?_
  refine lv_iconst (v := nI 1) hx hb dX1_divided_25 (by decide) ?_
  refine n_isub hx hb (by omega) dX1_divided_26 ?_
  refine lv_istore (lv' := [(8, .int (nI (w - 1))), (7, .ref q7), (6, .ref q6), (5, .ref q5), (4, .int (nI w)), (0, .ref hk), (1, .ref aa), (2, .ref ab), (3, .int (nI wr))]) hx hb dX1_divided_27 hl (by decide) rfl (fun ls hl => ?_)
  rw [show nI (w - 1) = dvi w from (dec1 (by omega)).symm] at hl
  have hl : lv_has ls 11 [(8, .int (dvi w)), (7, .ref q7), (6, .ref q6), (5, .ref q5), (4, .int (nI w)), (0, .ref hk), (1, .ref aa), (2, .ref ab), (3, .int (nI wr))] := hl
  refine loop w 0 y q5 q6 q7 iv (fun _ => 0) (fun _ => 0) _ _ _ _ ls (by omega) (by rw [hdw0, ← Nat.one_mul w]; exact hy) (fun j hj => ⟨hib j hj, by have := hy.1.1; omega, by have := hy.1.1; omega⟩) (fun τ hτ => ⟨his τ hτ, ?_, ?_⟩) (by omega) (by omega) hW (lv_sub hl [5, 6, 8, 4, 3, 2, 1, 0] rfl)
  · rw [rn_zero hy.1 hτ, dR_top (rn_lt _ _ _ _)]
  · rw [Nat.sub_self, dQ, Nat.sub_self]
    by_cases q : rn x τ rb w = 0
    · rw [if_pos q]; rfl
    · rw [if_neg q, Nat.div_eq_of_lt (rn_lt _ _ _ _), Nat.zero_div]; rfl
end
section
theorem RO.step {Z : Zt} {wc w1 : va_W} {q : Nat × va_E} {H H1 : Heap} (h : RO Z wc q H) (hz : H.size ≤ H1.size) (hk : ∀ a : Nat, a < H.size → ¬ va_A wc H.size a → H1[a]? = H[a]?) (hd : va_D (va_A wc H.size) w1) : RO Z w1 q H1 := by
  have hl := h.1.lt
  refine ⟨h.1.kept (hk q.1 hl h.2), fun g => ?_⟩
  rcases g with ⟨k, e, g⟩ | g
  · exact h.2 (hd.2 k (q.1, e) g)
  · omega
theorem RO.step0 {Z : Zt} {wc : va_W} {q : Nat × va_E} {H H1 : Heap} (h : RO Z wc q H) (hz : H.size ≤ H1.size) (hk : ∀ a : Nat, a < H.size → ¬ va_A [] H.size a → H1[a]? = H[a]?) : RO Z wc q H1 := by
  have hl := h.1.lt
  refine ⟨h.1.kept (hk q.1 hl (fun g => ?_)), fun g => ?_⟩
  · rcases g with ⟨k, e, g⟩ | g
    · simp at g
    · omega
  · rcases g with ⟨k, e, g⟩ | g
    · exact h.2 (Or.inl ⟨k, e, g⟩)
    · omega
def sdN (wr : Nat) (sa sb : Bool) (A B w : Nat) : Nat := ngN (if wr = 0 then (sa ^^ sb) else sa) (dvN wr (ngN sa A w) (ngN sb B w) w) w
set_option maxHeartbeats 4000000 in
set_option maxRecDepth 100000 in
/-- Reckoner.dividedWithSign -/
theorem k_dividedWithSign (l : Launch) (Z : Zt) (hk hc : Nat) (x : CS) (σ : Nat → Bool) (aa ab w wr : Nat) (ra rb : Nat → Nat) (hx0 : cok x σ) (hn : xn x + (18 * w + dg w w + (1 - wr)) < 400000) (hw : w ≤ 64) (hw1 : 1 ≤ w) (hwr : wr ≤ 1) (hra : ∀ j, j < w → ra j < xn x) (hrb : ∀ j, j < w → rb j < xn x) : MC l yX1_dividedWithSign cX1_dividedWithSign 7 (some (.array .int)) 7 320 ((15 + 3 * w) + 4 * (capU (xu x) (xn x + (18 * w + dg w w + (1 - wr))) - xu x)) ((208 * w + 3) + 512 * (capU (xu x) (xn x + (18 * w + dg w w + (1 - wr))) - xu x)) Z (cw Z hc x) (fun H => RO Z (cw Z hc x) (eo hk 1 [.ref hc]) H ∧ RO Z (cw Z hc x) (ea Z aa w ra) H ∧ RO Z (cw Z hc x) (ea Z ab w rb) H) [.ref hk, .ref aa, .ref ab, .int (nI wr)] (numQ Z hc x σ (18 * w + dg w w + (1 - wr)) w (fun τ => sdN wr (vl x τ (ra (w - 1))) (vl x τ (rb (w - 1))) (rn x τ ra w) (rn x τ rb w) w)) := by
  refine mc_of (by decide) (Nat.le_of_ble_eq_true rfl) (fun p e s m below meth c ls A hx hb hr hts hown hlk hml hin hK hG hW hA hAe hro hl R hRf hRc hRs hRl => ?_)
  have hl : lv_has ls 7 [(0, .ref hk), (1, .ref aa), (2, .ref ab), (3, .int (nI wr))] := hl
  have hW : Wd Z A s.heap (cw Z hc x ++ []) _ _ := hW
  obtain ⟨KK, hKK⟩ : ∃ k, k = 18 * w + dg w w + (1 - wr) := ⟨_, rfl⟩
  rw [← hKK] at hRc hRs hn
  have hra_t := hra (w - 1) (by omega)
  have hrb_t := hrb (w - 1) (by omega)
  have hx1 := stp.rf hx0
  have hco := hx1.cost (j := 6 * w) (K := KK) (by omega)
  refine lv_aload_n hx hb dX1_dividedWithSign_0 rfl (lv_at hl 1 rfl) ?_
  refine lv_aload_n hx hb dX1_dividedWithSign_1 rfl (lv_at hl 1 rfl) ?_
  refine r_len hx hb hK (hro.2.1.here hAe hW) dX1_dividedWithSign_2 ?_
  refine lv_iconst (v := nI 1) hx hb dX1_dividedWithSign_3 (by decide) ?_
  refine n_isub hx hb (by omega) dX1_dividedWithSign_4 ?_
  refine r_ald (i := (w - 1)) hx hb hK (hro.2.1.here hAe hW) (by omega) (by omega) dX1_dividedWithSign_5 ?_
  refine lv_istore (lv' := [(4, .int (nI (ra (w - 1)))), (0, .ref hk), (1, .ref aa), (2, .ref ab), (3, .int (nI wr))]) hx hb dX1_dividedWithSign_6 hl (by decide) rfl (fun ls hl => ?_)
  refine lv_aload_n hx hb dX1_dividedWithSign_8 rfl (lv_at hl 3 rfl) ?_
  refine lv_aload_n hx hb dX1_dividedWithSign_9 rfl (lv_at hl 3 rfl) ?_
  refine r_len hx hb hK (hro.2.2.here hAe hW) dX1_dividedWithSign_10 ?_
  refine lv_iconst (v := nI 1) hx hb dX1_dividedWithSign_11 (by decide) ?_
  refine n_isub hx hb (by omega) dX1_dividedWithSign_12 ?_
  refine r_ald (i := (w - 1)) hx hb hK (hro.2.2.here hAe hW) (by omega) (by omega) dX1_dividedWithSign_13 ?_
  refine lv_istore (lv' := [(5, .int (nI (rb (w - 1)))), (4, .int (nI (ra (w - 1)))), (0, .ref hk), (1, .ref aa), (2, .ref ab), (3, .int (nI wr))]) hx hb dX1_dividedWithSign_14 hl (by decide) rfl (fun ls hl => ?_)
  refine lv_aload_n hx hb dX1_dividedWithSign_16 rfl (lv_at hl 2 rfl) ?_
  refine lv_aload_n hx hb dX1_dividedWithSign_17 rfl (lv_at hl 2 rfl) ?_
  refine lv_iload hx hb dX1_dividedWithSign_18 (lv_at hl 1 rfl) ?_
  refine lv_aload_n hx hb dX1_dividedWithSign_20 rfl (lv_at hl 3 rfl) ?_
  refine c_virt (As := [.int (nI (ra (w - 1))), .ref aa]) (rest := [.ref hk]) (wc := cw Z hc x) (wr := []) (nl := 0) hx hb hml hown hts hK hG rfl hA hl (k_negatedIf l Z hk hc x σ (ra (w - 1)) aa w ra hx0 (by omega) hw (by omega) hra) hW ⟨RO.pass hro.1 hAe hW, RO.pass hro.2.1 hAe hW⟩ (hro.1.here hAe hW) rfl rfl tb_663 tb_365 tb_366 tb_2 tb_367 (nA := 2) (by decide +kernel) rfl ⟨by omega, by omega⟩ ⟨by omega, by omega⟩ rfl (Nat.le_of_ble_eq_true rfl) dX1_dividedWithSign_21 (fun v w1 H1 L1 hp hW hzz hkk hdd => ?_)
  obtain ⟨y1, q1, f1, rfl, rfl, hs1, hb1, hv1⟩ := hp
  clear hzz hkk hdd
  generalize H1 = H at hW  ⊢
  generalize L1 = locs at hW ⊢
  have hW : Wd Z A s.heap (cw Z hc y1 ++ [ea Z q1 w f1]) _ _ := hW
  refine W.eq (g2 := F0 m 24 ls [.ref q1, .ref hk]) rfl ?_
  have hn1 := hs1.2.2.1
  have hu1 := hs1.2.2.2
  have hco1 := hs1.cost (j := 6 * w) (K := KK) (by omega)
  refine lv_aload_n hx hb dX1_dividedWithSign_24 rfl (lv_at hl 2 rfl) ?_
  refine lv_iload hx hb dX1_dividedWithSign_25 (lv_at hl 0 rfl) ?_
  refine lv_aload_n hx hb dX1_dividedWithSign_27 rfl (lv_at hl 4 rfl) ?_
  refine c_virt (As := [.int (nI (rb (w - 1))), .ref ab]) (rest := [.ref q1, .ref hk]) (wc := cw Z hc y1) (wr := [ea Z q1 w f1]) (nl := 0) hx hb hml hown hts hK hG rfl hA hl (k_negatedIf l Z hk hc y1 σ (rb (w - 1)) ab w rb hs1.1 (by omega) hw (by omega) (fun j hj => by have := hrb j hj; omega)) hW ⟨RO.pass hro.1 hAe hW, RO.pass hro.2.2 hAe hW⟩ (hro.1.here hAe hW) rfl rfl tb_663 tb_365 tb_366 tb_2 tb_367 (nA := 2) (by decide +kernel) rfl ⟨by omega, by omega⟩ ⟨by omega, by omega⟩ rfl (Nat.le_of_ble_eq_true rfl) dX1_dividedWithSign_28 (fun v w1 H1 L1 hp hW hzz hkk hdd => ?_)
  obtain ⟨y2, q2, f2, rfl, rfl, hs2, hb2, hv2⟩ := hp
  clear hzz hkk hdd
  generalize H1 = H at hW  ⊢
  generalize L1 = locs at hW ⊢
  have hW : Wd Z A s.heap (cw Z hc y2 ++ [ea Z q2 w f2, ea Z q1 w f1]) _ _ := hW
  refine W.eq (g2 := F0 m 31 ls [.ref q2, .ref q1, .ref hk]) rfl ?_
  have t2 := hs1.tr hs2
  have hn2 := t2.2.2.1
  have hu2 := hs2.2.2.2
  have hco2 := t2.cost (j := dg w w) (K := KK) (by omega)
  refine lv_iload_n hx hb dX1_dividedWithSign_31 rfl (lv_at hl 5 rfl) ?_
  refine c_virt (As := [.ref q1, .ref q2, .int (nI wr)]) (rest := []) (wc := cw Z hc y2) (wr := [ea Z q2 w f2, ea Z q1 w f1]) (nl := 0) hx hb hml hown hts hK hG rfl hA hl (k_divided l Z hk hc y2 σ q1 q2 w wr f1 f2 t2.1 (by omega) hw hw1 hwr (fun j hj => by have := hb1 j hj; have := hs2.2.1.1; omega) hb2) hW ⟨RO.pass hro.1 hAe hW, RO.loc hW 1 rfl, RO.loc hW 0 rfl⟩ (hro.1.here hAe hW) rfl rfl tb_664 tb_648 tb_649 tb_2 tb_650 (nA := 3) (by decide +kernel) rfl ⟨by omega, by omega⟩ ⟨by omega, by omega⟩ rfl (Nat.le_of_ble_eq_true rfl) dX1_dividedWithSign_32 (fun v w1 H1 L1 hp hW hzz hkk hdd => ?_)
  obtain ⟨y3, q3, f3, rfl, rfl, hs3, hb3, hv3⟩ := hp
  clear hzz hkk hdd
  generalize H1 = H at hW  ⊢
  generalize L1 = locs at hW ⊢
  have hW : Wd Z A s.heap (cw Z hc y3 ++ [ea Z q3 w f3, ea Z q2 w f2, ea Z q1 w f1]) _ _ := hW
  refine W.eq (g2 := F0 m 35 ls [.ref q3]) rfl ?_
  have t3 := t2.tr hs3
  have hn3 := t3.2.2.1
  have hu3 := hs3.2.2.2
  have hcx := hs1.2.1.1
  have hco3 := t3.cost (j := 0) (K := KK) (by omega)
  have val : ∀ τ, gd τ → rn y3 τ f3 w = dvN wr (ngN (vl x τ (ra (w - 1))) (rn x τ ra w) w) (ngN (vl x τ (rb (w - 1))) (rn x τ rb w) w) w := fun τ hτ => by
    rw [hv3 τ hτ]
    dsimp only
    rw [hv2 τ hτ, rn_ex hs2.2.1 hb1, hv1 τ hτ]
    dsimp only
    rw [rn_ex hs1.2.1 hrb, hs1.2.1.vl hrb_t]
  refine lv_astore (lv' := [(6, .ref q3), (5, .int (nI (rb (w - 1)))), (4, .int (nI (ra (w - 1)))), (0, .ref hk), (1, .ref aa), (2, .ref ab), (3, .int (nI wr))]) hx hb dX1_dividedWithSign_35 hl (by decide) rfl (fun ls hl => ?_)
  refine lv_aload_n hx hb dX1_dividedWithSign_37 rfl (lv_at hl 3 rfl) ?_
  refine lv_iload_n hx hb dX1_dividedWithSign_38 rfl (lv_at hl 6 rfl) ?_
  by_cases hw0 : wr = 0
  · refine n_zeq_t (tgt := 47) hx hb (by omega) dX1_dividedWithSign_39 (by decide) ?_
    refine lv_aload_n hx hb dX1_dividedWithSign_47 rfl (lv_at hl 3 rfl) ?_
    refine r_get hx hb hts hown hK (hro.1.here hAe hW) rfl in_X1 0 (by decide) tb_66 (fun _ h => h) rfl dX1_dividedWithSign_48 ?_
    refine lv_iload hx hb dX1_dividedWithSign_51 (lv_at hl 2 rfl) ?_
    refine lv_iload hx hb dX1_dividedWithSign_53 (lv_at hl 1 rfl) ?_
    have hco4 := t3.cost (j := 1) (K := KK) (by omega)
    refine c_virt (As := [.int (nI (ra (w - 1))), .int (nI (rb (w - 1)))]) (rest := [.ref hk]) (wc := cw Z hc y3) (wr := [ea Z q3 w f3, ea Z q2 w f2, ea Z q1 w f1]) (nl := 0) hx hb hml hown hts hK hG rfl hA hl (k_xor l Z hc y3 σ (ra (w - 1)) (rb (w - 1)) t3.1 (by omega) (by omega) (by omega)) hW trivial (hW.at 0 rfl) rfl rfl tb_368 tb_369 tb_370 tb_3 tb_371 (nA := 2) (by decide +kernel) rfl ⟨by omega, by omega⟩ ⟨by omega, by omega⟩ rfl (Nat.le_of_ble_eq_true rfl) dX1_dividedWithSign_55 (fun v w1 H1 L1 hp hW hzz hkk hdd => ?_)
    obtain ⟨y4, rfl, rfl, g4⟩ := hp
    clear hzz hkk hdd
    generalize H1 = H at hW  ⊢
    generalize L1 = locs at hW ⊢
    have hW : Wd Z A s.heap (cw Z hc y4 ++ [ea Z q3 w f3, ea Z q2 w f2, ea Z q1 w f1]) _ _ := hW
    refine W.eq (g2 := F0 m 58 ls [.int (nI (xn y3)), .ref hk]) rfl ?_
    have t4 := t3.g g4
    have hn4 := t4.2.2.1
    have hu4 := (stp.of g4).2.2.2
    have hco5 := t4.cost (j := 6 * w) (K := KK) (by omega)
    refine lv_aload hx hb dX1_dividedWithSign_58 (lv_at hl 0 rfl) ?_
    refine c_virt (As := [.int (nI (xn y3)), .ref q3]) (rest := []) (wc := cw Z hc y4) (wr := [ea Z q3 w f3, ea Z q2 w f2, ea Z q1 w f1]) (nl := 0) hx hb hml hown hts hK hG rfl hA hl (k_negatedIf l Z hk hc y4 σ (xn y3) q3 w f3 t4.1 (by omega) hw (by omega) (fun j hj => by have := hb3 j hj; omega)) hW ⟨RO.pass hro.1 hAe hW, RO.loc hW 0 rfl⟩ (hro.1.here hAe hW) rfl rfl tb_663 tb_365 tb_366 tb_2 tb_367 (nA := 2) (by decide +kernel) rfl ⟨by omega, by omega⟩ ⟨by omega, by omega⟩ rfl (Nat.le_of_ble_eq_true rfl) dX1_dividedWithSign_60 (fun v w1 H1 L1 hp hW hzz hkk hdd => ?_)
    obtain ⟨y5, q5, f5, rfl, rfl, hs5, hb5, hv5⟩ := hp
    clear hzz hkk hdd
    generalize H1 = H at hW  ⊢
    generalize L1 = locs at hW ⊢
    have hW : Wd Z A s.heap (cw Z hc y5 ++ [ea Z q5 w f5, ea Z q3 w f3, ea Z q2 w f2, ea Z q1 w f1]) _ _ := hW
    refine W.eq (g2 := F0 m 63 ls [.ref q5]) rfl ?_
    have t5 := t4.tr hs5
    have hu5 := hs5.2.2.2
    have hu6 := t5.2.2.2
    have hcf := t5.cost (j := 0) (K := KK) (by omega)
    rw [hKK] at hRc hRs hcf
    have hW : Wd Z A s.heap (cw Z hc y5 ++ [ea Z q5 w f5]) _ _ := hW.sub [0, 1, 2, 3, 4, 5] (by decide) rfl
    refine e_ref hx hb hr (Or.inr ⟨_, rfl⟩) hlk hAe hW (by omega) (by omega) dX1_dividedWithSign_63 ⟨y5, q5, f5, rfl, rfl, ?_, hb5, fun τ hτ => ?_⟩
    · have e : 18 * w + dg w w + (1 - wr) = 6 * w + 6 * w + dg w w + 1 + 6 * w := by omega
      rw [e]; exact t5
    · have k4 := cex.rf y4
      rw [hv5 τ hτ]
      dsimp only
      rw [gval g4 (by decide) k4 (by omega) (by omega) τ, c_op3, t4.2.1.vl hra_t, t4.2.1.vl hrb_t, rn_ex g4.2.2.2.2.1 hb3, val τ hτ]
      rw [sdN, if_pos hw0]
  · refine n_zeq_f (tgt := 47) hx hb (by omega) (by omega) dX1_dividedWithSign_39 (by decide) ?_
    have hco5 := t3.cost (j := 6 * w) (K := KK) (by omega)
    refine lv_iload hx hb dX1_dividedWithSign_42 (lv_at hl 2 rfl) ?_
    refine lv_goto (tgt := 58) hx hb dX1_dividedWithSign_44 (by decide) ?_
    refine lv_aload hx hb dX1_dividedWithSign_58 (lv_at hl 0 rfl) ?_
    refine c_virt (As := [.int (nI (ra (w - 1))), .ref q3]) (rest := []) (wc := cw Z hc y3) (wr := [ea Z q3 w f3, ea Z q2 w f2, ea Z q1 w f1]) (nl := 0) hx hb hml hown hts hK hG rfl hA hl (k_negatedIf l Z hk hc y3 σ (ra (w - 1)) q3 w f3 t3.1 (by omega) hw (by omega) (fun j hj => by have := hb3 j hj; omega)) hW ⟨RO.pass hro.1 hAe hW, RO.loc hW 0 rfl⟩ (hro.1.here hAe hW) rfl rfl tb_663 tb_365 tb_366 tb_2 tb_367 (nA := 2) (by decide +kernel) rfl ⟨by omega, by omega⟩ ⟨by omega, by omega⟩ rfl (Nat.le_of_ble_eq_true rfl) dX1_dividedWithSign_60 (fun v w1 H1 L1 hp hW hzz hkk hdd => ?_)
    obtain ⟨y5, q5, f5, rfl, rfl, hs5, hb5, hv5⟩ := hp
    clear hzz hkk hdd
    generalize H1 = H at hW  ⊢
    generalize L1 = locs at hW ⊢
    have hW : Wd Z A s.heap (cw Z hc y5 ++ [ea Z q5 w f5, ea Z q3 w f3, ea Z q2 w f2, ea Z q1 w f1]) _ _ := hW
    refine W.eq (g2 := F0 m 63 ls [.ref q5]) rfl ?_
    have t5 := t3.tr hs5
    have hu5 := hs5.2.2.2
    have hu6 := t5.2.2.2
    have hcf := t5.cost (j := 0) (K := KK) (by omega)
    rw [hKK] at hRc hRs hcf
    have hW : Wd Z A s.heap (cw Z hc y5 ++ [ea Z q5 w f5]) _ _ := hW.sub [0, 1, 2, 3, 4, 5] (by decide) rfl
    refine e_ref hx hb hr (Or.inr ⟨_, rfl⟩) hlk hAe hW (by omega) (by omega) dX1_dividedWithSign_63 ⟨y5, q5, f5, rfl, rfl, ?_, hb5, fun τ hτ => ?_⟩
    · have e : 18 * w + dg w w + (1 - wr) = 6 * w + 6 * w + dg w w + 6 * w := by omega
      rw [e]; exact t5
    · rw [hv5 τ hτ]
      dsimp only
      rw [t3.2.1.vl hra_t, val τ hτ]
      rw [sdN, if_neg hw0]
set_option maxHeartbeats 4000000 in
set_option maxRecDepth 100000 in
/-- Reckoner.shifted -/
theorem k_shifted (l : Launch) (Z : Zt) (hk hc : Nat) (x : CS) (σ : Nat → Bool) (aa ab w upw fl : Nat) (ra rb : Nat → Nat) (hx0 : cok x σ) (hn : xn x + (sg w w + 3 * w) < 400000) (hw : w ≤ 64) (hw1 : 1 ≤ w) (hu : upw ≤ 1) (hfl : fl < xn x) (hra : ∀ j, j < w → ra j < xn x) (hrb : ∀ j, j < w → rb j < xn x) : MC l yX1_shifted cX1_shifted 10 (some (.array .int)) 6 300 ((2 * w + 2) + 4 * (capU (xu x) (xn x + (sg w w + 3 * w)) - xu x)) ((128 * w + 2 * w) + 512 * (capU (xu x) (xn x + (sg w w + 3 * w)) - xu x)) Z (cw Z hc x) (fun H => RO Z (cw Z hc x) (eo hk 1 [.ref hc]) H ∧ RO Z (cw Z hc x) (ea Z aa w ra) H ∧ RO Z (cw Z hc x) (ea Z ab w rb) H) [.ref hk, .ref aa, .ref ab, .int (nI upw), .int (nI fl)] (rowQ Z hc x σ (sg w w + 3 * w) w (fun τ j => vl x τ (mvd ra w (rn x τ rb w) upw fl j))) := by
  refine mc_of (by decide) (Nat.le_of_ble_eq_true rfl) (fun p e s m below meth c ls A hx hb hr hts hown hlk hml hin hK hG hW hA hAe hro hl R hRf hRc hRs hRl => ?_)
  have hl : lv_has ls 10 [(0, .ref hk), (1, .ref aa), (2, .ref ab), (3, .int (nI upw)), (4, .int (nI fl))] := hl
  have hW : Wd Z A s.heap (cw Z hc x ++ []) _ _ := hW
  obtain ⟨KK, hKK⟩ : ∃ k, k = sg w w + 3 * w := ⟨_, rfl⟩
  rw [← hKK] at hRc hRs hn
  have loop : ∀ (d i m2 : Nat) (y : CS) (qr bd : Nat) (row : Nat → Nat) (wx : va_W) (H : Heap) (locs : List Loc) (cl sl : Nat) (ls : Array Slot), i + d = w → m2 ≤ i → (m2 < i → w ≤ 2 ^ m2) → 2 ^ m2 < 128 → stp x σ (sg w i) y → bd < xn y → (∀ j, j < w → row j < xn y) → (∀ τ, gd τ → (∀ j, j < w → vl y τ (row j) = vl x τ (mvd ra w (rn x τ rb m2) upw fl j)) ∧ vl y τ bd = !decide (rn x τ rb i = rn x τ rb m2)) → cl ≤ 2 * i + 4 * (xu y - xu x) → sl ≤ 128 * i + 512 * (xu y - xu x) → RO Z (cw Z hc y) (ea Z qr w row) H → Wd Z A s.heap (cw Z hc y ++ wx) H locs → lv_has ls 10 [(0, .ref hk), (2, .ref ab), (3, .int (nI upw)), (4, .int (nI fl)), (5, .int (nI w)), (6, .ref qr), (7, .int (nI bd)), (8, .int (nI (2 ^ m2))), (9, .int (nI i))] → W p l e R s m ([.ref hk, .ref aa, .ref ab, .int (nI upw), .int (nI fl)] : List Value).toArray below meth c H locs cl sl (MQ below (QC Z (cw Z hc x) s.heap.size (rowQ Z hc x σ (sg w w + 3 * w) w (fun τ j => vl x τ (mvd ra w (rn x τ rb w) upw fl j)))) ([.ref hk, .ref aa, .ref ab, .int (nI upw), .int (nI fl)] : List Value).toArray s ((2 * w + 2) + 4 * (capU (xu x) (xn x + (sg w w + 3 * w)) - xu x)) ((128 * w + 2 * w) + 512 * (capU (xu x) (xn x + (sg w w + 3 * w)) - xu x)) A) (F0 m 16 ls []) := by
    intro d
    induction d with
    | zero =>
      intro i m2 y qr bd row wx H locs cl sl ls hid hmi hmw hm7 hy hbd hrow hsem hcl hsl hR hW hl
      have hny := hy.2.2.1
      have huy := hy.2.2.2
      have hux : xu x ≤ xu y := by rw [huy]; exact capU_le _ _
      have hxy := hy.2.1.1
      have hi : i = w := by omega
      rw [hi] at hy hsem hcl hsl hmw hmi hny huy
      have hco := hy.cost (j := 3 * w) (K := KK) (by omega)
      refine lv_iload hx hb dX1_shifted_16 (lv_at hl 8 rfl) ?_
      refine lv_iload hx hb dX1_shifted_18 (lv_at hl 4 rfl) ?_
      refine n_ge_t (tgt := 82) hx hb (by omega) (by omega) dX1_shifted_20 (by decide) ?_
      refine lv_aload_n hx hb dX1_shifted_82 rfl (lv_at hl 0 rfl) ?_
      refine lv_iload hx hb dX1_shifted_83 (lv_at hl 6 rfl) ?_
      refine lv_aload hx hb dX1_shifted_85 (lv_at hl 5 rfl) ?_
      refine lv_iload hx hb dX1_shifted_87 (lv_at hl 4 rfl) ?_
      refine lv_iload_n hx hb dX1_shifted_89 rfl (lv_at hl 2 rfl) ?_
      refine lv_iload hx hb dX1_shifted_90 (lv_at hl 3 rfl) ?_
      refine c_stat (As := [.ref qr, .int (nI w), .int (nI upw), .int (nI fl)]) (rest := [.int (nI bd), .ref hk]) (wc := []) (wr := cw Z hc y ++ wx) hx hb hml hown hts hK hG rfl hA hl (k_moved l Z qr w w upw fl row (by omega) (by omega) (by omega)) hW hR.1 tb_652 tb_653 tb_2 tb_654 (nA := 4) (by decide +kernel) rfl ⟨by omega, by omega⟩ ⟨by omega, by omega⟩ rfl (Nat.le_of_ble_eq_true rfl) dX1_shifted_92 (fun v w1 H1 L1 hp hW hzz hkk hdd => ?_)
      obtain ⟨q9, mv, rfl, rfl, hmv⟩ := hp
      have hR := hR.step0 hzz hkk
      clear hzz hkk hdd
      generalize H1 = H at hW hR ⊢
      generalize L1 = locs at hW ⊢
      have hW : Wd Z A s.heap ([ea Z q9 w mv] ++ cw Z hc y ++ wx) _ _ := hW
      refine W.eq (g2 := F0 m 95 ls [.ref q9, .int (nI bd), .ref hk]) rfl ?_
      have hW : Wd Z A s.heap (cw Z hc y ++ ([ea Z q9 w mv] ++ wx)) _ _ := Wd.rot (w1 := [ea Z q9 w mv]) (wc := cw Z hc y) (wr := wx) hW
      have hmb : ∀ j, j < w → mv j < xn y := fun j hj => by rw [hmv j hj]; exact mvd_lt hj (by omega) hrow
      refine lv_aload hx hb dX1_shifted_95 (lv_at hl 5 rfl) ?_
      refine c_virt (As := [.int (nI bd), .ref q9, .ref qr]) (rest := []) (wc := cw Z hc y) (wr := [ea Z q9 w mv] ++ wx) (nl := 0) hx hb hml hown hts hK hG rfl hA hl (k_picked l Z hk hc y σ bd q9 qr w w mv row hy.1 (by omega) hw (Nat.le_refl _) (by omega) hbd hmb hrow) hW ⟨RO.pass hro.1 hAe hW, RO.loc hW 0 rfl, hR⟩ (hro.1.here hAe hW) rfl rfl tb_655 tb_656 tb_657 tb_2 tb_658 (nA := 3) (by decide +kernel) rfl ⟨by omega, by omega⟩ ⟨by omega, by omega⟩ rfl (Nat.le_of_ble_eq_true rfl) dX1_shifted_97 (fun v w1 H1 L1 hp hW hzz hkk hdd => ?_)
      obtain ⟨y2, q10, r2, rfl, rfl, hs2, hb2, hv2⟩ := hp
      clear hzz hkk hdd
      generalize H1 = H at hW  ⊢
      generalize L1 = locs at hW ⊢
      have hW : Wd Z A s.heap (cw Z hc y2 ++ [ea Z q10 w r2, ea Z q9 w mv] ++ wx) _ _ := hW
      refine W.eq (g2 := F0 m 100 ls [.ref q10]) rfl ?_
      have hW : Wd Z A s.heap (cw Z hc y2 ++ [ea Z q10 w r2]) _ _ := Wd.pre (wc := cw Z hc y2 ++ [ea Z q10 w r2]) (wr := [ea Z q9 w mv] ++ wx) hW
      have hu2 := hs2.2.2.2
      have t2 := hy.tr hs2
      rw [hKK] at hRc hRs hco
      refine e_ref hx hb hr (Or.inr ⟨_, rfl⟩) hlk hAe hW (by omega) (by omega) dX1_shifted_100 ⟨y2, q10, r2, rfl, rfl, t2, hb2, fun τ hτ j hj => ?_⟩
      obtain ⟨s1, s2⟩ := hsem τ hτ
      rw [hv2 τ hτ j hj]
      dsimp only
      rw [s2]
      by_cases q : rn x τ rb w = rn x τ rb m2
      · rw [decide_eq_true q, s1 j hj, q]; rfl
      · rw [decide_eq_false q]
        have hm : m2 < w := by
          rcases Nat.lt_or_ge m2 w with h | h
          · exact h
          · exact absurd (by rw [show m2 = w by omega]) q
        have hbig := rn_big (by omega) q
        have hmw' := hmw hm
        show vl y τ (mv j) = _
        rw [hmv j hj, mvd_far hj (Nat.le_refl w), mvd_far hj (by omega), hy.2.1.vl hfl]
    | succ d ih =>
      intro i m2 y qr bd row wx H locs cl sl ls hid hmi hmw hm7 hy hbd hrow hsem hcl hsl hR hW hl
      have hny := hy.2.2.1
      have huy := hy.2.2.2
      have hux : xu x ≤ xu y := by rw [huy]; exact capU_le _ _
      have hxy := hy.2.1.1
      have hrb_i := hrb i (by omega)
      have hsg := sg_mono w (i := i + 1) (j := w) (by omega)
      rw [sg_s] at hsg
      refine lv_iload hx hb dX1_shifted_16 (lv_at hl 8 rfl) ?_
      refine lv_iload hx hb dX1_shifted_18 (lv_at hl 4 rfl) ?_
      refine n_ge_f (tgt := 82) hx hb (by omega) (by omega) dX1_shifted_20 (by decide) ?_
      refine lv_iload hx hb dX1_shifted_23 (lv_at hl 7 rfl) ?_
      refine lv_iload hx hb dX1_shifted_25 (lv_at hl 4 rfl) ?_
      by_cases hst : 2 ^ m2 < w
      · refine n_ge_f (tgt := 61) hx hb (by omega) (by omega) dX1_shifted_27 (by decide) ?_
        have hmi2 : m2 = i := by
          rcases Nat.lt_or_ge m2 i with h | h
          · have := hmw h; omega
          · omega
        subst hmi2
        rw [if_pos hst] at hsg
        have hco := hy.cost (j := 3 * w) (K := KK) (by omega)
        refine lv_aload_n hx hb dX1_shifted_30 rfl (lv_at hl 0 rfl) ?_
        refine lv_aload_n hx hb dX1_shifted_31 rfl (lv_at hl 1 rfl) ?_
        refine lv_iload hx hb dX1_shifted_32 (lv_at hl 8 rfl) ?_
        refine r_ald (i := m2) hx hb hK (hro.2.2.here hAe hW) (by omega) (by omega) dX1_shifted_34 ?_
        refine lv_aload hx hb dX1_shifted_35 (lv_at hl 5 rfl) ?_
        refine lv_iload hx hb dX1_shifted_37 (lv_at hl 7 rfl) ?_
        refine lv_iload_n hx hb dX1_shifted_39 rfl (lv_at hl 2 rfl) ?_
        refine lv_iload hx hb dX1_shifted_40 (lv_at hl 3 rfl) ?_
        refine c_stat (As := [.ref qr, .int (nI (2 ^ m2)), .int (nI upw), .int (nI fl)]) (rest := [.int (nI (rb m2)), .ref hk]) (wc := []) (wr := cw Z hc y ++ wx) hx hb hml hown hts hK hG rfl hA hl (k_moved l Z qr w (2 ^ m2) upw fl row (by omega) (by omega) (by omega)) hW hR.1 tb_652 tb_653 tb_2 tb_654 (nA := 4) (by decide +kernel) rfl ⟨by omega, by omega⟩ ⟨by omega, by omega⟩ rfl (Nat.le_of_ble_eq_true rfl) dX1_shifted_42 (fun v w1 H1 L1 hp hW hzz hkk hdd => ?_)
        obtain ⟨q9, mv, rfl, rfl, hmv⟩ := hp
        have hR := hR.step0 hzz hkk
        clear hzz hkk hdd
        generalize H1 = H at hW hR ⊢
        generalize L1 = locs at hW ⊢
        have hW : Wd Z A s.heap ([ea Z q9 w mv] ++ cw Z hc y ++ wx) _ _ := hW
        refine W.eq (g2 := F0 m 45 ls [.ref q9, .int (nI (rb m2)), .ref hk]) rfl ?_
        have hW : Wd Z A s.heap (cw Z hc y ++ ([ea Z q9 w mv] ++ wx)) _ _ := Wd.rot (w1 := [ea Z q9 w mv]) (wc := cw Z hc y) (wr := wx) hW
        have hmb : ∀ j, j < w → mv j < xn y := fun j hj => by rw [hmv j hj]; exact mvd_lt hj (by omega) hrow
        refine lv_aload hx hb dX1_shifted_45 (lv_at hl 5 rfl) ?_
        refine c_virt (As := [.int (nI (rb m2)), .ref q9, .ref qr]) (rest := []) (wc := cw Z hc y) (wr := [ea Z q9 w mv] ++ wx) (nl := 0) hx hb hml hown hts hK hG rfl hA hl (k_picked l Z hk hc y σ (rb m2) q9 qr w w mv row hy.1 (by omega) hw (Nat.le_refl _) (by omega) (by omega) hmb hrow) hW ⟨RO.pass hro.1 hAe hW, RO.loc hW 0 rfl, hR⟩ (hro.1.here hAe hW) rfl rfl tb_655 tb_656 tb_657 tb_2 tb_658 (nA := 3) (by decide +kernel) rfl ⟨by omega, by omega⟩ ⟨by omega, by omega⟩ rfl (Nat.le_of_ble_eq_true rfl) dX1_shifted_47 (fun v w1 H1 L1 hp hW hzz hkk hdd => ?_)
        obtain ⟨y2, q10, r2, rfl, rfl, hs2, hb2, hv2⟩ := hp
        clear hzz hkk hdd
        generalize H1 = H at hW  ⊢
        generalize L1 = locs at hW ⊢
        have hW : Wd Z A s.heap (cw Z hc y2 ++ [ea Z q10 w r2, ea Z q9 w mv] ++ wx) _ _ := hW
        refine W.eq (g2 := F0 m 50 ls [.ref q10]) rfl ?_
        have hu2 := hs2.2.2.2
        have t2 := hy.tr hs2
        have hxy2 := hs2.2.1.1
        have hR2 : RO Z (cw Z hc y2) (ea Z q10 w r2) _ := RO.loc (wc := cw Z hc y2) (wr := [ea Z q10 w r2] ++ ([ea Z q9 w mv] ++ wx)) hW 0 rfl
        refine lv_astore (lv' := [(6, .ref q10), (0, .ref hk), (2, .ref ab), (3, .int (nI upw)), (4, .int (nI fl)), (5, .int (nI w)), (7, .int (nI bd)), (8, .int (nI (2 ^ m2))), (9, .int (nI m2))]) hx hb dX1_shifted_50 hl (by decide) rfl (fun ls hl => ?_)
        refine lv_iload hx hb dX1_shifted_52 (lv_at hl 7 rfl) ?_
        refine lv_iconst (v := nI 2) hx hb dX1_shifted_54 (by decide) ?_
        refine n_imul hx hb dX1_shifted_55 ?_
        refine lv_istore (lv' := [(8, .int (nI ((2 ^ m2) * 2))), (6, .ref q10), (0, .ref hk), (2, .ref ab), (3, .int (nI upw)), (4, .int (nI fl)), (5, .int (nI w)), (7, .int (nI bd)), (9, .int (nI m2))]) hx hb dX1_shifted_56 hl (by decide) rfl (fun ls hl => ?_)
        refine lv_goto (tgt := 76) hx hb dX1_shifted_58 (by decide) ?_
        refine lv_iinc (v := nI (m2 + 1)) (lv' := [(9, .int (nI (m2 + 1))), (8, .int (nI ((2 ^ m2) * 2))), (6, .ref q10), (0, .ref hk), (2, .ref ab), (3, .int (nI upw)), (4, .int (nI fl)), (5, .int (nI w)), (7, .int (nI bd))]) hx hb dX1_shifted_76 hl (k := 8) rfl (inc1 _) (by decide) rfl (fun ls hl => ?_)
        refine lv_goto (tgt := 16) hx hb dX1_shifted_79 (by decide) ?_
        rw [show 2 ^ m2 * 2 = 2 ^ (m2 + 1) from (Nat.pow_succ 2 m2).symm] at hl
        have hl : lv_has ls 10 [(9, .int (nI (m2 + 1))), (8, .int (nI (2 ^ (m2 + 1)))), (6, .ref q10), (0, .ref hk), (2, .ref ab), (3, .int (nI upw)), (4, .int (nI fl)), (5, .int (nI w)), (7, .int (nI bd))] := hl
        refine ih (m2 + 1) (m2 + 1) y2 q10 bd r2 ([ea Z q10 w r2] ++ ([ea Z q9 w mv] ++ wx)) _ _ _ _ ls (by omega) (Nat.le_refl _) (fun h => absurd h (by omega)) (by rw [Nat.pow_succ]; omega) (by rw [sg_s, if_pos hst]; exact t2) (by omega) hb2 (fun τ hτ => ⟨fun j hj => ?_, ?_⟩) ?_ ?_ hR2 hW (lv_sub hl [3, 4, 5, 6, 7, 2, 8, 1, 0] rfl)
        · obtain ⟨s1, s2⟩ := hsem τ hτ
          rw [hv2 τ hτ j hj]
          dsimp only
          rw [hy.2.1.vl hrb_i, rn_s]
          cases vl x τ (rb m2)
          · rw [if_neg (by decide), s1 j hj, Bool.toNat_false, Nat.zero_mul, Nat.add_zero]
          · rw [if_pos rfl, hmv j hj, Bool.toNat_true, Nat.one_mul]
            exact mvd_two ra row (vl y τ) (vl x τ) hj (hy.2.1.vl hfl) s1
        · rw [hs2.2.1.vl hbd, (hsem τ hτ).2, decide_eq_true rfl, decide_eq_true rfl]
        · omega
        · omega
      · refine n_ge_t (tgt := 61) hx hb (by omega) (by omega) dX1_shifted_27 (by decide) ?_
        have hli : m2 ≤ i := hmi
        have hpw : w ≤ 2 ^ i := Nat.le_trans (by omega) (Nat.pow_le_pow_right (by decide) hli)
        rw [if_neg (by omega)] at hsg
        have hco := hy.cost (j := 1) (K := KK) (by omega)
        refine lv_aload_n hx hb dX1_shifted_61 rfl (lv_at hl 0 rfl) ?_
        refine r_get hx hb hts hown hK (hro.1.here hAe hW) rfl in_X1 0 (by decide) tb_66 (fun _ h => h) rfl dX1_shifted_62 ?_
        refine lv_iload hx hb dX1_shifted_65 (lv_at hl 6 rfl) ?_
        refine lv_aload_n hx hb dX1_shifted_67 rfl (lv_at hl 1 rfl) ?_
        refine lv_iload hx hb dX1_shifted_68 (lv_at hl 8 rfl) ?_
        refine r_ald (i := i) hx hb hK (hro.2.2.here hAe hW) (by omega) (by omega) dX1_shifted_70 ?_
        refine c_virt (As := [.int (nI bd), .int (nI (rb i))]) (rest := []) (wc := cw Z hc y) (wr := wx) (nl := 0) hx hb hml hown hts hK hG rfl hA hl (k_or l Z hc y σ bd (rb i) hy.1 (by omega) (by omega) (by omega)) hW trivial (hW.at 0 rfl) rfl rfl tb_380 tb_381 tb_382 tb_3 tb_383 (nA := 2) (by decide +kernel) rfl ⟨by omega, by omega⟩ ⟨by omega, by omega⟩ rfl (Nat.le_of_ble_eq_true rfl) dX1_shifted_71 (fun v w1 H1 L1 hp hW hzz hkk hdd => ?_)
        obtain ⟨y2, rfl, rfl, g2⟩ := hp
        have hR := hR.step hzz hkk hdd
        clear hzz hkk hdd
        generalize H1 = H at hW hR ⊢
        generalize L1 = locs at hW ⊢
        have hW : Wd Z A s.heap (cw Z hc y2 ++ wx) _ _ := hW
        refine W.eq (g2 := F0 m 74 ls [.int (nI (xn y))]) rfl ?_
        have t2 := hy.g g2
        have hn2 := t2.2.2.1
        have hu2 := (stp.of g2).2.2.2
        have k2 := cex.rf y2
        have k0 := g2.2.2.2.2.1
        refine lv_istore (lv' := [(7, .int (nI (xn y))), (0, .ref hk), (2, .ref ab), (3, .int (nI upw)), (4, .int (nI fl)), (5, .int (nI w)), (6, .ref qr), (8, .int (nI (2 ^ m2))), (9, .int (nI i))]) hx hb dX1_shifted_74 hl (by decide) rfl (fun ls hl => ?_)
        refine lv_iinc (v := nI (i + 1)) (lv' := [(9, .int (nI (i + 1))), (7, .int (nI (xn y))), (0, .ref hk), (2, .ref ab), (3, .int (nI upw)), (4, .int (nI fl)), (5, .int (nI w)), (6, .ref qr), (8, .int (nI (2 ^ m2)))]) hx hb dX1_shifted_76 hl (k := 8) rfl (inc1 _) (by decide) rfl (fun ls hl => ?_)
        refine lv_goto (tgt := 16) hx hb dX1_shifted_79 (by decide) ?_
        refine ih (i + 1) m2 y2 qr (xn y) row wx _ _ _ _ ls (by omega) (by omega) (fun _ => by omega) hm7 (by rw [sg_s, if_neg (by omega)]; exact t2) (by omega) (fun j hj => by have := hrow j hj; omega) (fun τ hτ => ⟨fun j hj => ?_, ?_⟩) ?_ ?_ hR hW (lv_sub hl [2, 3, 4, 5, 6, 7, 1, 8, 0] rfl)
        · rw [k0.vl (hrow j hj)]; exact (hsem τ hτ).1 j hj
        · rw [gval g2 (by decide) k2 (by omega) (by omega) τ, c_op2, k0.vl hbd, (hsem τ hτ).2, t2.2.1.vl hrb_i, rn_s]
          have hmn := rn_mono x τ rb hmi
          have hpp := Nat.two_pow_pos i
          cases vl x τ (rb i)
          · rw [Bool.toNat_false, Nat.zero_mul, Nat.add_zero, Bool.or_false]
          · rw [Bool.toNat_true, Nat.one_mul, decide_eq_false (by omega : ¬ rn x τ rb i + 2 ^ i = rn x τ rb m2), Bool.or_true]; rfl
        · omega
        · omega
  refine lv_aload_n hx hb dX1_shifted_0 rfl (lv_at hl 1 rfl) ?_
  refine r_len hx hb hK (hro.2.1.here hAe hW) dX1_shifted_1 ?_
  refine lv_istore (lv' := [(5, .int (nI w)), (0, .ref hk), (1, .ref aa), (2, .ref ab), (3, .int (nI upw)), (4, .int (nI fl))]) hx hb dX1_shifted_2 hl (by decide) rfl (fun ls hl => ?_)
  refine lv_aload_n hx hb dX1_shifted_4 rfl (lv_at hl 2 rfl) ?_
  refine lv_astore (lv' := [(6, .ref aa), (5, .int (nI w)), (0, .ref hk), (1, .ref aa), (2, .ref ab), (3, .int (nI upw)), (4, .int (nI fl))]) hx hb dX1_shifted_5 hl (by decide) rfl (fun ls hl => ?_)
  refine lv_iconst (v := nI 0) hx hb dX1_shifted_7 (by decide) ?_
  refine lv_istore (lv' := [(7, .int (nI 0)), (6, .ref aa), (5, .int (nI w)), (0, .ref hk), (1, .ref aa), (2, .ref ab), (3, .int (nI upw)), (4, .int (nI fl))]) hx hb dX1_shifted_8 hl (by decide) rfl (fun ls hl => ?_)
  refine lv_iconst (v := nI 1) hx hb dX1_shifted_10 (by decide) ?_
  refine lv_istore (lv' := [(8, .int (nI 1)), (7, .int (nI 0)), (6, .ref aa), (5, .int (nI w)), (0, .ref hk), (1, .ref aa), (2, .ref ab), (3, .int (nI upw)), (4, .int (nI fl))]) hx hb dX1_shifted_11 hl (by decide) rfl (fun ls hl => ?_)
  refine lv_iconst (v := nI 0) hx hb dX1_shifted_13 (by decide) ?_
  refine lv_istore (lv' := [(9, .int (nI 0)), (8, .int (nI 1)), (7, .int (nI 0)), (6, .ref aa), (5, .int (nI w)), (0, .ref hk), (1, .ref aa), (2, .ref ab), (3, .int (nI upw)), (4, .int (nI fl))]) hx hb dX1_shifted_14 hl (by decide) rfl (fun ls hl => ?_)
  refine loop w 0 0 x aa 0 ra [] _ _ _ _ ls (by omega) (Nat.le_refl _) (fun h => absurd h (by omega)) (by decide) (stp.rf hx0) (by have := hx0.1; omega) hra (fun τ hτ => ⟨fun j hj => ?_, ?_⟩) (by omega) (by omega) (RO.pass hro.2.1 hAe hW) hW (lv_sub hl [5, 7, 8, 9, 4, 3, 2, 1, 0] rfl)
  · rw [show rn x τ rb 0 = 0 from rfl, mvd_0 hj]
  · rw [vl_0 hx0 hτ, decide_eq_true rfl]; rfl
end
section
/-- the circuit x with other states and another settled place -/
abbrev xset (x : CS) (S : Nat → Nat) (t : Nat) : CS := (x.1, xu x, xK x, xL x, xR x, S, xn x, t)
theorem bit_and (a b : Bool) : nI a.toNat &&& nI b.toNat = nI (a && b).toNat := by cases a <;> cases b <;> decide
theorem bit_or (a b : Bool) : nI a.toNat ||| nI b.toNat = nI (a || b).toNat := by cases a <;> cases b <;> decide
theorem bit_xor (a b : Bool) : nI a.toNat ^^^ nI b.toNat = nI (a ^^ b).toNat := by cases a <;> cases b <;> decide
theorem tb_oi2 : Cond.instanceMethod Lib.objectInit ∈ TB := by decide +kernel
theorem tb_oi3 : Cond.code Lib.objectInit ⟨#[0xb1]⟩ 1 none ∈ TB := by decide +kernel
set_option maxHeartbeats 4000000 in
set_option maxRecDepth 100000 in
/-- Circuit.settle -/
theorem k_settle (l : Launch) (Z : Zt) (hc : Nat) (x : CS) (σ : Nat → Bool) (S : Nat → Nat) (t g : Nat) (hx0 : cok x σ) (h2g : 2 ≤ g) (hg : g < xn x) (hS0 : xK x g = 0 → S g = (σ g).toNat) (hSg : ∀ j, j < g → S j = (vl x σ j).toNat) : MC l yX0_settle cX0_settle 4 none 0 0 (0) (0) Z (cw Z hc (xset x S t)) (fun _ => True) [.ref hc, .int (nI g)] (fun v w1 => ∃ S2 : Nat → Nat, v = none ∧ w1 = cw Z hc (xset x S2 t) ∧ (∀ j, j ≠ g → S2 j = S j) ∧ S2 g = (vl x σ g).toNat) := by
  refine mc_of (by decide) (Nat.le_of_ble_eq_true rfl) (fun p e s m below meth c ls A hx hb hr hts hown hlk hml hin hK hG hW hA hAe hro hl R hRf hRc hRs hRl => ?_)
  have hl : lv_has ls 4 [(0, .ref hc), (1, .int (nI g))] := hl
  obtain ⟨⟨h1, h2, h3, h3b, h3c⟩, h4, h6, -⟩ := hx0
  obtain ⟨k3, kl, kr⟩ := h6 g h2g hg
  have eL := hSg _ kl
  have eR := hSg _ kr
  have hW : Wd Z A s.heap ([eo hc 0 [.ref x.1.1, .ref x.1.2.1, .ref x.1.2.2.1, .ref x.1.2.2.2, .int (nI (xn x)), .int (nI t)], ea Z x.1.1 (64 * xu x) (xK x), ea Z x.1.2.1 (64 * xu x) (xL x), ea Z x.1.2.2.1 (64 * xu x) (xR x), ea Z x.1.2.2.2 (64 * xu x) S]) _ _ := hW
  refine lv_aload_n hx hb dX0_settle_0 rfl (lv_at hl 0 rfl) ?_
  refine r_get hx hb hts hown hK (hW.at 0 rfl) rfl in_X0 3 (by decide) tb_49 (fun _ h => h) rfl dX0_settle_1 ?_
  refine lv_aload_n hx hb dX0_settle_4 rfl (lv_at hl 0 rfl) ?_
  refine r_get hx hb hts hown hK (hW.at 0 rfl) rfl in_X0 1 (by decide) tb_47 (fun _ h => h) rfl dX0_settle_5 ?_
  refine lv_iload_n hx hb dX0_settle_8 rfl (lv_at hl 1 rfl) ?_
  refine r_ald (i := g) hx hb hK (hW.at 2 rfl) (by omega) (by omega) dX0_settle_9 ?_
  refine r_ald (i := ((xL x) g)) hx hb hK (hW.at 4 rfl) (by omega) (by omega) dX0_settle_10 ?_
  refine n_eqv (congrArg nI eL) ?_
  refine lv_istore_n (lv' := [(2, .int (nI (vl x σ (xL x g)).toNat)), (0, .ref hc), (1, .int (nI g))]) hx hb dX0_settle_11 rfl hl (by decide) rfl (fun ls hl => ?_)
  refine lv_aload_n hx hb dX0_settle_12 rfl (lv_at hl 1 rfl) ?_
  refine r_get hx hb hts hown hK (hW.at 0 rfl) rfl in_X0 3 (by decide) tb_49 (fun _ h => h) rfl dX0_settle_13 ?_
  refine lv_aload_n hx hb dX0_settle_16 rfl (lv_at hl 1 rfl) ?_
  refine r_get hx hb hts hown hK (hW.at 0 rfl) rfl in_X0 2 (by decide) tb_48 (fun _ h => h) rfl dX0_settle_17 ?_
  refine lv_iload_n hx hb dX0_settle_20 rfl (lv_at hl 2 rfl) ?_
  refine r_ald (i := g) hx hb hK (hW.at 3 rfl) (by omega) (by omega) dX0_settle_21 ?_
  refine r_ald (i := ((xR x) g)) hx hb hK (hW.at 4 rfl) (by omega) (by omega) dX0_settle_22 ?_
  refine n_eqv (congrArg nI eR) ?_
  refine lv_istore_n (lv' := [(3, .int (nI (vl x σ (xR x g)).toNat)), (2, .int (nI (vl x σ (xL x g)).toNat)), (0, .ref hc), (1, .int (nI g))]) hx hb dX0_settle_23 rfl hl (by decide) rfl (fun ls hl => ?_)
  refine lv_aload_n hx hb dX0_settle_24 rfl (lv_at hl 2 rfl) ?_
  refine r_get hx hb hts hown hK (hW.at 0 rfl) rfl in_X0 0 (by decide) tb_46 (fun _ h => h) rfl dX0_settle_25 ?_
  refine lv_iload_n hx hb dX0_settle_28 rfl (lv_at hl 3 rfl) ?_
  refine r_ald (i := g) hx hb hK (hW.at 1 rfl) (by omega) (by omega) dX0_settle_29 ?_
  rcases (show xK x g = 0 ∨ xK x g = 1 ∨ xK x g = 2 ∨ xK x g = 3 by omega) with hkd | hkd | hkd | hkd
  · refine n_eqv (congrArg nI hkd) ?_
    refine lv_tableOut (tgt := 92) hx hb dX0_settle_30 (by decide) (by decide) ?_
    exact e_void hx hb hr hlk hAe hW (by omega) (by omega) dX0_settle_92 ⟨S, rfl, rfl, fun _ _ => rfl, by rw [hS0 hkd, vl, cv_src hkd]⟩
  · refine n_eqv (congrArg nI hkd) ?_
    refine lv_tableIn (off := 26) (tgt := 56) hx hb dX0_settle_30 (by decide) (by decide) (by decide) (by decide) ?_
    refine lv_aload_n hx hb dX0_settle_56 rfl (lv_at hl 2 rfl) ?_
    refine r_get hx hb hts hown hK (hW.at 0 rfl) rfl in_X0 3 (by decide) tb_49 (fun _ h => h) rfl dX0_settle_57 ?_
    refine lv_iload_n hx hb dX0_settle_60 rfl (lv_at hl 3 rfl) ?_
    refine lv_iload_n hx hb dX0_settle_61 rfl (lv_at hl 1 rfl) ?_
    refine lv_iload_n hx hb dX0_settle_62 rfl (lv_at hl 0 rfl) ?_
    refine lv_iand hx hb dX0_settle_63 ?_
    refine n_eqv (bit_and _ _) ?_
    refine r_ast (i := g) (x := ((vl x σ (xL x g) && vl x σ (xR x g)).toNat)) hx hb hK hW 4 rfl (by omega) (by omega) dX0_settle_64 (fun H locs hW => ?_)
    have hW : Wd Z A s.heap ([eo hc 0 [.ref x.1.1, .ref x.1.2.1, .ref x.1.2.2.1, .ref x.1.2.2.2, .int (nI (xn x)), .int (nI t)], ea Z x.1.1 (64 * xu x) (xK x), ea Z x.1.2.1 (64 * xu x) (xL x), ea Z x.1.2.2.1 (64 * xu x) (xR x), ea Z x.1.2.2.2 (64 * xu x) (up S g ((vl x σ (xL x g) && vl x σ (xR x g)).toNat))]) _ _ := hW
    refine lv_goto (tgt := 92) hx hb dX0_settle_65 (by decide) ?_
    exact e_void hx hb hr hlk hAe hW (by omega) (by omega) dX0_settle_92 ⟨up S g (vl x σ (xL x g) && vl x σ (xR x g)).toNat, rfl, rfl, fun j hj => up_n _ _ hj, (up_s _ _ _).trans (by rw [vl.eq_1 x σ g, cv_gate (by rw [hkd]; decide) kl kr, hkd]; rfl)⟩
  · refine n_eqv (congrArg nI hkd) ?_
    refine lv_tableIn (off := 38) (tgt := 68) hx hb dX0_settle_30 (by decide) (by decide) (by decide) (by decide) ?_
    refine lv_aload_n hx hb dX0_settle_68 rfl (lv_at hl 2 rfl) ?_
    refine r_get hx hb hts hown hK (hW.at 0 rfl) rfl in_X0 3 (by decide) tb_49 (fun _ h => h) rfl dX0_settle_69 ?_
    refine lv_iload_n hx hb dX0_settle_72 rfl (lv_at hl 3 rfl) ?_
    refine lv_iload_n hx hb dX0_settle_73 rfl (lv_at hl 1 rfl) ?_
    refine lv_iload_n hx hb dX0_settle_74 rfl (lv_at hl 0 rfl) ?_
    refine lv_ior hx hb dX0_settle_75 ?_
    refine n_eqv (bit_or _ _) ?_
    refine r_ast (i := g) (x := ((vl x σ (xL x g) || vl x σ (xR x g)).toNat)) hx hb hK hW 4 rfl (by omega) (by omega) dX0_settle_76 (fun H locs hW => ?_)
    have hW : Wd Z A s.heap ([eo hc 0 [.ref x.1.1, .ref x.1.2.1, .ref x.1.2.2.1, .ref x.1.2.2.2, .int (nI (xn x)), .int (nI t)], ea Z x.1.1 (64 * xu x) (xK x), ea Z x.1.2.1 (64 * xu x) (xL x), ea Z x.1.2.2.1 (64 * xu x) (xR x), ea Z x.1.2.2.2 (64 * xu x) (up S g ((vl x σ (xL x g) || vl x σ (xR x g)).toNat))]) _ _ := hW
    refine lv_goto (tgt := 92) hx hb dX0_settle_77 (by decide) ?_
    exact e_void hx hb hr hlk hAe hW (by omega) (by omega) dX0_settle_92 ⟨up S g (vl x σ (xL x g) || vl x σ (xR x g)).toNat, rfl, rfl, fun j hj => up_n _ _ hj, (up_s _ _ _).trans (by rw [vl.eq_1 x σ g, cv_gate (by rw [hkd]; decide) kl kr, hkd]; rfl)⟩
  · refine n_eqv (congrArg nI hkd) ?_
    refine lv_tableIn (off := 50) (tgt := 80) hx hb dX0_settle_30 (by decide) (by decide) (by decide) (by decide) ?_
    refine lv_aload_n hx hb dX0_settle_80 rfl (lv_at hl 2 rfl) ?_
    refine r_get hx hb hts hown hK (hW.at 0 rfl) rfl in_X0 3 (by decide) tb_49 (fun _ h => h) rfl dX0_settle_81 ?_
    refine lv_iload_n hx hb dX0_settle_84 rfl (lv_at hl 3 rfl) ?_
    refine lv_iload_n hx hb dX0_settle_85 rfl (lv_at hl 1 rfl) ?_
    refine lv_iload_n hx hb dX0_settle_86 rfl (lv_at hl 0 rfl) ?_
    refine lv_ixor hx hb dX0_settle_87 ?_
    refine n_eqv (bit_xor _ _) ?_
    refine r_ast (i := g) (x := ((vl x σ (xL x g) ^^ vl x σ (xR x g)).toNat)) hx hb hK hW 4 rfl (by omega) (by omega) dX0_settle_88 (fun H locs hW => ?_)
    have hW : Wd Z A s.heap ([eo hc 0 [.ref x.1.1, .ref x.1.2.1, .ref x.1.2.2.1, .ref x.1.2.2.2, .int (nI (xn x)), .int (nI t)], ea Z x.1.1 (64 * xu x) (xK x), ea Z x.1.2.1 (64 * xu x) (xL x), ea Z x.1.2.2.1 (64 * xu x) (xR x), ea Z x.1.2.2.2 (64 * xu x) (up S g ((vl x σ (xL x g) ^^ vl x σ (xR x g)).toNat))]) _ _ := hW
    refine lv_goto (tgt := 92) hx hb dX0_settle_89 (by decide) ?_
    exact e_void hx hb hr hlk hAe hW (by omega) (by omega) dX0_settle_92 ⟨up S g (vl x σ (xL x g) ^^ vl x σ (xR x g)).toNat, rfl, rfl, fun j hj => up_n _ _ hj, (up_s _ _ _).trans (by rw [vl.eq_1 x σ g, cv_gate (by rw [hkd]; decide) kl kr, hkd]; rfl)⟩
set_option maxHeartbeats 4000000 in
set_option maxRecDepth 100000 in
/-- Circuit.read -/
theorem k_read (l : Launch) (Z : Zt) (hc : Nat) (x : CS) (σ : Nat → Bool) (sg : Nat) (hx0 : cok x σ) (hsg : sg < xn x) : MC l yX0_read cX0_read 3 (some .int) 2 60 (0) (0) Z (cw Z hc x) (fun _ => True) [.ref hc, .int (nI sg)] (fun v w1 => ∃ (S2 : Nat → Nat) (t2 : Nat), v = some (.int (nI (vl x σ sg).toNat)) ∧ w1 = cw Z hc (xset x S2 t2) ∧ cok (xset x S2 t2) σ) := by
  refine mc_of (by decide) (Nat.le_of_ble_eq_true rfl) (fun p e s m below meth c ls A hx hb hr hts hown hlk hml hin hK hG hW hA hAe hro hl R hRf hRc hRs hRl => ?_)
  have hl : lv_has ls 3 [(0, .ref hc), (1, .int (nI sg))] := hl
  obtain ⟨⟨h1, h2, h3, h3b, h3c⟩, h4, h6, h7, h8, h9, h10, h11⟩ := id hx0
  have hW : Wd Z A s.heap ([eo hc 0 [.ref x.1.1, .ref x.1.2.1, .ref x.1.2.2.1, .ref x.1.2.2.2, .int (nI (xn x)), .int (nI (xt x))], ea Z x.1.1 (64 * xu x) (xK x), ea Z x.1.2.1 (64 * xu x) (xL x), ea Z x.1.2.2.1 (64 * xu x) (xR x), ea Z x.1.2.2.2 (64 * xu x) (xS x)]) _ _ := hW
  have loop : ∀ (d g : Nat) (S : Nat → Nat) (H : Heap) (locs : List Loc) (ls : Array Slot), g + d = max (xt x) (sg + 1) → xt x ≤ g → (∀ j, j < g → S j = (vl x σ j).toNat) → (∀ j, g ≤ j → S j = xS x j) → Wd Z A s.heap ([eo hc 0 [.ref x.1.1, .ref x.1.2.1, .ref x.1.2.2.1, .ref x.1.2.2.2, .int (nI (xn x)), .int (nI (xt x))], ea Z x.1.1 (64 * xu x) (xK x), ea Z x.1.2.1 (64 * xu x) (xL x), ea Z x.1.2.2.1 (64 * xu x) (xR x), ea Z x.1.2.2.2 (64 * xu x) S]) H locs → lv_has ls 3 [(0, .ref hc), (1, .int (nI sg)), (2, .int (nI g))] → W p l e R s m ([.ref hc, .int (nI sg)] : List Value).toArray below meth c H locs 0 0 (MQ below (QC Z (cw Z hc x) s.heap.size (fun v w1 => ∃ (S2 : Nat → Nat) (t2 : Nat), v = some (.int (nI (vl x σ sg).toNat)) ∧ w1 = cw Z hc (xset x S2 t2) ∧ cok (xset x S2 t2) σ)) ([.ref hc, .int (nI sg)] : List Value).toArray s 0 0 A) (F0 m 5 ls []) := by
    intro d
    induction d with
    | zero =>
      intro g S H locs ls hd htg hlo hhi hW hl
      refine lv_iload_n hx hb dX0_read_5 rfl (lv_at hl 2 rfl) ?_
      refine lv_iload_n hx hb dX0_read_6 rfl (lv_at hl 1 rfl) ?_
      refine n_gt_t (tgt := 21) hx hb (by omega) (by omega) dX0_read_7 (by decide) ?_
      refine lv_aload_n hx hb dX0_read_21 rfl (lv_at hl 0 rfl) ?_
      refine lv_aload_n hx hb dX0_read_22 rfl (lv_at hl 0 rfl) ?_
      refine r_get hx hb hts hown hK (hW.at 0 rfl) rfl in_X0 5 (by decide) tb_51 (fun _ h => h) rfl dX0_read_23 ?_
      refine lv_iload_n hx hb dX0_read_26 rfl (lv_at hl 1 rfl) ?_
      refine lv_iconst (v := nI 1) hx hb dX0_read_27 (by decide) ?_
      refine n_iadd hx hb dX0_read_28 ?_
      refine n_max hx hb hml hl hown hts tb_765 (by omega) (by rw [hRl]; exact Nat.le_of_ble_eq_true rfl) (by omega) (by omega) (x := xt x) (y := sg + 1) (by omega) (by omega) dX0_read_29 ?_
      rw [show max (xt x) (sg + 1) = g by omega]
      refine r_put hx hb hts hown hK hW 0 (v := .int (nI g)) rfl rfl in_X0 tyX0 tyX0_ok nmX0 5 (by decide) tb_51 (fun _ h => h) rfl rfl rfl (Nat.le_of_ble_eq_true rfl) dX0_read_32 (fun H locs hW => ?_)
      have hW : Wd Z A s.heap ([eo hc 0 [.ref x.1.1, .ref x.1.2.1, .ref x.1.2.2.1, .ref x.1.2.2.2, .int (nI (xn x)), .int (nI g)], ea Z x.1.1 (64 * xu x) (xK x), ea Z x.1.2.1 (64 * xu x) (xL x), ea Z x.1.2.2.1 (64 * xu x) (xR x), ea Z x.1.2.2.2 (64 * xu x) S]) _ _ := hW
      refine lv_aload_n hx hb dX0_read_35 rfl (lv_at hl 0 rfl) ?_
      refine r_get hx hb hts hown hK (hW.at 0 rfl) rfl in_X0 3 (by decide) tb_49 (fun _ h => h) rfl dX0_read_36 ?_
      refine lv_iload_n hx hb dX0_read_39 rfl (lv_at hl 1 rfl) ?_
      refine r_ald (i := sg) hx hb hK (hW.at 4 rfl) (by omega) (by omega) dX0_read_40 ?_
      refine n_eqv (congrArg nI (hlo sg (by omega))) ?_
      have hW : Wd Z A s.heap (cw Z hc (xset x S g)) _ _ := hW
      refine e_int hx hb hr hlk hAe hW (by omega) (by omega) dX0_read_41 ⟨S, g, rfl, rfl, ⟨by show 2 ≤ g; omega, by show g ≤ xn x; omega, h3, h3b, h3c⟩, h4, h6, h7, h8, fun j hj hk => ?_, hlo, fun j h1 h2 => ?_⟩
      · by_cases q : j < g
        · rw [show xS (xset x S g) j = (vl x σ j).toNat from hlo j q, vl, cv_src hk]
        · rw [show xS (xset x S g) j = xS x j from hhi j (by omega)]; exact h9 j hj hk
      · have h1' : xn x ≤ j := h1
        rw [show xS (xset x S g) j = xS x j from hhi j (by omega)]; exact h11 j h1 h2
    | succ d ih =>
      intro g S H locs ls hd htg hlo hhi hW hl
      refine lv_iload_n hx hb dX0_read_5 rfl (lv_at hl 2 rfl) ?_
      refine lv_iload_n hx hb dX0_read_6 rfl (lv_at hl 1 rfl) ?_
      refine n_gt_f (tgt := 21) hx hb (by omega) (by omega) dX0_read_7 (by decide) ?_
      refine lv_aload_n hx hb dX0_read_10 rfl (lv_at hl 0 rfl) ?_
      refine lv_iload_n hx hb dX0_read_11 rfl (lv_at hl 2 rfl) ?_
      have hW : Wd Z A s.heap (cw Z hc (xset x S (xt x)) ++ []) _ _ := hW
      refine c_virt (As := [.int (nI g)]) (rest := []) (wc := cw Z hc (xset x S (xt x))) (wr := []) (nl := 0) hx hb hml hown hts hK hG rfl hA hl (k_settle l Z hc x σ S (xt x) g hx0 (by omega) (by omega) (fun hk => by rw [hhi g (Nat.le_refl _)]; exact h9 g (by omega) hk) hlo) hW trivial (hW.at 0 rfl) rfl rfl tb_761 tb_763 ts_9 tb_3 tb_764 (nA := 1) (by decide +kernel) rfl ⟨by omega, by omega⟩ ⟨by omega, by omega⟩ rfl (Nat.le_of_ble_eq_true rfl) dX0_read_12 (fun v w1 H1 L1 hp hW hzz hkk hdd => ?_)
      obtain ⟨S2, rfl, rfl, e1, e2⟩ := hp
      clear hzz hkk hdd
      generalize H1 = H at hW  ⊢
      generalize L1 = locs at hW ⊢
      have hW : Wd Z A s.heap (cw Z hc (xset x S2 (xt x))) _ _ := hW
      refine W.eq (g2 := F0 m 15 ls []) rfl ?_
      have hW : Wd Z A s.heap ([eo hc 0 [.ref x.1.1, .ref x.1.2.1, .ref x.1.2.2.1, .ref x.1.2.2.2, .int (nI (xn x)), .int (nI (xt x))], ea Z x.1.1 (64 * xu x) (xK x), ea Z x.1.2.1 (64 * xu x) (xL x), ea Z x.1.2.2.1 (64 * xu x) (xR x), ea Z x.1.2.2.2 (64 * xu x) S2]) _ _ := hW
      refine lv_iinc (v := nI (g + 1)) (lv' := [(2, .int (nI (g + 1))), (0, .ref hc), (1, .int (nI sg))]) hx hb dX0_read_15 hl (k := 2) rfl (inc1 _) (by decide) rfl (fun ls hl => ?_)
      refine lv_goto (tgt := 5) hx hb dX0_read_18 (by decide) ?_
      refine ih (g + 1) S2 _ _ ls (by omega) (by omega) (fun j hj => ?_) (fun j hj => ?_) hW (lv_sub hl [1, 2, 0] rfl)
      · by_cases q : j = g
        · subst q; exact e2
        · rw [e1 j q]; exact hlo j (by omega)
      · rw [e1 j (by omega)]; exact hhi j (by omega)
  refine lv_aload_n hx hb dX0_read_0 rfl (lv_at hl 0 rfl) ?_
  refine r_get hx hb hts hown hK (hW.at 0 rfl) rfl in_X0 5 (by decide) tb_51 (fun _ h => h) rfl dX0_read_1 ?_
  refine lv_istore_n (lv' := [(2, .int (nI (xt x))), (0, .ref hc), (1, .int (nI sg))]) hx hb dX0_read_4 rfl hl (by decide) rfl (fun ls hl => ?_)
  exact loop (max (xt x) (sg + 1) - xt x) (xt x) (xS x) _ _ ls (by omega) (Nat.le_refl _) h10 (fun _ _ => rfl) hW (lv_sub hl [1, 2, 0] rfl)
set_option maxHeartbeats 4000000 in
set_option maxRecDepth 100000 in
/-- Circuit.put -/
theorem k_put (l : Launch) (Z : Zt) (hc : Nat) (x : CS) (σ : Nat → Bool) (sg : Nat) (b : Bool) (hx0 : cok x σ) (hsg2 : 2 ≤ sg) (hsg : sg < xn x) (hsrc : xK x sg = 0) : MC l yX0_put cX0_put 4 (some .int) 2 60 (0) (0) Z (cw Z hc x) (fun _ => True) [.ref hc, .int (nI sg), .int (nI b.toNat)] (fun v w1 => ∃ (S2 : Nat → Nat) (t2 : Nat), v = some (.int (nI (σ sg).toNat)) ∧ w1 = cw Z hc (xset x S2 t2) ∧ cok (xset x S2 t2) (up σ sg b)) := by
  refine mc_of (by decide) (Nat.le_of_ble_eq_true rfl) (fun p e s m below meth c ls A hx hb hr hts hown hlk hml hin hK hG hW hA hAe hro hl R hRf hRc hRs hRl => ?_)
  have hl : lv_has ls 4 [(0, .ref hc), (1, .int (nI sg)), (2, .int (nI b.toNat))] := hl
  obtain ⟨⟨h1, h2, h3, h3b, h3c⟩, h4, h6, h7, h8, h9, h10, h11⟩ := id hx0
  have eS := h9 sg hsg hsrc
  have hbb : b.toNat ≤ 1 := by cases b <;> simp
  have hss : (σ sg).toNat ≤ 1 := by cases σ sg <;> simp
  have hW : Wd Z A s.heap ([eo hc 0 [.ref x.1.1, .ref x.1.2.1, .ref x.1.2.2.1, .ref x.1.2.2.2, .int (nI (xn x)), .int (nI (xt x))], ea Z x.1.1 (64 * xu x) (xK x), ea Z x.1.2.1 (64 * xu x) (xL x), ea Z x.1.2.2.1 (64 * xu x) (xR x), ea Z x.1.2.2.2 (64 * xu x) (xS x)]) _ _ := hW
  refine lv_aload_n hx hb dX0_put_0 rfl (lv_at hl 0 rfl) ?_
  refine r_get hx hb hts hown hK (hW.at 0 rfl) rfl in_X0 3 (by decide) tb_49 (fun _ h => h) rfl dX0_put_1 ?_
  refine lv_iload_n hx hb dX0_put_4 rfl (lv_at hl 1 rfl) ?_
  refine r_ald (i := sg) hx hb hK (hW.at 4 rfl) (by omega) (by omega) dX0_put_5 ?_
  refine n_eqv (congrArg nI eS) ?_
  refine lv_istore_n (lv' := [(3, .int (nI (σ sg).toNat)), (0, .ref hc), (1, .int (nI sg)), (2, .int (nI b.toNat))]) hx hb dX0_put_6 rfl hl (by decide) rfl (fun ls hl => ?_)
  refine lv_iload_n hx hb dX0_put_7 rfl (lv_at hl 0 rfl) ?_
  refine lv_iload_n hx hb dX0_put_8 rfl (lv_at hl 3 rfl) ?_
  by_cases hbs : (σ sg).toNat = b.toNat
  · refine n_eq_t (tgt := 33) hx hb (by omega) dX0_put_9 (by decide) ?_
    refine lv_iload_n hx hb dX0_put_33 rfl (lv_at hl 0 rfl) ?_
    have hσ : up σ sg b = σ := by
      funext j
      by_cases q : j = sg
      · subst q; rw [up_s]; revert hbs; cases b <;> cases σ j <;> simp
      · exact up_n _ _ q
    have hW : Wd Z A s.heap (cw Z hc (xset x (xS x) (xt x))) _ _ := hW
    exact e_int hx hb hr hlk hAe hW (by omega) (by omega) dX0_put_34 ⟨xS x, xt x, rfl, rfl, by rw [hσ]; exact hx0⟩
  · refine n_eq_f (tgt := 33) hx hb (by omega) (by omega) (by omega) dX0_put_9 (by decide) ?_
    refine lv_aload_n hx hb dX0_put_12 rfl (lv_at hl 1 rfl) ?_
    refine r_get hx hb hts hown hK (hW.at 0 rfl) rfl in_X0 3 (by decide) tb_49 (fun _ h => h) rfl dX0_put_13 ?_
    refine lv_iload_n hx hb dX0_put_16 rfl (lv_at hl 2 rfl) ?_
    refine lv_iload_n hx hb dX0_put_17 rfl (lv_at hl 3 rfl) ?_
    refine r_ast (i := sg) (x := b.toNat) hx hb hK hW 4 rfl (by omega) (by omega) dX0_put_18 (fun H locs hW => ?_)
    have hW : Wd Z A s.heap ([eo hc 0 [.ref x.1.1, .ref x.1.2.1, .ref x.1.2.2.1, .ref x.1.2.2.2, .int (nI (xn x)), .int (nI (xt x))], ea Z x.1.1 (64 * xu x) (xK x), ea Z x.1.2.1 (64 * xu x) (xL x), ea Z x.1.2.2.1 (64 * xu x) (xR x), ea Z x.1.2.2.2 (64 * xu x) (up (xS x) sg b.toNat)]) _ _ := hW
    refine lv_aload_n hx hb dX0_put_19 rfl (lv_at hl 1 rfl) ?_
    refine lv_aload_n hx hb dX0_put_20 rfl (lv_at hl 1 rfl) ?_
    refine r_get hx hb hts hown hK (hW.at 0 rfl) rfl in_X0 5 (by decide) tb_51 (fun _ h => h) rfl dX0_put_21 ?_
    refine lv_iload_n hx hb dX0_put_24 rfl (lv_at hl 2 rfl) ?_
    refine lv_iconst (v := nI 1) hx hb dX0_put_25 (by decide) ?_
    refine n_iadd hx hb dX0_put_26 ?_
    refine n_min hx hb hml hl hown hts tb_749 (by omega) (by rw [hRl]; exact Nat.le_of_ble_eq_true rfl) (by omega) (by omega) (x := xt x) (y := sg + 1) (by omega) (by omega) dX0_put_27 ?_
    refine r_put hx hb hts hown hK hW 0 (v := .int (nI (min (xt x) (sg + 1)))) rfl rfl in_X0 tyX0 tyX0_ok nmX0 5 (by decide) tb_51 (fun _ h => h) rfl rfl rfl (Nat.le_of_ble_eq_true rfl) dX0_put_30 (fun H locs hW => ?_)
    have hW : Wd Z A s.heap ([eo hc 0 [.ref x.1.1, .ref x.1.2.1, .ref x.1.2.2.1, .ref x.1.2.2.2, .int (nI (xn x)), .int (nI (min (xt x) (sg + 1)))], ea Z x.1.1 (64 * xu x) (xK x), ea Z x.1.2.1 (64 * xu x) (xL x), ea Z x.1.2.2.1 (64 * xu x) (xR x), ea Z x.1.2.2.2 (64 * xu x) (up (xS x) sg b.toNat)]) _ _ := hW
    refine lv_iload_n hx hb dX0_put_33 rfl (lv_at hl 0 rfl) ?_
    have hW : Wd Z A s.heap (cw Z hc (xset x (up (xS x) sg b.toNat) (min (xt x) (sg + 1)))) _ _ := hW
    refine e_int hx hb hr hlk hAe hW (by omega) (by omega) dX0_put_34 ⟨_, _, rfl, rfl, ⟨by show 2 ≤ min (xt x) (sg + 1); omega, by show min (xt x) (sg + 1) ≤ xn x; omega, h3, h3b, h3c⟩, h4, h6, ⟨(up_n _ _ (by omega)).trans h7.1, (up_n _ _ (by omega)).trans h7.2⟩, fun j hj => ?_, fun j hj hk => ?_, fun j hj => ?_, fun j j1 j2 => ?_⟩
    · have hj' : xn x ≤ j := hj
      rw [up_n _ _ (by omega)]; exact h8 j hj
    · show up (xS x) sg b.toNat j = (up σ sg b j).toNat
      by_cases q : j = sg
      · subst q; rw [up_s, up_s]
      · rw [up_n _ _ q, up_n _ _ q]; exact h9 j hj hk
    · have hj' : j < min (xt x) (sg + 1) := hj
      show up (xS x) sg b.toNat j = (vl x (up σ sg b) j).toNat
      by_cases q : j = sg
      · subst q; rw [up_s, vl, cv_src hsrc, up_s]
      · rw [up_n _ _ q, h10 j (by omega)]
        congr 1
        exact cv_low j (fun i hi => (up_n _ _ (by omega)).symm)
    · have hj' : xn x ≤ j := j1
      rw [show xS (xset x (up (xS x) sg b.toNat) (min (xt x) (sg + 1))) j = xS x j from up_n _ _ (by omega)]
      exact h11 j j1 j2
set_option maxHeartbeats 4000000 in
set_option maxRecDepth 100000 in
/-- Circuit() -/
theorem k_Circuit (l : Launch) (Z : Zt) (hc : Nat)  : MC l yX0_init cX0_init 1 none 1 40 (4) (256) Z ([eo hc 0 [.null, .null, .null, .null, .int 0, .int 0]]) (fun _ => True) [.ref hc] (fun v w1 => ∃ x : CS, v = none ∧ w1 = cw Z hc x ∧ cok x (fun g => decide (g = 1)) ∧ xn x = 2 ∧ xu x = 1) := by
  refine mc_of (by decide) (Nat.le_of_ble_eq_true rfl) (fun p e s m below meth c ls A hx hb hr hts hown hlk hml hin hK hG hW hA hAe hro hl R hRf hRc hRs hRl => ?_)
  have hl : lv_has ls 1 [(0, .ref hc)] := hl
  refine lv_aload_n hx hb dX0_init_0 rfl (lv_at hl 0 rfl) ?_
  refine W.objInit hx hb hown (hts _ tb_45) (hts _ tb_oi2) (hts _ tb_oi3) rfl (hl.1.trans hml.symm) rfl dX0_init_1 (by omega) (by rw [hRl]; exact Nat.le_of_ble_eq_true rfl) ?_
  refine W.eq (g2 := F0 m 4 ls []) rfl ?_
  refine lv_aload_n hx hb dX0_init_4 rfl (lv_at hl 0 rfl) ?_
  refine lv_bipush (v := nI 64) hx hb dX0_init_5 (by decide) ?_
  refine r_newa (n := 64) hx hb hts tb_65 hK hW hA (by omega) (by omega) (by omega) dX0_init_7 (fun q0 H hW hsz_q0 hq_q0 => ?_)
  have hW : Wd Z A s.heap ([eo hc 0 [.null, .null, .null, .null, .int 0, .int 0], ea Z q0 64 (fun _ => 0)]) _ _ := hW
  refine r_put hx hb hts hown hK hW 0 (v := .ref q0) rfl rfl in_X0 tyX0 tyX0_ok nmX0 0 (by decide) tb_46 (fun _ h => h) rfl rfl rfl (Nat.le_of_ble_eq_true rfl) dX0_init_9 (fun H locs hW => ?_)
  have hW : Wd Z A s.heap ([eo hc 0 [.ref q0, .null, .null, .null, .int 0, .int 0], ea Z q0 64 (fun _ => 0)]) _ _ := hW
  refine lv_aload_n hx hb dX0_init_12 rfl (lv_at hl 0 rfl) ?_
  refine lv_bipush (v := nI 64) hx hb dX0_init_13 (by decide) ?_
  refine r_newa (n := 64) hx hb hts tb_65 hK hW hA (by omega) (by omega) (by omega) dX0_init_15 (fun q1 H hW hsz_q1 hq_q1 => ?_)
  have hW : Wd Z A s.heap ([eo hc 0 [.ref q0, .null, .null, .null, .int 0, .int 0], ea Z q0 64 (fun _ => 0), ea Z q1 64 (fun _ => 0)]) _ _ := hW
  refine r_put hx hb hts hown hK hW 0 (v := .ref q1) rfl rfl in_X0 tyX0 tyX0_ok nmX0 1 (by decide) tb_47 (fun _ h => h) rfl rfl rfl (Nat.le_of_ble_eq_true rfl) dX0_init_17 (fun H locs hW => ?_)
  have hW : Wd Z A s.heap ([eo hc 0 [.ref q0, .ref q1, .null, .null, .int 0, .int 0], ea Z q0 64 (fun _ => 0), ea Z q1 64 (fun _ => 0)]) _ _ := hW
  refine lv_aload_n hx hb dX0_init_20 rfl (lv_at hl 0 rfl) ?_
  refine lv_bipush (v := nI 64) hx hb dX0_init_21 (by decide) ?_
  refine r_newa (n := 64) hx hb hts tb_65 hK hW hA (by omega) (by omega) (by omega) dX0_init_23 (fun q2 H hW hsz_q2 hq_q2 => ?_)
  have hW : Wd Z A s.heap ([eo hc 0 [.ref q0, .ref q1, .null, .null, .int 0, .int 0], ea Z q0 64 (fun _ => 0), ea Z q1 64 (fun _ => 0), ea Z q2 64 (fun _ => 0)]) _ _ := hW
  refine r_put hx hb hts hown hK hW 0 (v := .ref q2) rfl rfl in_X0 tyX0 tyX0_ok nmX0 2 (by decide) tb_48 (fun _ h => h) rfl rfl rfl (Nat.le_of_ble_eq_true rfl) dX0_init_25 (fun H locs hW => ?_)
  have hW : Wd Z A s.heap ([eo hc 0 [.ref q0, .ref q1, .ref q2, .null, .int 0, .int 0], ea Z q0 64 (fun _ => 0), ea Z q1 64 (fun _ => 0), ea Z q2 64 (fun _ => 0)]) _ _ := hW
  refine lv_aload_n hx hb dX0_init_28 rfl (lv_at hl 0 rfl) ?_
  refine lv_bipush (v := nI 64) hx hb dX0_init_29 (by decide) ?_
  refine r_newa (n := 64) hx hb hts tb_65 hK hW hA (by omega) (by omega) (by omega) dX0_init_31 (fun q3 H hW hsz_q3 hq_q3 => ?_)
  have hW : Wd Z A s.heap ([eo hc 0 [.ref q0, .ref q1, .ref q2, .null, .int 0, .int 0], ea Z q0 64 (fun _ => 0), ea Z q1 64 (fun _ => 0), ea Z q2 64 (fun _ => 0), ea Z q3 64 (fun _ => 0)]) _ _ := hW
  refine r_put hx hb hts hown hK hW 0 (v := .ref q3) rfl rfl in_X0 tyX0 tyX0_ok nmX0 3 (by decide) tb_49 (fun _ h => h) rfl rfl rfl (Nat.le_of_ble_eq_true rfl) dX0_init_33 (fun H locs hW => ?_)
  have hW : Wd Z A s.heap ([eo hc 0 [.ref q0, .ref q1, .ref q2, .ref q3, .int 0, .int 0], ea Z q0 64 (fun _ => 0), ea Z q1 64 (fun _ => 0), ea Z q2 64 (fun _ => 0), ea Z q3 64 (fun _ => 0)]) _ _ := hW
  refine lv_aload_n hx hb dX0_init_36 rfl (lv_at hl 0 rfl) ?_
  refine r_get hx hb hts hown hK (hW.at 0 rfl) rfl in_X0 3 (by decide) tb_49 (fun _ h => h) rfl dX0_init_37 ?_
  refine lv_iconst (v := nI 1) hx hb dX0_init_40 (by decide) ?_
  refine lv_iconst (v := nI 1) hx hb dX0_init_41 (by decide) ?_
  refine r_ast (i := 1) (x := 1) hx hb hK hW 4 rfl (by omega) (by omega) dX0_init_42 (fun H locs hW => ?_)
  have hW : Wd Z A s.heap ([eo hc 0 [.ref q0, .ref q1, .ref q2, .ref q3, .int 0, .int 0], ea Z q0 64 (fun _ => 0), ea Z q1 64 (fun _ => 0), ea Z q2 64 (fun _ => 0), ea Z q3 64 (up (fun _ => 0) 1 1)]) _ _ := hW
  refine lv_aload_n hx hb dX0_init_43 rfl (lv_at hl 0 rfl) ?_
  refine lv_iconst (v := nI 2) hx hb dX0_init_44 (by decide) ?_
  refine r_put hx hb hts hown hK hW 0 (v := .int (nI 2)) rfl rfl in_X0 tyX0 tyX0_ok nmX0 4 (by decide) tb_50 (fun _ h => h) rfl rfl rfl (Nat.le_of_ble_eq_true rfl) dX0_init_45 (fun H locs hW => ?_)
  have hW : Wd Z A s.heap ([eo hc 0 [.ref q0, .ref q1, .ref q2, .ref q3, .int (nI 2), .int 0], ea Z q0 64 (fun _ => 0), ea Z q1 64 (fun _ => 0), ea Z q2 64 (fun _ => 0), ea Z q3 64 (up (fun _ => 0) 1 1)]) _ _ := hW
  refine lv_aload_n hx hb dX0_init_48 rfl (lv_at hl 0 rfl) ?_
  refine lv_aload_n hx hb dX0_init_49 rfl (lv_at hl 0 rfl) ?_
  refine r_get hx hb hts hown hK (hW.at 0 rfl) rfl in_X0 4 (by decide) tb_50 (fun _ h => h) rfl dX0_init_50 ?_
  refine r_put hx hb hts hown hK hW 0 (v := .int (nI 2)) rfl rfl in_X0 tyX0 tyX0_ok nmX0 5 (by decide) tb_51 (fun _ h => h) rfl rfl rfl (Nat.le_of_ble_eq_true rfl) dX0_init_53 (fun H locs hW => ?_)
  have hW : Wd Z A s.heap ([eo hc 0 [.ref q0, .ref q1, .ref q2, .ref q3, .int (nI 2), .int (nI 2)], ea Z q0 64 (fun _ => 0), ea Z q1 64 (fun _ => 0), ea Z q2 64 (fun _ => 0), ea Z q3 64 (up (fun _ => 0) 1 1)]) _ _ := hW
  have hW : Wd Z A s.heap (cw Z hc ((q0, q1, q2, q3), 1, fun _ => 0, fun _ => 0, fun _ => 0, up (fun _ => 0) 1 1, 2, 2)) _ _ := hW.sub [0, 1, 2, 3, 4] (by decide) rfl
  refine e_void hx hb hr hlk hAe hW (by omega) (by omega) dX0_init_56 ⟨_, rfl, rfl, ⟨⟨Nat.le_of_ble_eq_true rfl, Nat.le_of_ble_eq_true rfl, Nat.le_of_ble_eq_true rfl, Nat.le_of_ble_eq_true rfl, Nat.le_of_ble_eq_true rfl⟩, ⟨rfl, rfl⟩, fun g g2 gn => ?_, ⟨rfl, rfl⟩, fun g hg => ?_, fun g hg _ => ?_, fun g hg => ?_, fun g g1 g2 => ?_⟩, rfl, rfl⟩
  · have : g < 2 := gn
    omega
  · have h2 : 2 ≤ g := hg
    exact decide_eq_false (by omega)
  · have h2 : g < 2 := hg
    rcases (show g = 0 ∨ g = 1 by omega) with h | h <;> subst h <;> rfl
  · have h2 : g < 2 := hg
    rw [vl, cv_src rfl]
    rcases (show g = 0 ∨ g = 1 by omega) with h | h <;> subst h <;> rfl
  · have h2 : 2 ≤ g := g1
    show up (fun _ => 0) 1 1 g = 0
    exact up_n _ _ (by omega)
end
section
/-! arrays of references; the list of vectors -/
abbrev er (Z : Zt) (a n : Nat) (f : Nat → Option Nat) : Nat × va_E := (a, .inl (Z.2.2.2.2.1, n, .inr (.inr (.inr (.inr f)))))
abbrev rE (Z : Zt) : Nat := Z.2.2.2.2.2.1
theorem same_mod {args : Array Value} {s : State} (hts : ∀ w ∈ TB, w.before args s = true) : ∀ x, s.fieldFound? "java/util/AbstractList" "modCount" "I" = some x → s.fieldFound? "java/util/ArrayList" "modCount" "I" = some x := fun x hx => by
  have h := hts _ tb_89
  cases hr : s.fieldFound? "java/util/ArrayList" "modCount" "I" with
  | none => simp [Cond.before, Cond.holds, Cond.value, hr] at h
  | some y =>
    obtain ⟨c, k, i, f⟩ := y
    exact (Cond.sameField_spec hr h).symm.trans hx
section Rr
variable {p : Program} {l : Launch} {e : Env} {R : Room} {s : State} {m : MethodId} {args : Array Value} {below : List Frame} {meth : Method} {c : Code} {H : Heap} {locs : List Loc} {cells slots : Nat} {Q : State → Prop}
variable {cc : ByteArray} {pc : Nat} {ls : Array Slot} {rest : List Value} {Z : Zt} {A : Nat → Prop} {a : Nat} {ws : va_W} {H0 : Heap} {own : String}
theorem r_lenr (hx : p.tables.exec = Jvm.exec) (hb : c.code = cc) (hK : zK Z s) {n : Nat} {f : Nat → Option Nat} (hat : zat Z (er Z a n f) H) (hdg : decode cc pc = .ok (.arraylength, 1))
    (kk : W p l e R s m args below meth c H locs cells slots Q (F0 m (pc + 1) ls (.int (nI n) :: rest))) : W p l e R s m args below meth c H locs cells slots Q (F0 m pc ls (.ref a :: rest)) :=
  va_alen (D := Z.1) (ws := [er Z a n f]) hx hb hK (zat_one hat) 0 3 rfl rfl rfl hdg kk
theorem r_aald (hx : p.tables.exec = Jvm.exec) (hb : c.code = cc) (hK : zK Z s) {n i y : Nat} {f : Nat → Option Nat} (hat : zat Z (er Z a n f) H) (hi : i < n) (hn : n < 2 ^ 31) (hf : f i = some y) (hdg : decode cc pc = .ok (.aaload, 1))
    (kk : W p l e R s m args below meth c H locs cells slots Q (F0 m (pc + 1) ls (.ref y :: rest))) : W p l e R s m args below meth c H locs cells slots Q (F0 m pc ls (.int (nI i) :: .ref a :: rest)) := by
  refine va_aldq (D := Z.1) (ws := [er Z a n f]) hx hb hK (zat_one hat) 0 3 rfl rfl (vp_in_nI hi hn) hdg ?_
  rw [nI_clamp (by omega), hf]
  exact kk
theorem vec_any (hK : zK Z s) (hGv : GSv Z s) {v : Nat} {fs : List Value} (hat : zat Z (eo v 2 fs) H) : va_Any "java/lang/Object" s H v := by
  refine va_rAny (ws := [eo v 2 fs]) (q0 := 0) (ci := 2) (r := (RX2, TX2, 2)) hK (zat_one hat) rfl rfl (fun comp c0 h1 h2 => ?_)
  obtain ⟨c1, t0, f1, f2, f3⟩ := Cond.castable_spec (va_Nw.use (A := #[]) rfl (hGv.1 (RX2, "java/lang/Object") (by simp [nw_cast])))
  cases h2.symm.trans f1
  cases h1.symm.trans f2
  exact f3
theorem r_aast (hx : p.tables.exec = Jvm.exec) (hb : c.code = cc) (hK : zK Z s) (hGv : GSv Z s) (hW : Wd Z A H0 ws H locs) (q0 : Nat) {n i v : Nat} {fs : List Value} {f : Nat → Option Nat} (he : ws[q0]? = some (er Z a n f)) (hat : zat Z (eo v 2 fs) H) (hi : i < n) (hn : n < 2 ^ 31) (hdg : decode cc pc = .ok (.aastore, 1))
    (kk : ∀ (H1 : Heap) (locs1 : List Loc), Wd Z A H0 (ws.set q0 (er Z a n (up f i (some v)))) H1 locs1 → W p l e R s m args below meth c H1 locs1 cells slots Q (F0 m (pc + 1) ls rest)) : W p l e R s m args below meth c H locs cells slots Q (F0 m pc ls (.ref v :: .int (nI i) :: .ref a :: rest)) := by
  refine va_astqM (D := Z.1) hx hb hK hW.1 hW.2.1 hW.2.2 q0 3 he rfl (vec_any hK hGv hat) (vp_in_nI hi hn) hdg (fun H1 L1 h1 h2 h3 => kk H1 L1 ?_)
  rw [nI_clamp (by omega)] at h1 h2
  exact ⟨h1, h2, h3⟩
theorem r_newr (hx : p.tables.exec = Jvm.exec) (hb : c.code = cc) (hts : ∀ w ∈ TB, w.before args s = true) (hown : s.vm.findClass own = some m.cls) (hK : zK Z s) (hGv : GSv Z s) (hW : Wd Z A H0 ws H locs) (hA : ∀ q, H0.size ≤ q → A q) {idx n : Nat} (h1 : Cond.classLink own idx "java/lang/Object" ∈ TB) (hn : n ≤ 1000000) (hcells : cells + 1 ≤ R.cells) (hslots : slots + n ≤ R.slots) (hdg : decode cc pc = .ok (.anewarray idx, 3))
    (kk : ∀ (q : Nat) (H1 : Heap), Wd Z A H0 (ws ++ [er Z q n (fun _ => none)]) H1 locs → W p l e R s m args below meth c H1 locs (cells + 1) (slots + n) Q (F0 m (pc + 3) ls (.ref q :: rest))) : W p l e R s m args below meth c H locs cells slots Q (F0 m pc ls (.int (nI n) :: rest)) := by
  refine va_newq (D := Z.1) hx hb hown (hts _ h1) hGv.2.2.2.2 hK hW.1 hW.2.1 hW.2.2 hA (nI_pos (by omega)) (nI_clamp (by omega)) (by omega) hcells hslots hdg (fun q cA H1 hK1 g1 g2 g3 => ?_)
  have hcA : cA = Z.2.2.2.2.1 := by
    obtain ⟨-, -, -, -, -, e1⟩ := (hK1.2 4 (cA, .object "java/lang/Object") rfl).2
    obtain ⟨-, -, -, -, -, e2⟩ := (hK.2 3 _ rfl).2
    exact Option.some.inj (e1.symm.trans e2)
  subst hcA
  exact kk q H1 ⟨g1, g2, g3⟩
theorem r_copyr (hx : p.tables.exec = Jvm.exec) (hb : c.code = cc) {nL : Nat} {lv : List (Nat × Value)} (hml : c.maxLocals = nL) (hl : lv_has ls nL lv) (hown : s.vm.findClass own = some m.cls) (hts : ∀ w ∈ TB, w.before args s = true) (hK : zK Z s) (hGv : GSv Z s) (hW : Wd Z A H0 ws H locs) {idx : Nat} (w1 : Cond.methodLink own idx arraycopyName ∈ TB) {a0 n0 n1 : Nat} {f g : Nat → Option Nat} (q0 q1 : Nat) (h0 : ws[q0]? = some (er Z a0 n0 f)) (he : ws[q1]? = some (er Z a n1 g)) {n : Nat} (h4 : n ≤ n0) (h5 : n ≤ n1) (hb0 : n0 < 2 ^ 31) (hel : ∀ i, i < n → ∀ y, f i = some y → ∃ fs, zat Z (eo y 2 fs) H) (hfr : 1 ≤ R.frames) (hlo : (rest.map fun v => v.category).sum + (nativeFrameWords "java/lang/System" "arraycopy" 5 + 11) ≤ R.locals) (hdg : decode cc pc = .ok (.invokestatic idx, 3))
    (kk : ∀ (H1 : Heap) (locs1 : List Loc), Wd Z A H0 (ws.set q1 (er Z a n1 (va_cpy f g 0 0 n))) H1 locs1 → W p l e R s m args below meth c H1 locs1 cells slots Q (F0 m (pc + 3) ls rest)) : W p l e R s m args below meth c H locs cells slots Q (F0 m pc ls (.int (nI n) :: .int (nI 0) :: .ref a :: .int (nI 0) :: .ref a0 :: rest)) := by
  have c0 : (nI 0).toNatClampNeg = 0 := by decide
  have c3 : (nI n).toNatClampNeg = n := nI_clamp (by omega)
  refine va_copyM (D := Z.1) hx hb (hml.trans hl.1.symm) hown (hts _ w1) (hts _ tb_245) (hts _ tb_244) (hts _ tb_System) hK hW.1 hW.2.1 hW.2.2 q0 q1 3 3 h0 he rfl rfl (by decide) (by decide) (nI_pos (by omega)) (by rw [c0, c3]; omega) (by rw [c0, c3]; omega) (fun i hi y hy => ?_) hfr hlo hdg (fun H1 L1 h1 h2 h3 => kk H1 L1 ?_)
  · rw [c3] at hi
    rw [c0, Nat.zero_add] at hy
    obtain ⟨fs, hfs⟩ := hel i hi y hy
    exact vec_any hK hGv hfs
  · rw [c0, c3] at h1 h2
    exact ⟨h1, h2, h3⟩
end Rr
end
section
set_option maxHeartbeats 4000000 in
set_option maxRecDepth 100000 in
theorem k_checkIndex3 (l : Launch) (Z : Zt) (i n : Nat) (h : i < n) (hn : n < 2 ^ 31) : MC l yJ3_checkIndex_8e157 cJ3_checkIndex_8e157 3 (some .int) 0 0 (0) (0) Z ([]) (fun _ => True) [.int (nI i), .int (nI n), .null] (fun v w1 => v = some (.int (nI i)) ∧ w1 = []) := by
  refine mc_of (by decide) (Nat.le_of_ble_eq_true rfl) (fun p e s m below meth c ls A hx hb hr hts hown hlk hml hin hK hG hW hA hAe hro hl R hRf hRc hRs hRl => ?_)
  have hl : lv_has ls 3 [(0, .int (nI i)), (1, .int (nI n)), (2, .null)] := hl
  refine lv_iload_n hx hb dJ3_checkIndex_8e157_0 rfl (lv_at hl 0 rfl) ?_
  refine n_zlt_f (tgt := 9) hx hb (by omega) dJ3_checkIndex_8e157_1 (by decide) ?_
  refine lv_iload_n hx hb dJ3_checkIndex_8e157_4 rfl (lv_at hl 0 rfl) ?_
  refine lv_iload_n hx hb dJ3_checkIndex_8e157_5 rfl (lv_at hl 1 rfl) ?_
  refine n_lt_t (tgt := 16) hx hb (by omega) (by omega) dJ3_checkIndex_8e157_6 (by decide) ?_
  refine lv_iload_n hx hb dJ3_checkIndex_8e157_16 rfl (lv_at hl 0 rfl) ?_
  exact e_int hx hb hr hlk hAe hW (by omega) (by omega) dJ3_checkIndex_8e157_17 ⟨rfl, rfl⟩
set_option maxHeartbeats 4000000 in
set_option maxRecDepth 100000 in
theorem k_checkIndex (l : Launch) (Z : Zt) (i n : Nat) (h : i < n) (hn : n < 2 ^ 31) : MC l yJ15_checkIndex_7cf53 cJ15_checkIndex_7cf53 2 (some .int) 1 40 (0) (0) Z ([]) (fun _ => True) [.int (nI i), .int (nI n)] (fun v w1 => v = some (.int (nI i)) ∧ w1 = []) := by
  refine mc_of (by decide) (Nat.le_of_ble_eq_true rfl) (fun p e s m below meth c ls A hx hb hr hts hown hlk hml hin hK hG hW hA hAe hro hl R hRf hRc hRs hRl => ?_)
  have hl : lv_has ls 2 [(0, .int (nI i)), (1, .int (nI n))] := hl
  refine lv_iload_n hx hb dJ15_checkIndex_7cf53_0 rfl (lv_at hl 0 rfl) ?_
  refine lv_iload_n hx hb dJ15_checkIndex_7cf53_1 rfl (lv_at hl 1 rfl) ?_
  refine lv_null hx hb dJ15_checkIndex_7cf53_2 ?_
  refine c_stat (As := [.int (nI i), .int (nI n), .null]) (rest := []) (wc := []) (wr := []) hx hb hml hown hts hK hG rfl hA hl (k_checkIndex3 l Z i n h hn) hW trivial tb_349 tb_350 tb_19 tb_351 (nA := 3) (by decide +kernel) rfl ⟨by omega, by omega⟩ ⟨by omega, by omega⟩ rfl (Nat.le_of_ble_eq_true rfl) dJ15_checkIndex_7cf53_3 (fun v w1 H1 L1 hp hW hzz hkk hdd => ?_)
  obtain ⟨rfl, rfl⟩ := hp
  clear hzz hkk hdd
  generalize H1 = H at hW  ⊢
  generalize L1 = locs at hW ⊢
  have hW : Wd Z A s.heap ([]) _ _ := hW
  refine W.eq (g2 := F0 m 6 ls [.int (nI i)]) rfl ?_
  exact e_int hx hb hr hlk hAe hW (by omega) (by omega) dJ15_checkIndex_7cf53_6 ⟨rfl, rfl⟩
set_option maxHeartbeats 4000000 in
set_option maxRecDepth 100000 in
theorem k_size (l : Launch) (Z : Zt) (hm : Nat) (mo : Int32) (qe n : Nat)  : MC l yJx4a65c_size_8abf5 cJx4a65c_size_8abf5 1 (some .int) 0 0 (0) (0) Z ([]) (fun H => zat Z (eo hm 5 [.int mo, .ref qe, .int (nI n)]) H) [.ref hm] (fun v w1 => v = some (.int (nI n)) ∧ w1 = []) := by
  refine mc_of (by decide) (Nat.le_of_ble_eq_true rfl) (fun p e s m below meth c ls A hx hb hr hts hown hlk hml hin hK hG hW hA hAe hro hl R hRf hRc hRs hRl => ?_)
  have hl : lv_has ls 1 [(0, .ref hm)] := hl
  refine lv_aload_n hx hb dJx4a65c_size_8abf5_0 rfl (lv_at hl 0 rfl) ?_
  refine r_get hx hb hts hown hK ((RO.nil hro).here hAe hW) rfl in_J 2 (by decide) tb_86 (fun _ h => h) rfl dJx4a65c_size_8abf5_1 ?_
  exact e_int hx hb hr hlk hAe hW (by omega) (by omega) dJx4a65c_size_8abf5_4 ⟨rfl, rfl⟩
set_option maxHeartbeats 4000000 in
set_option maxRecDepth 100000 in
theorem k_elementData (l : Launch) (Z : Zt) (hm : Nat) (mo : Int32) (qe n i ce y : Nat) (f : Nat → Option Nat) (hi : i < ce) (hce : ce < 2 ^ 31) (hf : f i = some y) : MC l yJx4a65c_elementData_915e3 cJx4a65c_elementData_915e3 2 (some (.object "java/lang/Object")) 0 0 (0) (0) Z ([]) (fun H => zat Z (eo hm 5 [.int mo, .ref qe, .int (nI n)]) H ∧ zat Z (er Z qe ce f) H) [.ref hm, .int (nI i)] (fun v w1 => v = some (.ref y) ∧ w1 = []) := by
  refine mc_of (by decide) (Nat.le_of_ble_eq_true rfl) (fun p e s m below meth c ls A hx hb hr hts hown hlk hml hin hK hG hW hA hAe hro hl R hRf hRc hRs hRl => ?_)
  have hl : lv_has ls 2 [(0, .ref hm), (1, .int (nI i))] := hl
  refine lv_aload_n hx hb dJx4a65c_elementData_915e3_0 rfl (lv_at hl 0 rfl) ?_
  refine r_get hx hb hts hown hK ((RO.nil hro.1).here hAe hW) rfl in_J 1 (by decide) tb_85 (fun _ h => h) rfl dJx4a65c_elementData_915e3_1 ?_
  refine lv_iload_n hx hb dJx4a65c_elementData_915e3_4 rfl (lv_at hl 1 rfl) ?_
  refine r_aald (i := i) (y := y) hx hb hK ((RO.nil hro.2).here hAe hW) (by omega) (by omega) hf dJx4a65c_elementData_915e3_5 ?_
  exact e_ref hx hb hr (Or.inl ⟨_, rfl⟩) hlk hAe hW (by omega) (by omega) dJx4a65c_elementData_915e3_6 ⟨rfl, rfl⟩
set_option maxHeartbeats 4000000 in
set_option maxRecDepth 100000 in
theorem k_get (l : Launch) (Z : Zt) (hm : Nat) (mo : Int32) (qe n i ce y : Nat) (f : Nat → Option Nat) (hi : i < n) (hnc : n ≤ ce) (hce : ce < 2 ^ 31) (hf : f i = some y) : MC l yJx4a65c_get_915e3 cJx4a65c_get_915e3 2 (some (.object "java/lang/Object")) 3 80 (0) (0) Z ([]) (fun H => zat Z (eo hm 5 [.int mo, .ref qe, .int (nI n)]) H ∧ zat Z (er Z qe ce f) H) [.ref hm, .int (nI i)] (fun v w1 => v = some (.ref y) ∧ w1 = []) := by
  refine mc_of (by decide) (Nat.le_of_ble_eq_true rfl) (fun p e s m below meth c ls A hx hb hr hts hown hlk hml hin hK hG hW hA hAe hro hl R hRf hRc hRs hRl => ?_)
  have hl : lv_has ls 2 [(0, .ref hm), (1, .int (nI i))] := hl
  refine lv_iload_n hx hb dJx4a65c_get_915e3_0 rfl (lv_at hl 1 rfl) ?_
  refine lv_aload_n hx hb dJx4a65c_get_915e3_1 rfl (lv_at hl 0 rfl) ?_
  refine r_get hx hb hts hown hK ((RO.nil hro.1).here hAe hW) rfl in_J 2 (by decide) tb_86 (fun _ h => h) rfl dJx4a65c_get_915e3_2 ?_
  refine c_stat (As := [.int (nI i), .int (nI n)]) (rest := []) (wc := []) (wr := []) hx hb hml hown hts hK hG rfl hA hl (k_checkIndex l Z i n hi (by omega)) hW trivial tb_346 tb_347 tb_18 tb_348 (nA := 2) (by decide +kernel) rfl ⟨by omega, by omega⟩ ⟨by omega, by omega⟩ rfl (Nat.le_of_ble_eq_true rfl) dJx4a65c_get_915e3_5 (fun v w1 H1 L1 hp hW hzz hkk hdd => ?_)
  obtain ⟨rfl, rfl⟩ := hp
  clear hzz hkk hdd
  generalize H1 = H at hW  ⊢
  generalize L1 = locs at hW ⊢
  have hW : Wd Z A s.heap ([]) _ _ := hW
  refine W.eq (g2 := F0 m 8 ls [.int (nI i)]) rfl ?_
  refine lv_pop hx hb dJx4a65c_get_915e3_8 rfl ?_
  refine lv_aload_n hx hb dJx4a65c_get_915e3_9 rfl (lv_at hl 0 rfl) ?_
  refine lv_iload_n hx hb dJx4a65c_get_915e3_10 rfl (lv_at hl 1 rfl) ?_
  refine c_virt (As := [.int (nI i)]) (rest := []) (wc := []) (wr := []) (nl := 0) hx hb hml hown hts hK hG rfl hA hl (k_elementData l Z hm mo qe n i ce y f (by omega) hce hf) hW ⟨((RO.nil hro.1).here hAe hW), ((RO.nil hro.2).here hAe hW)⟩ ((RO.nil hro.1).here hAe hW) rfl rfl tb_352 tb_353 tb_354 tb_6 tb_355 (nA := 1) (by decide +kernel) rfl ⟨by omega, by omega⟩ ⟨by omega, by omega⟩ rfl (Nat.le_of_ble_eq_true rfl) dJx4a65c_get_915e3_11 (fun v w1 H1 L1 hp hW hzz hkk hdd => ?_)
  obtain ⟨rfl, rfl⟩ := hp
  clear hzz hkk hdd
  generalize H1 = H at hW  ⊢
  generalize L1 = locs at hW ⊢
  have hW : Wd Z A s.heap ([]) _ _ := hW
  refine W.eq (g2 := F0 m 14 ls [.ref y]) rfl ?_
  exact e_ref hx hb hr (Or.inl ⟨_, rfl⟩) hlk hAe hW (by omega) (by omega) dJx4a65c_get_915e3_14 ⟨rfl, rfl⟩
set_option maxHeartbeats 4000000 in
set_option maxRecDepth 100000 in
theorem k_newLength (l : Launch) (Z : Zt) (a b g : Nat) (ha : 1 ≤ a) (hab : a + b < 1000000) (hac : a + g < 1000000) : MC l yJ8_newLength_cabcc cJ8_newLength_cabcc 4 (some .int) 1 40 (0) (0) Z ([]) (fun _ => True) [.int (nI a), .int (nI b), .int (nI g)] (fun v w1 => v = some (.int (nI (a + max b g))) ∧ w1 = []) := by
  refine mc_of (by decide) (Nat.le_of_ble_eq_true rfl) (fun p e s m below meth c ls A hx hb hr hts hown hlk hml hin hK hG hW hA hAe hro hl R hRf hRc hRs hRl => ?_)
  have hl : lv_has ls 4 [(0, .int (nI a)), (1, .int (nI b)), (2, .int (nI g))] := hl
  refine lv_iload_n hx hb dJ8_newLength_cabcc_0 rfl (lv_at hl 0 rfl) ?_
  refine lv_iload_n hx hb dJ8_newLength_cabcc_1 rfl (lv_at hl 1 rfl) ?_
  refine lv_iload_n hx hb dJ8_newLength_cabcc_2 rfl (lv_at hl 2 rfl) ?_
  refine n_max hx hb hml hl hown hts tb_284 (by omega) (by rw [hRl]; exact Nat.le_of_ble_eq_true rfl) (by omega) (by omega) (x := b) (y := g) (by omega) (by omega) dJ8_newLength_cabcc_3 ?_
  refine n_iadd hx hb dJ8_newLength_cabcc_6 ?_
  refine lv_istore_n (lv' := [(3, .int (nI (a + (max b g)))), (0, .int (nI a)), (1, .int (nI b)), (2, .int (nI g))]) hx hb dJ8_newLength_cabcc_7 rfl hl (by decide) rfl (fun ls hl => ?_)
  refine lv_iconst (v := nI 0) hx hb dJ8_newLength_cabcc_8 (by decide) ?_
  refine lv_iload_n hx hb dJ8_newLength_cabcc_9 rfl (lv_at hl 0 rfl) ?_
  refine n_ge_f (tgt := 21) hx hb (by omega) (by omega) dJ8_newLength_cabcc_10 (by decide) ?_
  refine lv_iload_n hx hb dJ8_newLength_cabcc_13 rfl (lv_at hl 0 rfl) ?_
  refine lv_ldc (v := nI 2147483639) hx hb hown (hts _ tb_287) dJ8_newLength_cabcc_14 ?_
  refine n_gt_f (tgt := 21) hx hb (by omega) (by omega) dJ8_newLength_cabcc_16 (by decide) ?_
  refine lv_iload_n hx hb dJ8_newLength_cabcc_19 rfl (lv_at hl 0 rfl) ?_
  exact e_int hx hb hr hlk hAe hW (by omega) (by omega) dJ8_newLength_cabcc_20 ⟨rfl, rfl⟩
theorem old_any {Z : Zt} {A : Nat → Prop} {H0 H : Heap} {a n : Nat} {f : Nat → Option Nat} {ws : va_W} {locs : List Loc} (hAe : A = va_A [er Z a n f] H0.size) (hW : Wd Z A H0 ws H locs) (h : ∀ i, i < n → ∀ y, f i = some y → ∃ fs, zat Z (eo y 2 fs) H0 ∧ y ≠ a) : ∀ i, i < n → ∀ y, f i = some y → ∃ fs, zat Z (eo y 2 fs) H := by
  intro i hi y hy
  obtain ⟨fs, h1, h2⟩ := h i hi y hy
  refine ⟨fs, hW.old h1 (fun g => ?_)⟩
  rw [hAe] at g
  rcases g with ⟨k, e, g⟩ | g
  · have hz : k < 1 := (List.getElem?_eq_some_iff.mp g).1
    rw [show k = 0 by omega] at g
    cases g
    exact h2 rfl
  · have := h1.lt
    have h3 : H0.size ≤ y := g
    have h4 : y < H0.size := this
    omega
set_option maxHeartbeats 4000000 in
set_option maxRecDepth 100000 in
theorem k_copyOfO2 (l : Launch) (Z : Zt) (a n k : Nat) (f : Nat → Option Nat) (hn : n ≤ k) (hk : k ≤ 100000) : MC l yJ7_copyOf_6403c cJ7_copyOf_6403c 4 (some (.array (.object "java/lang/Object"))) 2 80 (1) (k) Z ([er Z a n f]) (fun H => ∀ i, i < n → ∀ y, f i = some y → ∃ fs, zat Z (eo y 2 fs) H ∧ y ≠ a) [.ref a, .int (nI k), .ref Z.2.2.2.2.2.2] (fun v w1 => ∃ q : Nat, v = some (.ref q) ∧ w1 = [er Z a n f, er Z q k (va_cpy f (fun _ => none) 0 0 n)]) := by
  refine mc_of (by decide) (Nat.le_of_ble_eq_true rfl) (fun p e s m below meth c ls A hx hb hr hts hown hlk hml hin hK hG hW hA hAe hro hl R hRf hRc hRs hRl => ?_)
  have hl : lv_has ls 4 [(0, .ref a), (1, .int (nI k)), (2, .ref Z.2.2.2.2.2.2)] := hl
  refine lv_aload_n hx hb dJ7_copyOf_6403c_0 rfl (lv_at hl 2 rfl) ?_
  refine va_ldcM hx hb hown (hts _ tb_311) hG.1.2.2.1 dJ7_copyOf_6403c_1 ?_
  refine lv_acmp_ne (rx := some Z.2.2.2.2.2.2) (ry := some Z.2.2.2.2.2.2) (tgt := 13) hx hb dJ7_copyOf_6403c_3 (by decide) (fun q => absurd rfl q) (fun _ => ?_)
  refine lv_iload_n hx hb dJ7_copyOf_6403c_6 rfl (lv_at hl 1 rfl) ?_
  refine r_newr (n := k) hx hb hts hown hK hG.1 hW hA tb_313 (by omega) (by omega) (by omega) dJ7_copyOf_6403c_7 (fun q H hW => ?_)
  have hW : Wd Z A s.heap ([er Z a n f, er Z q k (fun _ => none)]) _ _ := hW
  refine lv_goto (tgt := 24) hx hb dJ7_copyOf_6403c_10 (by decide) ?_
  refine lv_astore_n (lv' := [(3, .ref q), (0, .ref a), (1, .int (nI k)), (2, .ref Z.2.2.2.2.2.2)]) hx hb dJ7_copyOf_6403c_24 rfl hl (by decide) rfl (fun ls hl => ?_)
  refine lv_aload_n hx hb dJ7_copyOf_6403c_25 rfl (lv_at hl 1 rfl) ?_
  refine lv_iconst (v := nI 0) hx hb dJ7_copyOf_6403c_26 (by decide) ?_
  refine lv_aload_n hx hb dJ7_copyOf_6403c_27 rfl (lv_at hl 0 rfl) ?_
  refine lv_iconst (v := nI 0) hx hb dJ7_copyOf_6403c_28 (by decide) ?_
  refine lv_aload_n hx hb dJ7_copyOf_6403c_29 rfl (lv_at hl 1 rfl) ?_
  refine r_lenr hx hb hK (hW.at 0 rfl) dJ7_copyOf_6403c_30 ?_
  refine lv_iload_n hx hb dJ7_copyOf_6403c_31 rfl (lv_at hl 2 rfl) ?_
  refine n_min hx hb hml hl hown hts tb_240 (by omega) (by rw [hRl]; exact Nat.le_of_ble_eq_true rfl) (by omega) (by omega) (x := n) (y := k) (by omega) (by omega) dJ7_copyOf_6403c_32 ?_
  rw [Nat.min_eq_left hn]
  refine r_copyr hx hb hml hl hown hts hK hG.1 hW tb_243 (n := n) 0 1 rfl rfl (Nat.le_refl _) hn (by omega) (old_any hAe hW hro) (by omega) (by rw [hRl]; exact Nat.le_of_ble_eq_true rfl) dJ7_copyOf_6403c_35 (fun H locs hW => ?_)
  have hW : Wd Z A s.heap ([er Z a n f, er Z q k (va_cpy f (fun _ => none) 0 0 n)]) _ _ := hW
  refine lv_aload_n hx hb dJ7_copyOf_6403c_38 rfl (lv_at hl 0 rfl) ?_
  exact e_ref hx hb hr (Or.inr ⟨_, rfl⟩) hlk hAe hW (by omega) (by omega) dJ7_copyOf_6403c_39 ⟨q, rfl, rfl⟩
set_option maxHeartbeats 4000000 in
set_option maxRecDepth 100000 in
theorem k_copyOfO (l : Launch) (Z : Zt) (a n k : Nat) (f : Nat → Option Nat) (hn : n ≤ k) (hk : k ≤ 100000) : MC l yJ7_copyOf_1904c cJ7_copyOf_1904c 2 (some (.array (.object "java/lang/Object"))) 3 120 (1) (k) Z ([er Z a n f]) (fun H => ∀ i, i < n → ∀ y, f i = some y → ∃ fs, zat Z (eo y 2 fs) H ∧ y ≠ a) [.ref a, .int (nI k)] (fun v w1 => ∃ q : Nat, v = some (.ref q) ∧ w1 = [er Z a n f, er Z q k (va_cpy f (fun _ => none) 0 0 n)]) := by
  refine mc_of (by decide) (Nat.le_of_ble_eq_true rfl) (fun p e s m below meth c ls A hx hb hr hts hown hlk hml hin hK hG hW hA hAe hro hl R hRf hRc hRs hRl => ?_)
  have hl : lv_has ls 2 [(0, .ref a), (1, .int (nI k))] := hl
  have hW : Wd Z A s.heap ([er Z a n f] ++ []) _ _ := hW
  refine lv_aload_n hx hb dJ7_copyOf_1904c_0 rfl (lv_at hl 0 rfl) ?_
  refine lv_iload_n hx hb dJ7_copyOf_1904c_1 rfl (lv_at hl 1 rfl) ?_
  refine lv_aload_n hx hb dJ7_copyOf_1904c_2 rfl (lv_at hl 0 rfl) ?_
  have hrec : ∃ cell : Cell, s.heap[a]? = some cell ∧ cell.vm.isStatics = false ∧ s.vm.findClass "[Ljava/lang/Object;" = some cell.cls := ⟨_, hW.1 0 _ rfl, rfl, va_nmO (hK.2 3 _ rfl).2 (by decide +kernel)⟩
  refine va_getC hx hb (hml.trans hl.1.symm) hown (hts _ tb_294) (va_Nw.use rfl (hG.1.2.1 ⟨"java/lang/Object", "getClass", "()Ljava/lang/Class;"⟩ (by simp [nw_decl]))) (hts _ tb_930) (hts _ tb_295) (hts _ tb_307) hG.1.2.2.1 hrec (by omega) (by rw [hRl]; exact Nat.le_of_ble_eq_true rfl) dJ7_copyOf_1904c_3 ?_
  refine c_stat (As := [.ref a, .int (nI k), .ref Z.2.2.2.2.2.2]) (rest := []) (wc := [er Z a n f]) (wr := []) hx hb hml hown hts hK hG rfl hA hl (k_copyOfO2 l Z a n k f hn hk) hW hro tb_308 tb_309 tb_13 tb_310 (nA := 3) (by decide +kernel) rfl ⟨by omega, by omega⟩ ⟨by omega, by omega⟩ rfl (Nat.le_of_ble_eq_true rfl) dJ7_copyOf_1904c_6 (fun v w1 H1 L1 hp hW hzz hkk hdd => ?_)
  obtain ⟨q, rfl, rfl⟩ := hp
  clear hzz hkk hdd
  generalize H1 = H at hW  ⊢
  generalize L1 = locs at hW ⊢
  have hW : Wd Z A s.heap ([er Z a n f, er Z q k (va_cpy f (fun _ => none) 0 0 n)]) _ _ := hW
  refine W.eq (g2 := F0 m 9 ls [.ref q]) rfl ?_
  exact e_ref hx hb hr (Or.inr ⟨_, rfl⟩) hlk hAe hW (by omega) (by omega) dJ7_copyOf_1904c_9 ⟨q, rfl, rfl⟩
end
section
/-- the list's cells: none: it has never held anything -/
abbrev lsq (Z : Zt) (o : Option (Nat × Nat × (Nat → Option Nat))) : Nat := match o with
  | none => rE Z
  | some a => a.1
abbrev lsr (Z : Zt) (o : Option (Nat × Nat × (Nat → Option Nat))) : va_W := match o with
  | none => []
  | some a => [er Z a.1 a.2.1 a.2.2]
abbrev lst (Z : Zt) (hm : Nat) (mo : Int32) (n : Nat) (o : Option (Nat × Nat × (Nat → Option Nat))) : va_W := eo hm 5 [.int mo, .ref (lsq Z o), .int (nI n)] :: lsr Z o
def lok (n : Nat) (o : Option (Nat × Nat × (Nat → Option Nat))) (vd : Nat → Nat) : Prop := n ≤ 512 ∧ match o with
  | none => n = 0
  | some a => n ≤ a.2.1 ∧ a.2.1 ≤ 768 ∧ 10 ≤ a.2.1 ∧ (∀ i, i < n → a.2.2 i = some (vd i)) ∧ ∀ i, n ≤ i → a.2.2 i = none
theorem Wd.nil {Z : Zt} {A : Nat → Prop} {H0 H : Heap} {ws : va_W} {locs : List Loc} (h : Wd Z A H0 ws H locs) : Wd Z A H0 (ws ++ []) H locs := by rw [List.append_nil]; exact h
theorem Wd.unnil {Z : Zt} {A : Nat → Prop} {H0 H : Heap} {ws : va_W} {locs : List Loc} (h : Wd Z A H0 (ws ++ []) H locs) : Wd Z A H0 ws H locs := by rw [List.append_nil] at h; exact h
theorem zat_E {Z : Zt} {A : Nat → Prop} {s : State} (h : GS Z A s s.heap) : ¬ A (rE Z) := h.2.2.1.out
set_option maxHeartbeats 4000000 in
set_option maxRecDepth 100000 in
theorem k_growF (l : Launch) (Z : Zt) (hm : Nat) (mo : Int32)  : MC l yJx4a65c_grow_92f84 cJx4a65c_grow_92f84 4 (some (.array (.object "java/lang/Object"))) 2 80 (1) (10) Z ([eo hm 5 [.int mo, .ref (rE Z), .int (nI 0)]]) (fun _ => True) [.ref hm, .int (nI 1)] (fun v w1 => ∃ q : Nat, v = some (.ref q) ∧ w1 = [eo hm 5 [.int mo, .ref q, .int (nI 0)], er Z q 10 (fun _ => none)]) := by
  refine mc_of (by decide) (Nat.le_of_ble_eq_true rfl) (fun p e s m below meth c ls A hx hb hr hts hown hlk hml hin hK hG hW hA hAe hro hl R hRf hRc hRs hRl => ?_)
  have hl : lv_has ls 4 [(0, .ref hm), (1, .int (nI 1))] := hl
  refine lv_aload_n hx hb dJx4a65c_grow_92f84_0 rfl (lv_at hl 0 rfl) ?_
  refine r_get hx hb hts hown hK (hW.at 0 rfl) rfl in_J 1 (by decide) tb_85 (fun _ h => h) rfl dJx4a65c_grow_92f84_1 ?_
  refine va_tlen hx hb hG.2.2.1 hW.2.2 (v := nI 0) (by decide) dJx4a65c_grow_92f84_4 ?_
  refine lv_istore_n (lv' := [(2, .int (nI 0)), (0, .ref hm), (1, .int (nI 1))]) hx hb dJx4a65c_grow_92f84_5 rfl hl (by decide) rfl (fun ls hl => ?_)
  refine lv_iload_n hx hb dJx4a65c_grow_92f84_6 rfl (lv_at hl 0 rfl) ?_
  refine n_zgt_f (tgt := 20) hx hb (by omega) (by omega) dJx4a65c_grow_92f84_7 (by decide) ?_
  refine lv_aload_n hx hb dJx4a65c_grow_92f84_10 rfl (lv_at hl 1 rfl) ?_
  refine r_get hx hb hts hown hK (hW.at 0 rfl) rfl in_J 1 (by decide) tb_85 (fun _ h => h) rfl dJx4a65c_grow_92f84_11 ?_
  refine va_gets hx hb hG.2.1 hW.2.2 hown (hts _ tb_83) (fun _ h => h) dJx4a65c_grow_92f84_14 ?_
  refine lv_acmp_eq (rx := some (rE Z)) (ry := some (rE Z)) (tgt := 45) hx hb dJx4a65c_grow_92f84_17 (by decide) (fun _ => ?_) (fun q => absurd rfl q)
  refine lv_aload_n hx hb dJx4a65c_grow_92f84_45 rfl (lv_at hl 1 rfl) ?_
  refine lv_bipush (v := nI 10) hx hb dJx4a65c_grow_92f84_46 (by decide) ?_
  refine lv_iload_n hx hb dJx4a65c_grow_92f84_48 rfl (lv_at hl 2 rfl) ?_
  refine n_max hx hb hml hl hown hts tb_314 (by omega) (by rw [hRl]; exact Nat.le_of_ble_eq_true rfl) (by omega) (by omega) (x := 10) (y := 1) (by omega) (by omega) dJx4a65c_grow_92f84_49 ?_
  rw [show max 10 1 = 10 by decide]
  refine r_newr (n := 10) hx hb hts hown hK hG.1 hW hA tb_315 (by omega) (by omega) (by omega) dJx4a65c_grow_92f84_52 (fun q H hW => ?_)
  have hW : Wd Z A s.heap ([eo hm 5 [.int mo, .ref (rE Z), .int (nI 0)], er Z q 10 (fun _ => none)]) _ _ := hW
  refine lv_dup_x1 hx hb dJx4a65c_grow_92f84_55 rfl rfl ?_
  refine r_put hx hb hts hown hK hW 0 (v := .ref q) rfl rfl in_J tyJx4a65c tyJx4a65c_ok nmJx4a65c 1 (by decide) tb_85 (fun _ h => h) rfl rfl rfl (Nat.le_of_ble_eq_true rfl) dJx4a65c_grow_92f84_56 (fun H locs hW => ?_)
  have hW : Wd Z A s.heap ([eo hm 5 [.int mo, .ref q, .int (nI 0)], er Z q 10 (fun _ => none)]) _ _ := hW
  exact e_ref hx hb hr (Or.inr ⟨_, rfl⟩) hlk hAe hW (by omega) (by omega) dJx4a65c_grow_92f84_59 ⟨q, rfl, rfl⟩
set_option maxHeartbeats 4000000 in
set_option maxRecDepth 100000 in
theorem k_grow0F (l : Launch) (Z : Zt) (hm : Nat) (mo : Int32)  : MC l yJx4a65c_grow_d5877 cJx4a65c_grow_d5877 1 (some (.array (.object "java/lang/Object"))) 3 120 (1) (10) Z ([eo hm 5 [.int mo, .ref (rE Z), .int (nI 0)]]) (fun _ => True) [.ref hm] (fun v w1 => ∃ q : Nat, v = some (.ref q) ∧ w1 = [eo hm 5 [.int mo, .ref q, .int (nI 0)], er Z q 10 (fun _ => none)]) := by
  refine mc_of (by decide) (Nat.le_of_ble_eq_true rfl) (fun p e s m below meth c ls A hx hb hr hts hown hlk hml hin hK hG hW hA hAe hro hl R hRf hRc hRs hRl => ?_)
  have hl : lv_has ls 1 [(0, .ref hm)] := hl
  have hW : Wd Z A s.heap ([eo hm 5 [.int mo, .ref (rE Z), .int (nI 0)]] ++ []) _ _ := hW
  refine lv_aload_n hx hb dJx4a65c_grow_d5877_0 rfl (lv_at hl 0 rfl) ?_
  refine lv_aload_n hx hb dJx4a65c_grow_d5877_1 rfl (lv_at hl 0 rfl) ?_
  refine r_get hx hb hts hown hK (hW.at 0 rfl) rfl in_J 2 (by decide) tb_86 (fun _ h => h) rfl dJx4a65c_grow_d5877_2 ?_
  refine lv_iconst (v := nI 1) hx hb dJx4a65c_grow_d5877_5 (by decide) ?_
  refine n_iadd hx hb dJx4a65c_grow_d5877_6 ?_
  rw [show 0 + 1 = 1 from rfl]
  refine c_virt (As := [.int (nI 1)]) (rest := []) (wc := [eo hm 5 [.int mo, .ref (rE Z), .int (nI 0)]]) (wr := []) (nl := 0) hx hb hml hown hts hK hG rfl hA hl (k_growF l Z hm mo) hW trivial (hW.at 0 rfl) rfl rfl tb_277 tb_279 ts_5 tb_6 tb_280 (nA := 1) (by decide +kernel) rfl ⟨by omega, by omega⟩ ⟨by omega, by omega⟩ rfl (Nat.le_of_ble_eq_true rfl) dJx4a65c_grow_d5877_7 (fun v w1 H1 L1 hp hW hzz hkk hdd => ?_)
  obtain ⟨q, rfl, rfl⟩ := hp
  clear hzz hkk hdd
  generalize H1 = H at hW  ⊢
  generalize L1 = locs at hW ⊢
  have hW : Wd Z A s.heap ([eo hm 5 [.int mo, .ref q, .int (nI 0)], er Z q 10 (fun _ => none)]) _ _ := hW
  refine W.eq (g2 := F0 m 10 ls [.ref q]) rfl ?_
  exact e_ref hx hb hr (Or.inr ⟨_, rfl⟩) hlk hAe hW (by omega) (by omega) dJx4a65c_grow_d5877_10 ⟨q, rfl, rfl⟩
set_option maxHeartbeats 4000000 in
set_option maxRecDepth 100000 in
theorem k_growN (l : Launch) (Z : Zt) (hm : Nat) (mo : Int32) (qe n : Nat) (f : Nat → Option Nat) (h10 : 10 ≤ n) (hn : n ≤ 10000) : MC l yJx4a65c_grow_92f84 cJx4a65c_grow_92f84 4 (some (.array (.object "java/lang/Object"))) 5 200 (1) (n + n / 2) Z ([eo hm 5 [.int mo, .ref qe, .int (nI n)], er Z qe n f]) (fun H => ∀ i, i < n → ∀ y, f i = some y → ∃ fs, RO Z ([eo hm 5 [.int mo, .ref qe, .int (nI n)], er Z qe n f]) (eo y 2 fs) H) [.ref hm, .int (nI (n + 1))] (fun v w1 => ∃ q : Nat, v = some (.ref q) ∧ w1 = [eo hm 5 [.int mo, .ref q, .int (nI n)], er Z q (n + n / 2) (va_cpy f (fun _ => none) 0 0 n)]) := by
  refine mc_of (by decide) (Nat.le_of_ble_eq_true rfl) (fun p e s m below meth c ls A hx hb hr hts hown hlk hml hin hK hG hW hA hAe hro hl R hRf hRc hRs hRl => ?_)
  have hl : lv_has ls 4 [(0, .ref hm), (1, .int (nI (n + 1)))] := hl
  refine lv_aload_n hx hb dJx4a65c_grow_92f84_0 rfl (lv_at hl 0 rfl) ?_
  refine r_get hx hb hts hown hK (hW.at 0 rfl) rfl in_J 1 (by decide) tb_85 (fun _ h => h) rfl dJx4a65c_grow_92f84_1 ?_
  refine r_lenr hx hb hK (hW.at 1 rfl) dJx4a65c_grow_92f84_4 ?_
  refine lv_istore_n (lv' := [(2, .int (nI n)), (0, .ref hm), (1, .int (nI (n + 1)))]) hx hb dJx4a65c_grow_92f84_5 rfl hl (by decide) rfl (fun ls hl => ?_)
  refine lv_iload_n hx hb dJx4a65c_grow_92f84_6 rfl (lv_at hl 0 rfl) ?_
  refine n_zgt_t (tgt := 20) hx hb (by omega) (by omega) dJx4a65c_grow_92f84_7 (by decide) ?_
  refine lv_iload_n hx hb dJx4a65c_grow_92f84_20 rfl (lv_at hl 0 rfl) ?_
  refine lv_iload_n hx hb dJx4a65c_grow_92f84_21 rfl (lv_at hl 2 rfl) ?_
  refine lv_iload_n hx hb dJx4a65c_grow_92f84_22 rfl (lv_at hl 0 rfl) ?_
  refine n_isub hx hb (by omega) dJx4a65c_grow_92f84_23 ?_
  rw [show n + 1 - n = 1 by omega]
  refine lv_iload_n hx hb dJx4a65c_grow_92f84_24 rfl (lv_at hl 0 rfl) ?_
  refine lv_iconst (v := nI 1) hx hb dJx4a65c_grow_92f84_25 (by decide) ?_
  refine lv_ishr hx hb dJx4a65c_grow_92f84_26 ?_
  refine n_eqv (y := nI (n / 2)) (by have k := pk_shrN (n := n) (by omega) ((1 : Int32) &&& 31) 1 (by decide); rw [Nat.pow_one] at k; exact k) ?_
  refine c_stat (As := [.int (nI n), .int (nI 1), .int (nI (n / 2))]) (rest := []) (wc := []) (wr := [eo hm 5 [.int mo, .ref qe, .int (nI n)], er Z qe n f]) hx hb hml hown hts hK hG rfl hA hl (k_newLength l Z n 1 (n / 2) (by omega) (by omega) (by omega)) hW trivial tb_281 tb_282 tb_17 tb_283 (nA := 3) (by decide +kernel) rfl ⟨by omega, by omega⟩ ⟨by omega, by omega⟩ rfl (Nat.le_of_ble_eq_true rfl) dJx4a65c_grow_92f84_27 (fun v w1 H1 L1 hp hW hzz hkk hdd => ?_)
  obtain ⟨rfl, rfl⟩ := hp
  clear hzz hkk hdd
  generalize H1 = H at hW  ⊢
  generalize L1 = locs at hW ⊢
  have hW : Wd Z A s.heap ([eo hm 5 [.int mo, .ref qe, .int (nI n)], er Z qe n f]) _ _ := hW
  refine W.eq (g2 := F0 m 30 ls [.int (nI (n + max 1 (n / 2)))]) rfl ?_
  rw [show n + max 1 (n / 2) = n + n / 2 by omega]
  refine lv_istore_n (lv' := [(3, .int (nI (n + n / 2))), (2, .int (nI n)), (0, .ref hm), (1, .int (nI (n + 1)))]) hx hb dJx4a65c_grow_92f84_30 rfl hl (by decide) rfl (fun ls hl => ?_)
  refine lv_aload_n hx hb dJx4a65c_grow_92f84_31 rfl (lv_at hl 2 rfl) ?_
  refine lv_aload_n hx hb dJx4a65c_grow_92f84_32 rfl (lv_at hl 2 rfl) ?_
  refine r_get hx hb hts hown hK (hW.at 0 rfl) rfl in_J 1 (by decide) tb_85 (fun _ h => h) rfl dJx4a65c_grow_92f84_33 ?_
  refine lv_iload_n hx hb dJx4a65c_grow_92f84_36 rfl (lv_at hl 0 rfl) ?_
  have hW : Wd Z A s.heap ([er Z qe n f, eo hm 5 [.int mo, .ref qe, .int (nI n)]]) _ _ := hW.sub [1, 0] (by decide) rfl
  have hel : ∀ i, i < n → ∀ y, f i = some y → ∃ fs, zat Z (eo y 2 fs) _ ∧ y ≠ qe := fun i hi y hy => by
    obtain ⟨fs, h1⟩ := hro i hi y hy
    exact ⟨fs, h1.here hAe hW, fun e => h1.2 (Or.inl ⟨1, (er Z qe n f).2, by rw [e]; rfl⟩)⟩
  refine c_stat (As := [.ref qe, .int (nI (n + n / 2))]) (rest := [.ref hm]) (wc := [er Z qe n f]) (wr := [eo hm 5 [.int mo, .ref qe, .int (nI n)]]) hx hb hml hown hts hK hG rfl hA hl (k_copyOfO l Z qe n (n + n / 2) f (by omega) (by omega)) hW hel tb_291 tb_292 tb_13 tb_293 (nA := 2) (by decide +kernel) rfl ⟨by omega, by omega⟩ ⟨by omega, by omega⟩ rfl (Nat.le_of_ble_eq_true rfl) dJx4a65c_grow_92f84_37 (fun v w1 H1 L1 hp hW hzz hkk hdd => ?_)
  obtain ⟨q, rfl, rfl⟩ := hp
  clear hzz hkk hdd
  generalize H1 = H at hW  ⊢
  generalize L1 = locs at hW ⊢
  have hW : Wd Z A s.heap ([er Z qe n f, er Z q (n + n / 2) (va_cpy f (fun _ => none) 0 0 n), eo hm 5 [.int mo, .ref qe, .int (nI n)]]) _ _ := hW
  refine W.eq (g2 := F0 m 40 ls [.ref q, .ref hm]) rfl ?_
  refine lv_dup_x1 hx hb dJx4a65c_grow_92f84_40 rfl rfl ?_
  refine r_put hx hb hts hown hK hW 2 (v := .ref q) rfl rfl in_J tyJx4a65c tyJx4a65c_ok nmJx4a65c 1 (by decide) tb_85 (fun _ h => h) rfl rfl rfl (Nat.le_of_ble_eq_true rfl) dJx4a65c_grow_92f84_41 (fun H locs hW => ?_)
  have hW : Wd Z A s.heap ([er Z qe n f, er Z q (n + n / 2) (va_cpy f (fun _ => none) 0 0 n), eo hm 5 [.int mo, .ref q, .int (nI n)]]) _ _ := hW
  have hW : Wd Z A s.heap [eo hm 5 [.int mo, .ref q, .int (nI n)], er Z q (n + n / 2) (va_cpy f (fun _ => none) 0 0 n)] _ _ := hW.sub [2, 1] (by decide) rfl
  exact e_ref hx hb hr (Or.inr ⟨_, rfl⟩) hlk hAe hW (by omega) (by omega) dJx4a65c_grow_92f84_44 ⟨q, rfl, rfl⟩
set_option maxHeartbeats 4000000 in
set_option maxRecDepth 100000 in
theorem k_grow0N (l : Launch) (Z : Zt) (hm : Nat) (mo : Int32) (qe n : Nat) (f : Nat → Option Nat) (h10 : 10 ≤ n) (hn : n ≤ 10000) : MC l yJx4a65c_grow_d5877 cJx4a65c_grow_d5877 1 (some (.array (.object "java/lang/Object"))) 6 240 (1) (n + n / 2) Z ([eo hm 5 [.int mo, .ref qe, .int (nI n)], er Z qe n f]) (fun H => ∀ i, i < n → ∀ y, f i = some y → ∃ fs, RO Z ([eo hm 5 [.int mo, .ref qe, .int (nI n)], er Z qe n f]) (eo y 2 fs) H) [.ref hm] (fun v w1 => ∃ q : Nat, v = some (.ref q) ∧ w1 = [eo hm 5 [.int mo, .ref q, .int (nI n)], er Z q (n + n / 2) (va_cpy f (fun _ => none) 0 0 n)]) := by
  refine mc_of (by decide) (Nat.le_of_ble_eq_true rfl) (fun p e s m below meth c ls A hx hb hr hts hown hlk hml hin hK hG hW hA hAe hro hl R hRf hRc hRs hRl => ?_)
  have hl : lv_has ls 1 [(0, .ref hm)] := hl
  have hW : Wd Z A s.heap ([eo hm 5 [.int mo, .ref qe, .int (nI n)], er Z qe n f] ++ []) _ _ := hW
  refine lv_aload_n hx hb dJx4a65c_grow_d5877_0 rfl (lv_at hl 0 rfl) ?_
  refine lv_aload_n hx hb dJx4a65c_grow_d5877_1 rfl (lv_at hl 0 rfl) ?_
  refine r_get hx hb hts hown hK (hW.at 0 rfl) rfl in_J 2 (by decide) tb_86 (fun _ h => h) rfl dJx4a65c_grow_d5877_2 ?_
  refine lv_iconst (v := nI 1) hx hb dJx4a65c_grow_d5877_5 (by decide) ?_
  refine n_iadd hx hb dJx4a65c_grow_d5877_6 ?_
  refine c_virt (As := [.int (nI (n + 1))]) (rest := []) (wc := [eo hm 5 [.int mo, .ref qe, .int (nI n)], er Z qe n f]) (wr := []) (nl := 0) hx hb hml hown hts hK hG rfl hA hl (k_growN l Z hm mo qe n f h10 hn) hW hro (hW.at 0 rfl) rfl rfl tb_277 tb_279 ts_5 tb_6 tb_280 (nA := 1) (by decide +kernel) rfl ⟨by omega, by omega⟩ ⟨by omega, by omega⟩ rfl (Nat.le_of_ble_eq_true rfl) dJx4a65c_grow_d5877_7 (fun v w1 H1 L1 hp hW hzz hkk hdd => ?_)
  obtain ⟨q, rfl, rfl⟩ := hp
  clear hzz hkk hdd
  generalize H1 = H at hW  ⊢
  generalize L1 = locs at hW ⊢
  have hW : Wd Z A s.heap ([eo hm 5 [.int mo, .ref q, .int (nI n)], er Z q (n + n / 2) (va_cpy f (fun _ => none) 0 0 n)]) _ _ := hW
  refine W.eq (g2 := F0 m 10 ls [.ref q]) rfl ?_
  exact e_ref hx hb hr (Or.inr ⟨_, rfl⟩) hlk hAe hW (by omega) (by omega) dJx4a65c_grow_d5877_10 ⟨q, rfl, rfl⟩
/-- what a list has become behind add(v) -/
def addQ (n : Nat) (v : Nat) (vd : Nat → Nat) (o2 : Option (Nat × Nat × (Nat → Option Nat))) : Prop := lok (n + 1) o2 (up vd n v)
set_option maxHeartbeats 4000000 in
set_option maxRecDepth 100000 in
theorem k_add2 (l : Launch) (Z : Zt) (hm : Nat) (mo : Int32) (n v : Nat) (o : Option (Nat × Nat × (Nat → Option Nat))) (vd : Nat → Nat) (ho : lok n o vd) (hn5 : n < 512) : MC l yJx4a65c_add_72be8 cJx4a65c_add_72be8 4 none 7 280 (1) (768) Z (lst Z hm mo n o) (fun H => (∃ fs, RO Z (lst Z hm mo n o) (eo v 2 fs) H) ∧ ∀ i, i < n → ∃ fs, RO Z (lst Z hm mo n o) (eo (vd i) 2 fs) H) [.ref hm, .ref v, .ref (lsq Z o), .int (nI n)] (fun r w1 => ∃ o2, r = none ∧ w1 = lst Z hm mo (n + 1) o2 ∧ addQ n v vd o2) := by
  refine mc_of (by decide) (Nat.le_of_ble_eq_true rfl) (fun p e s m below meth c ls A hx hb hr hts hown hlk hml hin hK hG hW hA hAe hro hl R hRf hRc hRs hRl => ?_)
  have hl : lv_has ls 4 [(0, .ref hm), (1, .ref v), (2, .ref (lsq Z o)), (3, .int (nI n))] := hl
  obtain ⟨⟨fsv, hv⟩, hvs⟩ := hro
  cases o with
  | none =>
    have hn0 : n = 0 := ho.2
    subst hn0
    have hl : lv_has ls 4 [(0, .ref hm), (1, .ref v), (2, .ref (rE Z)), (3, .int (nI 0))] := hl
    have hW : Wd Z A s.heap ([eo hm 5 [.int mo, .ref (rE Z), .int (nI 0)]] ++ []) _ _ := hW
    refine lv_iload_n hx hb dJx4a65c_add_72be8_0 rfl (lv_at hl 3 rfl) ?_
    refine lv_aload_n hx hb dJx4a65c_add_72be8_1 rfl (lv_at hl 2 rfl) ?_
    refine va_tlen hx hb hG.2.2.1 hW.2.2 (v := nI 0) (by decide) dJx4a65c_add_72be8_2 ?_
    refine n_ne_f (tgt := 11) hx hb (by omega) dJx4a65c_add_72be8_3 (by decide) ?_
    refine lv_aload_n hx hb dJx4a65c_add_72be8_6 rfl (lv_at hl 0 rfl) ?_
    refine c_virt (As := []) (rest := []) (wc := [eo hm 5 [.int mo, .ref (rE Z), .int (nI 0)]]) (wr := []) (nl := 0) hx hb hml hown hts hK hG rfl hA hl (k_grow0F l Z hm mo) hW trivial (hW.at 0 rfl) rfl rfl tb_273 tb_275 ts_4 tb_6 tb_276 (nA := 0) (by decide +kernel) rfl ⟨by omega, by omega⟩ ⟨by omega, by omega⟩ rfl (Nat.le_of_ble_eq_true rfl) dJx4a65c_add_72be8_7 (fun v w1 H1 L1 hp hW hzz hkk hdd => ?_)
    obtain ⟨q, rfl, rfl⟩ := hp
    clear hzz hkk hdd
    generalize H1 = H at hW  ⊢
    generalize L1 = locs at hW ⊢
    have hW : Wd Z A s.heap ([eo hm 5 [.int mo, .ref q, .int (nI 0)], er Z q 10 (fun _ => none)]) _ _ := hW
    refine W.eq (g2 := F0 m 10 ls [.ref q]) rfl ?_
    refine lv_astore_n (lv' := [(2, .ref q), (0, .ref hm), (1, .ref v), (3, .int (nI 0))]) hx hb dJx4a65c_add_72be8_10 rfl hl (by decide) rfl (fun ls hl => ?_)
    refine lv_aload_n hx hb dJx4a65c_add_72be8_11 rfl (lv_at hl 0 rfl) ?_
    refine lv_iload_n hx hb dJx4a65c_add_72be8_12 rfl (lv_at hl 3 rfl) ?_
    refine lv_aload_n hx hb dJx4a65c_add_72be8_13 rfl (lv_at hl 2 rfl) ?_
    refine r_aast (i := 0) hx hb hK hG.1 hW 1 rfl (hv.here hAe hW) (by omega) (by omega) dJx4a65c_add_72be8_14 (fun H locs hW => ?_)
    have hW : Wd Z A s.heap ([eo hm 5 [.int mo, .ref q, .int (nI 0)], er Z q 10 (up (fun _ => none) 0 (some v))]) _ _ := hW
    refine lv_aload_n hx hb dJx4a65c_add_72be8_15 rfl (lv_at hl 1 rfl) ?_
    refine lv_iload_n hx hb dJx4a65c_add_72be8_16 rfl (lv_at hl 3 rfl) ?_
    refine lv_iconst (v := nI 1) hx hb dJx4a65c_add_72be8_17 (by decide) ?_
    refine n_iadd hx hb dJx4a65c_add_72be8_18 ?_
    refine r_put hx hb hts hown hK hW 0 (v := .int (nI (0 + 1))) rfl rfl in_J tyJx4a65c tyJx4a65c_ok nmJx4a65c 2 (by decide) tb_86 (fun _ h => h) rfl rfl rfl (Nat.le_of_ble_eq_true rfl) dJx4a65c_add_72be8_19 (fun H locs hW => ?_)
    have hW : Wd Z A s.heap ([eo hm 5 [.int mo, .ref q, .int (nI (0 + 1))], er Z q 10 (up (fun _ => none) 0 (some v))]) _ _ := hW
    refine e_void hx hb hr hlk hAe hW (by omega) (by omega) dJx4a65c_add_72be8_22 ⟨some (q, 10, up (fun _ => none) 0 (some v)), rfl, rfl, by omega, by show 0 + 1 ≤ 10; omega, by show 10 ≤ 768; omega, by show 10 ≤ 10; omega, fun i hi => ?_, fun i hi => ?_⟩
    · show up (fun _ => none) 0 (some v) i = some (up vd 0 v i)
      rw [show i = 0 by omega, up_s, up_s]
    · show up (fun _ => none) 0 (some v) i = none
      exact up_n _ _ (by omega)
  | some a =>
    obtain ⟨qe, ce, f⟩ := a
    obtain ⟨ho1, h1, h2, h3, h4, h5⟩ := ho
    dsimp only at h1 h2 h3 h4 h5
    have hl : lv_has ls 4 [(0, .ref hm), (1, .ref v), (2, .ref qe), (3, .int (nI n))] := hl
    have hW : Wd Z A s.heap ([eo hm 5 [.int mo, .ref qe, .int (nI n)], er Z qe ce f] ++ []) _ _ := hW
    refine lv_iload_n hx hb dJx4a65c_add_72be8_0 rfl (lv_at hl 3 rfl) ?_
    refine lv_aload_n hx hb dJx4a65c_add_72be8_1 rfl (lv_at hl 2 rfl) ?_
    refine r_lenr hx hb hK (hW.at 1 rfl) dJx4a65c_add_72be8_2 ?_
    by_cases hfull : n = ce
    · refine n_ne_f (tgt := 11) hx hb (by omega) dJx4a65c_add_72be8_3 (by decide) ?_
      subst hfull
      refine lv_aload_n hx hb dJx4a65c_add_72be8_6 rfl (lv_at hl 0 rfl) ?_
      refine c_virt (As := []) (rest := []) (wc := [eo hm 5 [.int mo, .ref qe, .int (nI n)], er Z qe n f]) (wr := []) (nl := 0) hx hb hml hown hts hK hG rfl hA hl (k_grow0N l Z hm mo qe n f h3 (by omega)) hW (fun i hi y hy => by rw [h4 i hi] at hy; cases hy; obtain ⟨fs, g⟩ := hvs i hi; exact ⟨fs, g⟩) (hW.at 0 rfl) rfl rfl tb_273 tb_275 ts_4 tb_6 tb_276 (nA := 0) (by decide +kernel) rfl ⟨by omega, by omega⟩ ⟨by omega, by omega⟩ rfl (Nat.le_of_ble_eq_true rfl) dJx4a65c_add_72be8_7 (fun v w1 H1 L1 hp hW hzz hkk hdd => ?_)
      obtain ⟨q, rfl, rfl⟩ := hp
      clear hzz hkk hdd
      generalize H1 = H at hW  ⊢
      generalize L1 = locs at hW ⊢
      have hW : Wd Z A s.heap ([eo hm 5 [.int mo, .ref q, .int (nI n)], er Z q (n + n / 2) (va_cpy f (fun _ => none) 0 0 n)]) _ _ := hW
      refine W.eq (g2 := F0 m 10 ls [.ref q]) rfl ?_
      refine lv_astore_n (lv' := [(2, .ref q), (0, .ref hm), (1, .ref v), (3, .int (nI n))]) hx hb dJx4a65c_add_72be8_10 rfl hl (by decide) rfl (fun ls hl => ?_)
      refine lv_aload_n hx hb dJx4a65c_add_72be8_11 rfl (lv_at hl 0 rfl) ?_
      refine lv_iload_n hx hb dJx4a65c_add_72be8_12 rfl (lv_at hl 3 rfl) ?_
      refine lv_aload_n hx hb dJx4a65c_add_72be8_13 rfl (lv_at hl 2 rfl) ?_
      refine r_aast (i := n) hx hb hK hG.1 hW 1 rfl (hv.here hAe hW) (by omega) (by omega) dJx4a65c_add_72be8_14 (fun H locs hW => ?_)
      have hW : Wd Z A s.heap ([eo hm 5 [.int mo, .ref q, .int (nI n)], er Z q (n + n / 2) (up (va_cpy f (fun _ => none) 0 0 n) n (some v))]) _ _ := hW
      refine lv_aload_n hx hb dJx4a65c_add_72be8_15 rfl (lv_at hl 1 rfl) ?_
      refine lv_iload_n hx hb dJx4a65c_add_72be8_16 rfl (lv_at hl 3 rfl) ?_
      refine lv_iconst (v := nI 1) hx hb dJx4a65c_add_72be8_17 (by decide) ?_
      refine n_iadd hx hb dJx4a65c_add_72be8_18 ?_
      refine r_put hx hb hts hown hK hW 0 (v := .int (nI (n + 1))) rfl rfl in_J tyJx4a65c tyJx4a65c_ok nmJx4a65c 2 (by decide) tb_86 (fun _ h => h) rfl rfl rfl (Nat.le_of_ble_eq_true rfl) dJx4a65c_add_72be8_19 (fun H locs hW => ?_)
      have hW : Wd Z A s.heap ([eo hm 5 [.int mo, .ref q, .int (nI (n + 1))], er Z q (n + n / 2) (up (va_cpy f (fun _ => none) 0 0 n) n (some v))]) _ _ := hW
      refine e_void hx hb hr hlk hAe hW (by omega) (by omega) dJx4a65c_add_72be8_22 ⟨some (q, n + n / 2, up (va_cpy f (fun _ => none) 0 0 n) n (some v)), rfl, rfl, by omega, by show n + 1 ≤ n + n / 2; omega, by show n + n / 2 ≤ 768; omega, by show 10 ≤ n + n / 2; omega, fun i hi => ?_, fun i hi => ?_⟩
      · show up (va_cpy f (fun _ => none) 0 0 n) n (some v) i = some (up vd n v i)
        by_cases e : i = n
        · subst e; rw [up_s, up_s]
        · rw [up_n _ _ e, up_n _ _ e, pk_cpy_in (by omega) (by omega), Nat.zero_add, Nat.sub_zero]; exact h4 i (by omega)
      · show up (va_cpy f (fun _ => none) 0 0 n) n (some v) i = none
        rw [up_n _ _ (by omega), pk_cpy_out (by omega)]
    · refine n_ne_t (tgt := 11) hx hb (by omega) (by omega) (by omega) dJx4a65c_add_72be8_3 (by decide) ?_
      refine lv_aload_n hx hb dJx4a65c_add_72be8_11 rfl (lv_at hl 2 rfl) ?_
      refine lv_iload_n hx hb dJx4a65c_add_72be8_12 rfl (lv_at hl 3 rfl) ?_
      refine lv_aload_n hx hb dJx4a65c_add_72be8_13 rfl (lv_at hl 1 rfl) ?_
      refine r_aast (i := n) hx hb hK hG.1 hW 1 rfl (hv.here hAe hW) (by omega) (by omega) dJx4a65c_add_72be8_14 (fun H locs hW => ?_)
      have hW : Wd Z A s.heap ([eo hm 5 [.int mo, .ref qe, .int (nI n)], er Z qe ce (up f n (some v))]) _ _ := hW
      refine lv_aload_n hx hb dJx4a65c_add_72be8_15 rfl (lv_at hl 0 rfl) ?_
      refine lv_iload_n hx hb dJx4a65c_add_72be8_16 rfl (lv_at hl 3 rfl) ?_
      refine lv_iconst (v := nI 1) hx hb dJx4a65c_add_72be8_17 (by decide) ?_
      refine n_iadd hx hb dJx4a65c_add_72be8_18 ?_
      refine r_put hx hb hts hown hK hW 0 (v := .int (nI (n + 1))) rfl rfl in_J tyJx4a65c tyJx4a65c_ok nmJx4a65c 2 (by decide) tb_86 (fun _ h => h) rfl rfl rfl (Nat.le_of_ble_eq_true rfl) dJx4a65c_add_72be8_19 (fun H locs hW => ?_)
      have hW : Wd Z A s.heap ([eo hm 5 [.int mo, .ref qe, .int (nI (n + 1))], er Z qe ce (up f n (some v))]) _ _ := hW
      refine e_void hx hb hr hlk hAe hW (by omega) (by omega) dJx4a65c_add_72be8_22 ⟨some (qe, ce, up f n (some v)), rfl, rfl, by omega, by show n + 1 ≤ ce; omega, h2, h3, fun i hi => ?_, fun i hi => ?_⟩
      · show up f n (some v) i = some (up vd n v i)
        by_cases e : i = n
        · subst e; rw [up_s, up_s]
        · rw [up_n _ _ e, up_n _ _ e]; exact h4 i (by omega)
      · show up f n (some v) i = none
        rw [up_n _ _ (by omega)]; exact h5 i (by omega)
set_option maxHeartbeats 4000000 in
set_option maxRecDepth 100000 in
theorem k_add (l : Launch) (Z : Zt) (hm : Nat) (mo : Int32) (n v : Nat) (o : Option (Nat × Nat × (Nat → Option Nat))) (vd : Nat → Nat) (ho : lok n o vd) (hn5 : n < 512) : MC l yJx4a65c_add_9ea2d cJx4a65c_add_9ea2d 2 (some .boolean) 8 320 (1) (768) Z (lst Z hm mo n o) (fun H => (∃ fs, RO Z (lst Z hm mo n o) (eo v 2 fs) H) ∧ ∀ i, i < n → ∃ fs, RO Z (lst Z hm mo n o) (eo (vd i) 2 fs) H) [.ref hm, .ref v] (fun r w1 => ∃ o2, r = some (.int (nI 1)) ∧ w1 = lst Z hm (mo + nI 1) (n + 1) o2 ∧ addQ n v vd o2) := by
  refine mc_of (by decide) (Nat.le_of_ble_eq_true rfl) (fun p e s m below meth c ls A hx hb hr hts hown hlk hml hin hK hG hW hA hAe hro hl R hRf hRc hRs hRl => ?_)
  have hl : lv_has ls 2 [(0, .ref hm), (1, .ref v)] := hl
  refine lv_aload_n hx hb dJx4a65c_add_9ea2d_0 rfl (lv_at hl 0 rfl) ?_
  refine lv_dup hx hb dJx4a65c_add_9ea2d_1 rfl ?_
  refine r_get hx hb hts hown hK (hW.at 0 rfl) rfl in_J 0 (by decide) tb_88 (same_mod hts) rfl dJx4a65c_add_9ea2d_2 ?_
  refine lv_iconst (v := nI 1) hx hb dJx4a65c_add_9ea2d_5 (by decide) ?_
  refine lv_iadd hx hb dJx4a65c_add_9ea2d_6 ?_
  refine r_put hx hb hts hown hK hW 0 (v := .int (mo + (nI 1))) rfl rfl in_J tyJx4a65c tyJx4a65c_ok nmJx4a65c 0 (by decide) tb_88 (same_mod hts) rfl rfl rfl (Nat.le_of_ble_eq_true rfl) dJx4a65c_add_9ea2d_7 (fun H locs hW => ?_)
  have hW : Wd Z A s.heap ([eo hm 5 [.int (mo + (nI 1)), .ref (lsq Z o), .int (nI n)]] ++ lsr Z o) _ _ := hW
  have hW : Wd Z A s.heap (lst Z hm (mo + nI 1) n o ++ []) _ _ := Wd.nil (ws := lst Z hm (mo + nI 1) n o) hW
  refine lv_aload_n hx hb dJx4a65c_add_9ea2d_10 rfl (lv_at hl 0 rfl) ?_
  refine lv_aload_n hx hb dJx4a65c_add_9ea2d_11 rfl (lv_at hl 1 rfl) ?_
  refine lv_aload_n hx hb dJx4a65c_add_9ea2d_12 rfl (lv_at hl 0 rfl) ?_
  refine r_get hx hb hts hown hK (hW.at 0 rfl) rfl in_J 1 (by decide) tb_85 (fun _ h => h) rfl dJx4a65c_add_9ea2d_13 ?_
  refine lv_aload_n hx hb dJx4a65c_add_9ea2d_16 rfl (lv_at hl 0 rfl) ?_
  refine r_get hx hb hts hown hK (hW.at 0 rfl) rfl in_J 2 (by decide) tb_86 (fun _ h => h) rfl dJx4a65c_add_9ea2d_17 ?_
  have mv : ∀ q : Nat × va_E, RO Z (lst Z hm mo n o) q s.heap → RO Z (lst Z hm (mo + nI 1) n o) q _ := fun q h => RO.pass h hAe hW
  refine c_virt (As := [.ref v, .ref (lsq Z o), .int (nI n)]) (rest := []) (wc := lst Z hm (mo + nI 1) n o) (wr := []) (nl := 0) hx hb hml hown hts hK hG rfl hA hl (k_add2 l Z hm (mo + nI 1) n v o vd ho hn5) hW ⟨hro.1.elim fun fs h => ⟨fs, mv _ h⟩, fun i hi => (hro.2 i hi).elim fun fs h => ⟨fs, mv _ h⟩⟩ (hW.at 0 rfl) rfl rfl tb_269 tb_271 ts_3 tb_6 tb_272 (nA := 3) (by decide +kernel) rfl ⟨by omega, by omega⟩ ⟨by omega, by omega⟩ rfl (Nat.le_of_ble_eq_true rfl) dJx4a65c_add_9ea2d_20 (fun v w1 H1 L1 hp hW hzz hkk hdd => ?_)
  obtain ⟨o2, rfl, rfl, ha⟩ := hp
  clear hzz hkk hdd
  generalize H1 = H at hW  ⊢
  generalize L1 = locs at hW ⊢
  have hW : Wd Z A s.heap (lst Z hm (mo + nI 1) (n + 1) o2) _ _ := Wd.unnil hW
  refine W.eq (g2 := F0 m 23 ls []) rfl ?_
  refine lv_iconst (v := nI 1) hx hb dJx4a65c_add_9ea2d_23 (by decide) ?_
  exact e_bool hx hb hr hlk hAe hW (by omega) (by omega) (by decide) dJx4a65c_add_9ea2d_24 ⟨o2, rfl, rfl, ha⟩
set_option maxHeartbeats 4000000 in
set_option maxRecDepth 100000 in
theorem k_AbstractCollection (l : Launch) (Z : Zt) (hm : Nat)  : MC l yJxa1e45_init_da8c8 cJxa1e45_init_da8c8 1 none 1 40 (0) (0) Z ([eo hm 5 [.int 0, .null, .int 0]]) (fun _ => True) [.ref hm] (fun v w1 => v = none ∧ w1 = [eo hm 5 [.int 0, .null, .int 0]]) := by
  refine mc_of (by decide) (Nat.le_of_ble_eq_true rfl) (fun p e s m below meth c ls A hx hb hr hts hown hlk hml hin hK hG hW hA hAe hro hl R hRf hRc hRs hRl => ?_)
  have hl : lv_has ls 1 [(0, .ref hm)] := hl
  refine lv_aload_n hx hb dJxa1e45_init_da8c8_0 rfl (lv_at hl 0 rfl) ?_
  refine W.objInit hx hb hown (hts _ tb_82) (hts _ tb_oi2) (hts _ tb_oi3) rfl (hl.1.trans hml.symm) rfl dJxa1e45_init_da8c8_1 (by omega) (by rw [hRl]; exact Nat.le_of_ble_eq_true rfl) ?_
  refine W.eq (g2 := F0 m 4 ls []) rfl ?_
  exact e_void hx hb hr hlk hAe hW (by omega) (by omega) dJxa1e45_init_da8c8_4 ⟨rfl, rfl⟩
set_option maxHeartbeats 4000000 in
set_option maxRecDepth 100000 in
theorem k_AbstractList (l : Launch) (Z : Zt) (hm : Nat)  : MC l yJxc12de_init_da8c8 cJxc12de_init_da8c8 1 none 2 80 (0) (0) Z ([eo hm 5 [.int 0, .null, .int 0]]) (fun _ => True) [.ref hm] (fun v w1 => v = none ∧ w1 = [eo hm 5 [.int (nI 0), .null, .int 0]]) := by
  refine mc_of (by decide) (Nat.le_of_ble_eq_true rfl) (fun p e s m below meth c ls A hx hb hr hts hown hlk hml hin hK hG hW hA hAe hro hl R hRf hRc hRs hRl => ?_)
  have hl : lv_has ls 1 [(0, .ref hm)] := hl
  have hW : Wd Z A s.heap ([eo hm 5 [.int 0, .null, .int 0]] ++ []) _ _ := hW
  refine lv_aload_n hx hb dJxc12de_init_da8c8_0 rfl (lv_at hl 0 rfl) ?_
  refine c_spec (b := hm) (As := []) (rest := []) (wc := [eo hm 5 [.int 0, .null, .int 0]]) (wr := []) hx hb hml hown hts hK hG rfl hA hl (k_AbstractCollection l Z hm) hW trivial tb_79 tb_80 tb_4 tb_81 rfl (nA := 0) (by decide +kernel) rfl ⟨by omega, by omega⟩ ⟨by omega, by omega⟩ rfl (Nat.le_of_ble_eq_true rfl) dJxc12de_init_da8c8_1 (fun v w1 H1 L1 hp hW hzz hkk hdd => ?_)
  obtain ⟨rfl, rfl⟩ := hp
  clear hzz hkk hdd
  generalize H1 = H at hW  ⊢
  generalize L1 = locs at hW ⊢
  have hW : Wd Z A s.heap ([eo hm 5 [.int 0, .null, .int 0]]) _ _ := hW
  refine W.eq (g2 := F0 m 4 ls []) rfl ?_
  refine lv_aload_n hx hb dJxc12de_init_da8c8_4 rfl (lv_at hl 0 rfl) ?_
  refine lv_iconst (v := nI 0) hx hb dJxc12de_init_da8c8_5 (by decide) ?_
  refine r_put hx hb hts hown hK hW 0 (v := .int (nI 0)) rfl rfl in_J tyJx4a65c tyJx4a65c_ok nmJx4a65c 0 (by decide) tb_87 (fun _ h => h) rfl rfl rfl (Nat.le_of_ble_eq_true rfl) dJxc12de_init_da8c8_6 (fun H locs hW => ?_)
  have hW : Wd Z A s.heap ([eo hm 5 [.int (nI 0), .null, .int 0]]) _ _ := hW
  exact e_void hx hb hr hlk hAe hW (by omega) (by omega) dJxc12de_init_da8c8_9 ⟨rfl, rfl⟩
set_option maxHeartbeats 4000000 in
set_option maxRecDepth 100000 in
theorem k_ArrayList (l : Launch) (Z : Zt) (hm : Nat)  : MC l yJx4a65c_init_da8c8 cJx4a65c_init_da8c8 1 none 3 120 (0) (0) Z ([eo hm 5 [.int 0, .null, .int 0]]) (fun _ => True) [.ref hm] (fun v w1 => v = none ∧ w1 = lst Z hm (nI 0) 0 none) := by
  refine mc_of (by decide) (Nat.le_of_ble_eq_true rfl) (fun p e s m below meth c ls A hx hb hr hts hown hlk hml hin hK hG hW hA hAe hro hl R hRf hRc hRs hRl => ?_)
  have hl : lv_has ls 1 [(0, .ref hm)] := hl
  have hW : Wd Z A s.heap ([eo hm 5 [.int 0, .null, .int 0]] ++ []) _ _ := hW
  refine lv_aload_n hx hb dJx4a65c_init_da8c8_0 rfl (lv_at hl 0 rfl) ?_
  refine c_spec (b := hm) (As := []) (rest := []) (wc := [eo hm 5 [.int 0, .null, .int 0]]) (wr := []) hx hb hml hown hts hK hG rfl hA hl (k_AbstractList l Z hm) hW trivial tb_76 tb_77 tb_5 tb_78 rfl (nA := 0) (by decide +kernel) rfl ⟨by omega, by omega⟩ ⟨by omega, by omega⟩ rfl (Nat.le_of_ble_eq_true rfl) dJx4a65c_init_da8c8_1 (fun v w1 H1 L1 hp hW hzz hkk hdd => ?_)
  obtain ⟨rfl, rfl⟩ := hp
  clear hzz hkk hdd
  generalize H1 = H at hW  ⊢
  generalize L1 = locs at hW ⊢
  have hW : Wd Z A s.heap ([eo hm 5 [.int (nI 0), .null, .int 0]]) _ _ := hW
  refine W.eq (g2 := F0 m 4 ls []) rfl ?_
  refine lv_aload_n hx hb dJx4a65c_init_da8c8_4 rfl (lv_at hl 0 rfl) ?_
  refine va_gets hx hb hG.2.1 hW.2.2 hown (hts _ tb_83) (fun _ h => h) dJx4a65c_init_da8c8_5 ?_
  refine r_put hx hb hts hown hK hW 0 (v := .ref (rE Z)) rfl rfl in_J tyJx4a65c tyJx4a65c_ok nmJx4a65c 1 (by decide) tb_85 (fun _ h => h) rfl rfl rfl (Nat.le_of_ble_eq_true rfl) dJx4a65c_init_da8c8_8 (fun H locs hW => ?_)
  have hW : Wd Z A s.heap ([eo hm 5 [.int (nI 0), .ref (rE Z), .int 0]]) _ _ := hW
  have hW : Wd Z A s.heap (lst Z hm (nI 0) 0 none) _ _ := hW
  exact e_void hx hb hr hlk hAe hW (by omega) (by omega) dJx4a65c_init_da8c8_11 ⟨rfl, rfl⟩
set_option maxHeartbeats 4000000 in
set_option maxRecDepth 100000 in
theorem k_Vector (l : Launch) (Z : Zt) (v q : Nat) (st : Nat) (hst : st ≤ 1) : MC l yX2_init cX2_init 3 none 1 40 (0) (0) Z ([eo v 2 [.null, .int 0]]) (fun _ => True) [.ref v, .ref q, .int (nI st)] (fun r w1 => r = none ∧ w1 = [eo v 2 [.ref q, .int (nI st)]]) := by
  refine mc_of (by decide) (Nat.le_of_ble_eq_true rfl) (fun p e s m below meth c ls A hx hb hr hts hown hlk hml hin hK hG hW hA hAe hro hl R hRf hRc hRs hRl => ?_)
  have hl : lv_has ls 3 [(0, .ref v), (1, .ref q), (2, .int (nI st))] := hl
  refine lv_aload_n hx hb dX2_init_0 rfl (lv_at hl 0 rfl) ?_
  refine W.objInit hx hb hown (hts _ tb_251) (hts _ tb_oi2) (hts _ tb_oi3) rfl (hl.1.trans hml.symm) rfl dX2_init_1 (by omega) (by rw [hRl]; exact Nat.le_of_ble_eq_true rfl) ?_
  refine W.eq (g2 := F0 m 4 ls []) rfl ?_
  refine lv_aload_n hx hb dX2_init_4 rfl (lv_at hl 0 rfl) ?_
  refine lv_aload_n hx hb dX2_init_5 rfl (lv_at hl 1 rfl) ?_
  refine r_putF hx hb hts hown hK hW 0 (v := .ref q) rfl rfl in_X2 tyX2 tyX2_ok nmX2 0 (by decide) tb_252 (fun _ h => h) rfl hin rfl rfl rfl (Nat.le_of_ble_eq_true rfl) dX2_init_6 (fun H locs hW => ?_)
  have hW : Wd Z A s.heap ([eo v 2 [.ref q, .int 0]]) _ _ := hW
  refine lv_aload_n hx hb dX2_init_9 rfl (lv_at hl 0 rfl) ?_
  refine lv_iload_n hx hb dX2_init_10 rfl (lv_at hl 2 rfl) ?_
  have hnb : narrow .boolean (.int (nI st)) = .int (nI st) ∧ fits .boolean (.int (nI st)) = true := by rcases (show st = 0 ∨ st = 1 by omega) with h | h <;> subst h <;> decide
  refine r_putF hx hb hts hown hK hW 0 (v := .int (nI st)) rfl rfl in_X2 tyX2 tyX2_ok nmX2 1 (by decide) tb_254 (fun _ h => h) rfl hin rfl hnb.1 hnb.2 (Nat.le_of_ble_eq_true rfl) dX2_init_11 (fun H locs hW => ?_)
  have hW : Wd Z A s.heap ([eo v 2 [.ref q, .int (nI st)]]) _ _ := hW
  exact e_void hx hb hr hlk hAe hW (by omega) (by omega) dX2_init_14 ⟨rfl, rfl⟩
end
section
/-! contracts of methods that may throw: then nothing that was there has changed -/
def XCd (px : String → Prop) : String → State → State → Prop := fun E st t => px E ∧ st.heap.size ≤ t.heap.size ∧ ∀ q : Nat, q < st.heap.size → t.heap[q]? = st.heap[q]?
def MX (l : Launch) (y : MethodName) (b : ByteArray) (nL : Nat) (ret : Option FieldType) (fr lo mc ms : Nat) (Z : Zt) (wc : va_W) (ro : Heap → Prop) (as : List Value) (post : Option Value → va_W → Prop) (px : String → Prop) : Prop :=
  ∀ sz : Nat, vx_Met l y (Cond.code y b nL ret :: TB) { frames := fr, cells := mc, slots := ms, locals := lo } (va_Pc as (PreC Z wc sz ro)) (QC Z wc sz post) (XCd px) mc ms (va_A wc sz)
theorem mx_of {l : Launch} {y : MethodName} {b : ByteArray} {nL : Nat} {ret : Option FieldType} {fr lo mc ms : Nat} {Z : Zt} {wc : va_W} {ro : Heap → Prop} {as : List Value} {post : Option Value → va_W → Prop} {px : String → Prop}
    (hy : plainName y.cls = true) (hlen : (lg_sl as).length ≤ nL)
    (body : ∀ (p : Program) (e : Env) (s : State) (m : MethodId) (below : List Frame) (meth : Method) (c : Code) (ls : Array Slot) (A : Nat → Prop), p.tables.exec = Jvm.exec → c.code = b → meth.sig.returnType = ret → (∀ w ∈ TB, w.before as.toArray s = true) → s.vm.findClass y.cls = some m.cls → meth.locks = false → c.maxLocals = nL → (∀ x ∈ c.exceptionTable.toList, False) → zK Z s → GS Z A s s.heap → Wd Z A s.heap wc s.heap [] → (∀ q, s.heap.size ≤ q → A q) → A = va_A wc s.heap.size → ro s.heap → lv_has ls nL (lv_args 0 as) → ∀ R : Room, R.frames = fr → R.cells = mc → R.slots = ms → R.locals = lo →
      W p l e R s m as.toArray below meth c s.heap [] 0 0 (vx_MQ below (QC Z wc s.heap.size post) (XCd px) as.toArray s mc ms A) (F0 m 0 ls [])) : MX l y b nL ret fr lo mc ms Z wc ro as post px := by
  intro sz
  refine vx_ofW (cc := b) (maxL := nL) (ret := ret) hy rfl ?_
  intro p e s m args below meth c s₁ B hml hex hv
  obtain ⟨rfl, hsz, hP, hK, hD0, hG, hro⟩ := hv
  subst hsz
  have hts0 := atoms_spec (ws := Cond.code y b nL ret :: TB) B.pre
  have hl := lv_entry as (n := nL) hlen
  have k := body p e s m below meth c _ (va_A wc s.heap.size) B.exec B.bytes B.returns (fun w hw => hts0 w (List.mem_cons_of_mem _ hw)) (findClass_of_methodNamed B.named) B.notSynchronized hml hex hK hG ⟨hP, hD0.self, va_S.rf⟩ (fun q h => Or.inr h) rfl hro hl { frames := fr, cells := mc, slots := ms, locals := lo } rfl rfl rfl rfl
  rw [lg_entry_eq]
  exact k
section Xc
variable {p : Program} {l : Launch} {e : Env} {R : Room} {s : State} {m : MethodId} {args : Array Value} {below : List Frame} {meth : Method} {c : Code} {H : Heap} {locs : List Loc} {cells slots : Nat} {Q : State → Prop}
variable {cc : ByteArray} {pc : Nat} {ls : Array Slot} {rest st0 : List Value} {Z : Zt} {A : Nat → Prop} {a : Array Value} {wc wr w0 : va_W} {H0 : Heap} {own : String}
variable {post post' : Option Value → va_W → Prop} {px px' : String → Prop} {ro : Heap → Prop} {mc ms fr lo nL maxL idx MCC MSS : Nat} {y : MethodName} {bytes : ByteArray} {ret : Option FieldType} {As : List Value} {b : Nat}
theorem xr_P (hr : vx_Run p l e R s m args below meth c H locs cells slots mc ms (F0 m pc ls st0) rest (QC Z wc H.size post a) (XCd px) (va_A wc H.size)) (hW : Wd Z A H0 (wc ++ wr) H locs) (hA : ∀ q, H0.size ≤ q → A q)
    (kx : ∀ (E : String) (q9 : Addr) (ce : Cell) (H1 : Heap) (locs1 : List Loc), px E → Wd Z A H0 (wc ++ wr) H1 locs1 → H.size ≤ H1.size → (∀ q : Nat, q < H.size → H1[q]? = H[q]?) → H1[q9]? = some ce → ce.vm = .none → s.vm.findClass E = some ce.cls → vx_W p l e R s m args below meth c H1 locs1 (cells + mc) (slots + ms) Q (F0 m pc ls rest) q9)
    (kk : ∀ (v : Option Value) (w1 : va_W) (H1 : Heap) (locs1 : List Loc), post v w1 → Wd Z A H0 (w1 ++ wr) H1 locs1 → H.size ≤ H1.size → (∀ q : Nat, q < H.size → ¬ va_A wc H.size q → H1[q]? = H[q]?) → va_D (va_A wc H.size) w1 → W p l e R s m args below meth c H1 locs1 (cells + mc) (slots + ms) Q (F0 m (pc + 3) ls (v.toList ++ rest))) : W p l e R s m args below meth c H locs cells slots Q (F0 m pc ls st0) := by
  intro T hT X
  rcases hr T hT X with h | ⟨q, st₀, t, T', L, E, ce, h0, X', hL, e1, e2, ⟨hpx, hz, hk⟩, hce, hcv, hcl, st⟩
  · obtain ⟨v, st₀, t, T', L, h0, X', hL, e1, e2, ⟨⟨v', w1, hv, hp, hP1, hD1⟩, hz, hk⟩, st⟩ := h
    cases hv
    rw [h0] at hz hk
    have hF := pre_F hW hA
    have k2 : ∀ q : Nat, q < H.size → ¬ va_A wc H.size q → T'.heap[q]? = H[q]? := fun q h1 h2 => by rw [e1]; exact hk q h1 h2
    have k1 : H.size ≤ T'.heap.size := by rw [e1]; exact hz
    have hWd : Wd Z A H0 (w1 ++ wr) T'.heap (locs ++ L) := by
      refine ⟨va_P.app (by rw [e1]; exact hP1) (fun k q hq => ?_), va_D.app (hD1.weaken (fun k q _ h => hF q.1 h)) (suf_D hW.2.1) (fun i j x y hx hy hxy => ?_), Nat.le_trans hW.2.2.1 k1, fun q h1 h2 => ?_, fun q hq => ?_⟩
      · obtain ⟨g1, g2⟩ := suf_not hW.2.1 hW.1 hq
        exact (suf_P hW.1 k q hq).kept (k2 q.1 g1 g2)
      · exact (suf_not hW.2.1 hW.1 hy).2 (by rw [← hxy]; exact hD1.2 i x hx)
      · rw [k2 q (Nat.lt_of_lt_of_le h1 hW.2.2.1) (fun z => h2 (hF q z))]
        exact hW.2.2.2.1 q h1 h2
      · rcases List.mem_append.mp hq with h | h
        · exact hW.2.2.2.2 q h
        · exact hF _ (hL q h)
    obtain ⟨t2, a1, b1⟩ := kk v w1 T'.heap (locs ++ L) hp hWd k1 k2 hD1 T' rfl X'
    exact ⟨t2, st t2 a1, b1⟩
  · rw [h0] at hz hk
    have hF := pre_F hW hA
    have k2 : ∀ q : Nat, q < H.size → T'.heap[q]? = H[q]? := fun q h1 => by rw [e1]; exact hk q h1
    have k1 : H.size ≤ T'.heap.size := by rw [e1]; exact hz
    have hWd : Wd Z A H0 (wc ++ wr) T'.heap (locs ++ L) := by
      refine ⟨hW.1.kept (fun k q hq => k2 q.1 (hW.1 k q hq).lt), hW.2.1, Nat.le_trans hW.2.2.1 k1, fun q h1 h2 => ?_, fun q hq => ?_⟩
      · rw [k2 q (Nat.lt_of_lt_of_le h1 hW.2.2.1)]; exact hW.2.2.2.1 q h1 h2
      · rcases List.mem_append.mp hq with h | h
        · exact hW.2.2.2.2 q h
        · exact hF _ (hL q h)
    obtain ⟨t2, a1, b1⟩ := kx E q ce T'.heap (locs ++ L) hpx hWd k1 k2 (by rw [e1]; exact hce) hcv hcl T' rfl X'
    exact ⟨t2, st.trans a1, b1⟩
/-- it goes on to the caller: what was there at the start is there still -/
theorem x_pass (hex : ∀ x ∈ c.exceptionTable.toList, False) (hlk : meth.locks = false) {Qc : Array Value → State → Outcome → State → Prop} {free : Addr → Prop} {E : String} {q9 : Addr} {ce : Cell} (hE : px' E) (hsz : s.heap.size ≤ H.size) (hsame : ∀ q : Nat, q < s.heap.size → H[q]? = s.heap[q]?) (hce : H[q9]? = some ce) (hcv : ce.vm = .none) (hcl : s.vm.findClass E = some ce.cls) (hf : ∀ z ∈ locs, free z.base) (hc : cells ≤ MCC) (hs : slots ≤ MSS) :
    vx_W p l e R s m args below meth c H locs cells slots (vx_MQ below Qc (XCd px') args s MCC MSS free) (F0 m pc ls rest) q9 :=
  vx_out (E := E) (fun x hx => (hex x hx).elim) hlk hce hcv hcl (fun t ht _ => ⟨hE, by rw [ht]; exact hsz, fun q hq => by rw [ht]; exact hsame q hq⟩) hf hc hs
theorem x_virt {nA : Nat} (hx : p.tables.exec = Jvm.exec) (hb : c.code = cc) (hml : c.maxLocals = nL) (hown : s.vm.findClass own = some m.cls) (hts : ∀ w ∈ TB, w.before args s = true) (hK : zK Z s) (hG : GS Z A s s.heap) (hH0 : H0 = s.heap) (hA : ∀ q, H0.size ≤ q → A q) {lv : List (Nat × Value)} (hl : lv_has ls nL lv)
    (hM : MX l y bytes maxL ret fr lo mc ms Z wc ro (.ref b :: As) post px) (hW : Wd Z A H0 (wc ++ wr) H locs) (hro : ro H)
    {ci N : Nat} {C : String} {T : u_T} {fs : List Value} (hrec : zat Z (b, .inr (ci, fs)) H) (hci : classes[ci]? = some (C, T, N)) (hC : y.cls = C)
    (w1 : Cond.methodLink own idx y ∈ TB) (w2 : Cond.instanceMethod y ∈ TB) (w3 : Cond.selects C y y ∈ TB) (w4 : Cond.initialized C ∈ TB) (w5 : Cond.code y bytes maxL ret ∈ TB)
    (hd : y.cls ≠ "java/lang/invoke/MethodHandle" ∧ y.cls ≠ "java/lang/invoke/VarHandle" ∧ (parseMethodDescriptor y.desc).map (fun d => d.parameters.length) = some nA) (hnA : As.length = nA)
    (hR : fr + 1 ≤ R.frames ∧ 8 + (maxL + 11) + lo ≤ R.locals) (hcs : cells + mc ≤ R.cells ∧ slots + ms ≤ R.slots) (hst : st0 = As.reverse ++ .ref b :: rest) (hrm : (rest.map fun v => v.category).sum ≤ 8) (hdg : decode cc pc = .ok (.invokevirtual idx, 3))
    (kx : ∀ (E : String) (q9 : Addr) (ce : Cell) (H1 : Heap) (locs1 : List Loc), px E → Wd Z A H0 (wc ++ wr) H1 locs1 → H.size ≤ H1.size → (∀ q : Nat, q < H.size → H1[q]? = H[q]?) → H1[q9]? = some ce → ce.vm = .none → s.vm.findClass E = some ce.cls → vx_W p l e R s m args below meth c H1 locs1 (cells + mc) (slots + ms) Q (F0 m pc ls rest) q9)
    (kk : ∀ (v : Option Value) (w1 : va_W) (H1 : Heap) (locs1 : List Loc), post v w1 → Wd Z A H0 (w1 ++ wr) H1 locs1 → H.size ≤ H1.size → (∀ q : Nat, q < H.size → ¬ va_A wc H.size q → H1[q]? = H[q]?) → va_D (va_A wc H.size) w1 → W p l e R s m args below meth c H1 locs1 (cells + mc) (slots + ms) Q (F0 m (pc + 3) ls (v.toList ++ rest))) : W p l e R s m args below meth c H locs cells slots Q (F0 m pc ls st0) := by
  subst hC
  refine xr_P (vx_runV (C := y.cls) (b := b) (As := As) ⟨hx, hb, hml, hown, hts⟩ (hM H.size) ⟨callB_TB hts w5 w4 w1 hd hR, hts _ w2, hts _ w3⟩ ⟨preC_blind, ?_, fun U hU hWm => ⟨rfl, by rw [hU], by rw [hU]; exact pre_P hW.1, zK.moved hWm.alike hK, (pre_D hW.2.1).weaken (fun _ _ _ _ => trivial), gs_at hG hH0 hW hA hU hWm, by rw [hU]; exact hro⟩⟩ rfl hnA hl.1 hst (lv_room hrm) hdg hcs) hW hA kx kk
  exact va_recv (q0 := 0) (ci := ci) hK (zat_one hrec) hci rfl
theorem x_stat {nA : Nat} (hx : p.tables.exec = Jvm.exec) (hb : c.code = cc) (hml : c.maxLocals = nL) (hown : s.vm.findClass own = some m.cls) (hts : ∀ w ∈ TB, w.before args s = true) (hK : zK Z s) (hG : GS Z A s s.heap) (hH0 : H0 = s.heap) (hA : ∀ q, H0.size ≤ q → A q) {lv : List (Nat × Value)} (hl : lv_has ls nL lv)
    (hM : MX l y bytes maxL ret fr lo mc ms Z wc ro As post px) (hW : Wd Z A H0 (wc ++ wr) H locs) (hro : ro H)
    (w1 : Cond.methodLink own idx y ∈ TB) (w2 : Cond.static y ∈ TB) (w4 : Cond.initialized y.cls ∈ TB) (w5 : Cond.code y bytes maxL ret ∈ TB)
    (hd : y.cls ≠ "java/lang/invoke/MethodHandle" ∧ y.cls ≠ "java/lang/invoke/VarHandle" ∧ (parseMethodDescriptor y.desc).map (fun d => d.parameters.length) = some nA) (hnA : As.length = nA)
    (hR : fr + 1 ≤ R.frames ∧ 8 + (maxL + 11) + lo ≤ R.locals) (hcs : cells + mc ≤ R.cells ∧ slots + ms ≤ R.slots) (hst : st0 = As.reverse ++ rest) (hrm : (rest.map fun v => v.category).sum ≤ 8) (hdg : decode cc pc = .ok (.invokestatic idx, 3))
    (kx : ∀ (E : String) (q9 : Addr) (ce : Cell) (H1 : Heap) (locs1 : List Loc), px E → Wd Z A H0 (wc ++ wr) H1 locs1 → H.size ≤ H1.size → (∀ q : Nat, q < H.size → H1[q]? = H[q]?) → H1[q9]? = some ce → ce.vm = .none → s.vm.findClass E = some ce.cls → vx_W p l e R s m args below meth c H1 locs1 (cells + mc) (slots + ms) Q (F0 m pc ls rest) q9)
    (kk : ∀ (v : Option Value) (w1 : va_W) (H1 : Heap) (locs1 : List Loc), post v w1 → Wd Z A H0 (w1 ++ wr) H1 locs1 → H.size ≤ H1.size → (∀ q : Nat, q < H.size → ¬ va_A wc H.size q → H1[q]? = H[q]?) → va_D (va_A wc H.size) w1 → W p l e R s m args below meth c H1 locs1 (cells + mc) (slots + ms) Q (F0 m (pc + 3) ls (v.toList ++ rest))) : W p l e R s m args below meth c H locs cells slots Q (F0 m pc ls st0) :=
  xr_P (vx_runS (As := As) ⟨hx, hb, hml, hown, hts⟩ (hM H.size) ⟨callB_TB hts w5 w4 w1 hd hR, hts _ w2⟩ ⟨preC_blind, fun U hU hWm => ⟨rfl, by rw [hU], by rw [hU]; exact pre_P hW.1, zK.moved hWm.alike hK, (pre_D hW.2.1).weaken (fun _ _ _ _ => trivial), gs_at hG hH0 hW hA hU hWm, by rw [hU]; exact hro⟩⟩ rfl hnA hl.1 hst (lv_room hrm) hdg hcs) hW hA kx kk
def IAE : String := "java/lang/IllegalArgumentException"
def ISE : String := "java/lang/IllegalStateException"
def xnames : List String := ["java/lang/RuntimeException", "java/lang/Exception"]
def xB : List Cond := (nw_cast.map fun q => Cond.castable q.1 q.2) ++ nw_decl.map fun y => Cond.declares y
theorem xB_ok (h : GSv Z s) : ∀ w ∈ xB, w.before args s = true := by
  intro w hw
  rcases List.mem_append.mp hw with q | q
  · obtain ⟨z, hz, rfl⟩ := List.mem_map.mp q
    exact va_Nw.use rfl (h.1 z hz)
  · obtain ⟨z, hz, rfl⟩ := List.mem_map.mp q
    exact va_Nw.use rfl (h.2.1 z hz)
theorem iae_good : ∀ w ∈ (vx_atS RX3 94 IAE xnames).filter goodWord, w ∈ TB := by decide +kernel
theorem iae_bad : ∀ w ∈ (vx_atS RX3 94 IAE xnames).filter (fun w => !goodWord w), w ∈ xB := by decide +kernel
theorem ise_good : ∀ w ∈ (vx_atS RX3 155 ISE xnames).filter goodWord, w ∈ TB := by decide +kernel
theorem ise_bad : ∀ w ∈ (vx_atS RX3 155 ISE xnames).filter (fun w => !goodWord w), w ∈ xB := by decide +kernel
theorem iae_ot : ∀ w ∈ Cond.classLink RX3 90 IAE :: Cond.initialized IAE :: vx_atS RX3 94 IAE xnames, vx_ot w = true := by decide +kernel
theorem ise_ot : ∀ w ∈ Cond.classLink RX3 151 ISE :: Cond.initialized ISE :: vx_atS RX3 155 ISE xnames, vx_ot w = true := by decide +kernel
theorem iae_1 : Cond.classLink RX3 90 IAE ∈ TB := by decide +kernel
theorem iae_2 : Cond.initialized IAE ∈ TB := by decide +kernel
theorem ise_1 : Cond.classLink RX3 151 ISE ∈ TB := by decide +kernel
theorem ise_2 : Cond.initialized ISE ∈ TB := by decide +kernel
theorem th_IAE (hx : p.tables.exec = Jvm.exec) (hb : c.code = cc) (hst : l.stackTraces = false) (hown : s.vm.findClass RX3 = some m.cls) (hts : ∀ w ∈ TB, w.before args s = true) (hG : GS Z A s s.heap) (hW : Wd Z A s.heap w0 H locs) {lv : List (Nat × Value)} (hml : c.maxLocals = nL) (hl : lv_has ls nL lv) (hex : ∀ x ∈ c.exceptionTable.toList, False) (hlk : meth.locks = false) {is : Nat} {text : String} (hstr : (is, text) ∈ nw_strs)
    (d0 : decode cc pc = .ok (.new 90, 3)) (d3 : decode cc (pc + 3) = .ok (.dup, 1)) (d4 : decode cc (pc + 4) = .ok (.ldc is, 2)) (d6 : decode cc (pc + 6) = .ok (.invokespecial 94, 3)) (d9 : decode cc (pc + 9) = .ok (.athrow, 1))
    (hRf : 5 < R.frames) (hRl : (rest.map fun v => v.category).sum + 82 ≤ R.locals) (hRc : cells + 1 ≤ R.cells) (hRs : slots + 6 ≤ R.slots) {Qc : Array Value → State → Outcome → State → Prop} (hE : px' IAE) (hsame : ∀ q : Nat, q < s.heap.size → H[q]? = s.heap[q]?) (hc : cells + 1 ≤ MCC) (hs : slots + 6 ≤ MSS) :
    W p l e R s m args below meth c H locs cells slots (vx_MQ below Qc (XCd px') args s MCC MSS A) (F0 m pc ls rest) := by
  obtain ⟨sa, hsa⟩ := hG.1.2.2.2.1 _ hstr
  exact vx_throwS (A := A) (names := xnames) hx hb hst hown (by decide +kernel) (by decide +kernel) (hts _ iae_1) (hts _ iae_2) hsa (vx_hat (fun w hw => hts w (iae_good w hw)) iae_bad (xB_ok hG.1)) iae_ot hG.2.2.2.1 hG.2.2.2.2 hW.2.2 (hl.1.trans hml.symm) d0 d3 d4 d6 d9 (fun x hx => (hex x hx).elim) hRf hRl hRc hRs hlk (fun t _ h1 h2 => ⟨hE, Nat.le_trans hW.2.2.1 h1, fun q hq => by rw [h2 q (Nat.lt_of_lt_of_le hq hW.2.2.1)]; exact hsame q hq⟩) hW.2.2.2.2 hc hs
theorem th_ISE (hx : p.tables.exec = Jvm.exec) (hb : c.code = cc) (hst : l.stackTraces = false) (hown : s.vm.findClass RX3 = some m.cls) (hts : ∀ w ∈ TB, w.before args s = true) (hG : GS Z A s s.heap) (hW : Wd Z A s.heap w0 H locs) {lv : List (Nat × Value)} (hml : c.maxLocals = nL) (hl : lv_has ls nL lv) (hex : ∀ x ∈ c.exceptionTable.toList, False) (hlk : meth.locks = false) {is : Nat} {text : String} (hstr : (is, text) ∈ nw_strs)
    (d0 : decode cc pc = .ok (.new 151, 3)) (d3 : decode cc (pc + 3) = .ok (.dup, 1)) (d4 : decode cc (pc + 4) = .ok (.ldc is, 2)) (d6 : decode cc (pc + 6) = .ok (.invokespecial 155, 3)) (d9 : decode cc (pc + 9) = .ok (.athrow, 1))
    (hRf : 5 < R.frames) (hRl : (rest.map fun v => v.category).sum + 82 ≤ R.locals) (hRc : cells + 1 ≤ R.cells) (hRs : slots + 6 ≤ R.slots) {Qc : Array Value → State → Outcome → State → Prop} (hE : px' ISE) (hsame : ∀ q : Nat, q < s.heap.size → H[q]? = s.heap[q]?) (hc : cells + 1 ≤ MCC) (hs : slots + 6 ≤ MSS) :
    W p l e R s m args below meth c H locs cells slots (vx_MQ below Qc (XCd px') args s MCC MSS A) (F0 m pc ls rest) := by
  obtain ⟨sa, hsa⟩ := hG.1.2.2.2.1 _ hstr
  exact vx_throwS (A := A) (names := xnames) hx hb hst hown (by decide +kernel) (by decide +kernel) (hts _ ise_1) (hts _ ise_2) hsa (vx_hat (fun w hw => hts w (ise_good w hw)) ise_bad (xB_ok hG.1)) ise_ot hG.2.2.2.1 hG.2.2.2.2 hW.2.2 (hl.1.trans hml.symm) d0 d3 d4 d6 d9 (fun x hx => (hex x hx).elim) hRf hRl hRc hRs hlk (fun t _ h1 h2 => ⟨hE, Nat.le_trans hW.2.2.1 h1, fun q hq => by rw [h2 q (Nat.lt_of_lt_of_le hq hW.2.2.1)]; exact hsame q hq⟩) hW.2.2.2.2 hc hs
end Xc
end
section
theorem i_lt (x : Int32) {n : Nat} (hn : n < 2 ^ 31) : x < nI n ↔ x.toInt < n := by rw [Int32.lt_iff_toInt_lt, nI_toInt hn]
theorem i_le (x : Int32) {n : Nat} (hn : n < 2 ^ 31) : x ≤ nI n ↔ x.toInt ≤ n := by rw [Int32.le_iff_toInt_le, nI_toInt hn]
theorem i_ge (x : Int32) {n : Nat} (hn : n < 2 ^ 31) : nI n ≤ x ↔ (n : Int) ≤ x.toInt := by rw [Int32.le_iff_toInt_le, nI_toInt hn]
theorem i_gt (x : Int32) {n : Nat} (hn : n < 2 ^ 31) : nI n < x ↔ (n : Int) < x.toInt := by rw [Int32.lt_iff_toInt_lt, nI_toInt hn]
theorem i_neg (x : Int32) : x < 0 ↔ x.toInt < 0 := by rw [Int32.lt_iff_toInt_lt, Int32.toInt_zero]
theorem i_nat {x : Int32} (h : 0 ≤ x.toInt) : ∃ j : Nat, j < 2 ^ 31 ∧ x = nI j ∧ x.toInt = j := by
  obtain ⟨j, hj, e⟩ := nI_of (x := x) (fun q => by rw [i_neg] at q; omega)
  exact ⟨j, hj, e, by rw [e, nI_toInt hj]⟩
theorem i_toInt {j : Nat} (h : j < 2 ^ 31) : (nI j).toInt = j := nI_toInt h
/-- a width; a kind up to k; a vector's number below n -/
def wid (x : Int32) : Prop := ∃ w : Nat, 1 ≤ w ∧ w ≤ 64 ∧ x = nI w
def knd (x : Int32) (k : Nat) : Prop := ∃ j : Nat, j ≤ k ∧ x = nI j
theorem wid_iff (x : Int32) : wid x ↔ 1 ≤ x.toInt ∧ x.toInt ≤ 64 := by
  constructor
  · rintro ⟨w, h1, h2, rfl⟩
    rw [i_toInt (by omega)]; omega
  · rintro ⟨h1, h2⟩
    obtain ⟨j, hj, e, ej⟩ := i_nat (x := x) (by omega)
    exact ⟨j, by omega, by omega, e⟩
theorem knd_iff (x : Int32) {k : Nat} (hk : k < 2 ^ 30) : knd x k ↔ 0 ≤ x.toInt ∧ x.toInt ≤ k := by
  constructor
  · rintro ⟨w, h1, rfl⟩
    rw [i_toInt (by omega)]; omega
  · rintro ⟨h1, h2⟩
    obtain ⟨j, hj, e, ej⟩ := i_nat (x := x) h1
    exact ⟨j, by omega, e⟩
def vix (x : Int32) (n : Nat) : Prop := ∃ i : Nat, i < n ∧ x = nI i
theorem vix_iff (x : Int32) {n : Nat} (hn : n < 2 ^ 30) : vix x n ↔ 0 ≤ x.toInt ∧ x.toInt < n := by
  constructor
  · rintro ⟨w, h1, rfl⟩
    rw [i_toInt (by omega)]; omega
  · rintro ⟨h1, h2⟩
    obtain ⟨j, hj, e, ej⟩ := i_nat (x := x) h1
    exact ⟨j, by omega, e⟩
theorem sm_step {H0 H H1 : Heap} (hz : H0.size ≤ H.size) (hk : ∀ q : Nat, q < H.size → ¬ va_A [] H.size q → H1[q]? = H[q]?) (h : ∀ q : Nat, q < H0.size → H[q]? = H0[q]?) : ∀ q : Nat, q < H0.size → H1[q]? = H0[q]? := fun q hq => (hk q (by omega) (fun g => by
  rcases g with ⟨k, e, g⟩ | g
  · simp at g
  · omega)).trans (h q hq)
set_option maxHeartbeats 4000000 in
set_option maxRecDepth 100000 in
theorem k_needWidth (l : Launch) (hst : l.stackTraces = false) (Z : Zt) (xw : Int32)  : MX l yX3_needWidth cX3_needWidth 1 none 6 90 (1) (6) Z ([]) (fun _ => True) [.int xw] (fun v w1 => v = none ∧ w1 = [] ∧ wid xw) (fun E => E = IAE ∧ ¬ wid xw) := by
  refine mx_of (by decide) (Nat.le_of_ble_eq_true rfl) (fun p e s m below meth c ls A hx hb hr hts hown hlk hml hex hK hG hW hA hAe hro hl R hRf hRc hRs hRl => ?_)
  have hl : lv_has ls 1 [(0, .int xw)] := hl
  have hsm : ∀ q : Nat, q < s.heap.size → s.heap[q]? = s.heap[q]? := fun _ _ => rfl
  refine lv_iload_n hx hb dX3_needWidth_0 rfl (lv_at hl 0 rfl) ?_
  refine lv_iconst (v := nI 1) hx hb dX3_needWidth_1 (by decide) ?_
  refine lv_icmp_lt (tgt := 11) hx hb dX3_needWidth_2 (by decide) (fun q1 => ?_) (fun q1 => ?_)
  all_goals rw [i_lt _ (by decide)] at q1
  · exact th_IAE hx hb hst hown hts hG hW hml hl hex hlk (is := 144) (text := "a width is 1 .. 64") (by decide) dX3_needWidth_11 dX3_needWidth_14 dX3_needWidth_15 dX3_needWidth_17 dX3_needWidth_20 (by omega) (by rw [hRl]; exact Nat.le_of_ble_eq_true rfl) (by omega) (by omega) ⟨rfl, fun h => by rw [wid_iff] at h; omega⟩ hsm (by omega) (by omega)
  · refine lv_iload_n hx hb dX3_needWidth_5 rfl (lv_at hl 0 rfl) ?_
    refine lv_bipush (v := nI 64) hx hb dX3_needWidth_6 (by decide) ?_
    refine lv_icmp_le (tgt := 21) hx hb dX3_needWidth_8 (by decide) (fun q2 => ?_) (fun q2 => ?_)
    all_goals rw [i_le _ (by decide)] at q2
    · exact vx_ret (e_void hx hb hr hlk hAe hW (by omega) (by omega) dX3_needWidth_21 ⟨rfl, rfl, (wid_iff _).mpr (by omega)⟩)
    · exact th_IAE hx hb hst hown hts hG hW hml hl hex hlk (is := 144) (text := "a width is 1 .. 64") (by decide) dX3_needWidth_11 dX3_needWidth_14 dX3_needWidth_15 dX3_needWidth_17 dX3_needWidth_20 (by omega) (by rw [hRl]; exact Nat.le_of_ble_eq_true rfl) (by omega) (by omega) ⟨rfl, fun h => by rw [wid_iff] at h; omega⟩ hsm (by omega) (by omega)
set_option maxHeartbeats 4000000 in
set_option maxRecDepth 100000 in
theorem k_needKind (l : Launch) (hst : l.stackTraces = false) (Z : Zt) (xk : Int32) (last : Nat) (hlast : last < 1000) : MX l yX3_needKind cX3_needKind 2 none 6 90 (1) (6) Z ([]) (fun _ => True) [.int xk, .int (nI last)] (fun v w1 => v = none ∧ w1 = [] ∧ knd xk last) (fun E => E = IAE ∧ ¬ knd xk last) := by
  refine mx_of (by decide) (Nat.le_of_ble_eq_true rfl) (fun p e s m below meth c ls A hx hb hr hts hown hlk hml hex hK hG hW hA hAe hro hl R hRf hRc hRs hRl => ?_)
  have hl : lv_has ls 2 [(0, .int xk), (1, .int (nI last))] := hl
  have hsm : ∀ q : Nat, q < s.heap.size → s.heap[q]? = s.heap[q]? := fun _ _ => rfl
  refine lv_iload_n hx hb dX3_needKind_0 rfl (lv_at hl 0 rfl) ?_
  refine lv_if_lt (tgt := 9) hx hb dX3_needKind_1 (by decide) (fun q1 => ?_) (fun q1 => ?_)
  all_goals rw [i_neg] at q1
  · exact th_IAE hx hb hst hown hts hG hW hml hl hex hlk (is := 146) (text := "there is no such kind") (by decide) dX3_needKind_9 dX3_needKind_12 dX3_needKind_13 dX3_needKind_15 dX3_needKind_18 (by omega) (by rw [hRl]; exact Nat.le_of_ble_eq_true rfl) (by omega) (by omega) ⟨rfl, fun h => by rw [knd_iff _ (by omega)] at h; omega⟩ hsm (by omega) (by omega)
  · refine lv_iload_n hx hb dX3_needKind_4 rfl (lv_at hl 0 rfl) ?_
    refine lv_iload_n hx hb dX3_needKind_5 rfl (lv_at hl 1 rfl) ?_
    refine lv_icmp_le (tgt := 19) hx hb dX3_needKind_6 (by decide) (fun q2 => ?_) (fun q2 => ?_)
    all_goals rw [i_le _ (by omega)] at q2
    · exact vx_ret (e_void hx hb hr hlk hAe hW (by omega) (by omega) dX3_needKind_19 ⟨rfl, rfl, (knd_iff _ (by omega)).mpr (by omega)⟩)
    · exact th_IAE hx hb hst hown hts hG hW hml hl hex hlk (is := 146) (text := "there is no such kind") (by decide) dX3_needKind_9 dX3_needKind_12 dX3_needKind_13 dX3_needKind_15 dX3_needKind_18 (by omega) (by rw [hRl]; exact Nat.le_of_ble_eq_true rfl) (by omega) (by omega) ⟨rfl, fun h => by rw [knd_iff _ (by omega)] at h; omega⟩ hsm (by omega) (by omega)
set_option maxHeartbeats 4000000 in
set_option maxRecDepth 100000 in
theorem k_needSameWidth (l : Launch) (hst : l.stackTraces = false) (Z : Zt) (aa ab wa wb : Nat) (ra rb : Nat → Nat) (hwa : wa ≤ 1000) (hwb : wb ≤ 1000) : MX l yX3_needSameWidth cX3_needSameWidth 2 none 6 90 (1) (6) Z ([]) (fun H => zat Z (ea Z aa wa ra) H ∧ zat Z (ea Z ab wb rb) H) [.ref aa, .ref ab] (fun v w1 => v = none ∧ w1 = [] ∧ wa = wb) (fun E => E = IAE ∧ wa ≠ wb) := by
  refine mx_of (by decide) (Nat.le_of_ble_eq_true rfl) (fun p e s m below meth c ls A hx hb hr hts hown hlk hml hex hK hG hW hA hAe hro hl R hRf hRc hRs hRl => ?_)
  have hl : lv_has ls 2 [(0, .ref aa), (1, .ref ab)] := hl
  have hsm : ∀ q : Nat, q < s.heap.size → s.heap[q]? = s.heap[q]? := fun _ _ => rfl
  refine lv_aload_n hx hb dX3_needSameWidth_0 rfl (lv_at hl 0 rfl) ?_
  refine r_len hx hb hK ((RO.nil hro.1).here hAe hW) dX3_needSameWidth_1 ?_
  refine lv_aload_n hx hb dX3_needSameWidth_2 rfl (lv_at hl 1 rfl) ?_
  refine r_len hx hb hK ((RO.nil hro.2).here hAe hW) dX3_needSameWidth_3 ?_
  by_cases hq : wa = wb
  · refine n_eq_t (tgt := 17) hx hb (by omega) dX3_needSameWidth_4 (by decide) ?_
    exact vx_ret (e_void hx hb hr hlk hAe hW (by omega) (by omega) dX3_needSameWidth_17 ⟨rfl, rfl, hq⟩)
  · refine n_eq_f (tgt := 17) hx hb (by omega) (by omega) (by omega) dX3_needSameWidth_4 (by decide) ?_
    exact th_IAE hx hb hst hown hts hG hW hml hl hex hlk (is := 148) (text := "the widths are not the same") (by decide) dX3_needSameWidth_7 dX3_needSameWidth_10 dX3_needSameWidth_11 dX3_needSameWidth_13 dX3_needSameWidth_16 (by omega) (by rw [hRl]; exact Nat.le_of_ble_eq_true rfl) (by omega) (by omega) ⟨rfl, hq⟩ hsm (by omega) (by omega)
set_option maxHeartbeats 4000000 in
set_option maxRecDepth 100000 in
theorem k_needRoom (l : Launch) (hst : l.stackTraces = false) (Z : Zt) (hb0 hk hc hm : Nat) (mo : Int32) (qe n wg g : Nat) (hwg : wg ≤ 100000) (hg : g ≤ 1000000) (hn : n ≤ 512) : MX l yX3_needRoom cX3_needRoom 2 none 6 130 (1) (6) Z ([]) (fun H => zat Z (eo hb0 3 [.ref hk, .ref hc, .ref hm, .int (nI wg)]) H ∧ zat Z (eo hm 5 [.int mo, .ref qe, .int (nI n)]) H) [.ref hb0, .int (nI g)] (fun v w1 => v = none ∧ w1 = [] ∧ g + wg ≤ 100000) (fun E => E = ISE ∧ ¬ g + wg ≤ 100000) := by
  refine mx_of (by decide) (Nat.le_of_ble_eq_true rfl) (fun p e s m below meth c ls A hx hb hr hts hown hlk hml hex hK hG hW hA hAe hro hl R hRf hRc hRs hRl => ?_)
  have hl : lv_has ls 2 [(0, .ref hb0), (1, .int (nI g))] := hl
  have hsm : ∀ q : Nat, q < s.heap.size → s.heap[q]? = s.heap[q]? := fun _ _ => rfl
  refine lv_aload_n hx hb dX3_needRoom_0 rfl (lv_at hl 0 rfl) ?_
  refine r_get hx hb hts hown hK ((RO.nil hro.1).here hAe hW) rfl in_X3 2 (by decide) tb_99 (fun _ h => h) rfl dX3_needRoom_1 ?_
  have hsz0 := hW.2.2.1
  refine c_virt (As := []) (rest := []) (wc := []) (wr := []) (nl := 0) hx hb hml hown hts hK hG rfl hA hl (k_size l Z hm mo qe n) hW ((RO.nil hro.2).here hAe hW) ((RO.nil hro.2).here hAe hW) rfl rfl tb_118 tb_119 tb_120 tb_6 tb_121 (nA := 0) (by decide +kernel) rfl ⟨by omega, by omega⟩ ⟨by omega, by omega⟩ rfl (Nat.le_of_ble_eq_true rfl) dX3_needRoom_4 (fun v w1 H1 L1 hp hW hzz hkk hdd => ?_)
  obtain ⟨rfl, rfl⟩ := hp
  have hsm := sm_step hsz0 hkk hsm
  clear hzz hkk hdd
  generalize H1 = H at hW hsm ⊢
  generalize L1 = locs at hW ⊢
  have hW : Wd Z A s.heap ([]) _ _ := hW
  refine W.eq (g2 := F0 m 7 ls [.int (nI n)]) rfl ?_
  refine lv_sipush (v := nI 4000) hx hb dX3_needRoom_7 (by decide) ?_
  refine n_ge_f (tgt := 24) hx hb (by omega) (by omega) dX3_needRoom_10 (by decide) ?_
  refine lv_iload_n hx hb dX3_needRoom_13 rfl (lv_at hl 1 rfl) ?_
  refine lv_ldc (v := nI 100000) hx hb hown (hts _ tb_205) dX3_needRoom_14 ?_
  refine lv_aload_n hx hb dX3_needRoom_16 rfl (lv_at hl 0 rfl) ?_
  refine r_get hx hb hts hown hK ((RO.nil hro.1).here hAe hW) rfl in_X3 3 (by decide) tb_100 (fun _ h => h) rfl dX3_needRoom_17 ?_
  refine n_isub hx hb (by omega) dX3_needRoom_20 ?_
  by_cases hq : g + wg ≤ 100000
  · refine n_le_t (tgt := 34) hx hb (by omega) (by omega) dX3_needRoom_21 (by decide) ?_
    exact vx_ret (e_void hx hb hr hlk hAe hW (by omega) (by omega) dX3_needRoom_34 ⟨rfl, rfl, hq⟩)
  · refine n_le_f (tgt := 34) hx hb (by omega) (by omega) dX3_needRoom_21 (by decide) ?_
    exact th_ISE hx hb hst hown hts hG hW hml hl hex hlk (is := 153) (text := "there are 4000 vectors, or they would weigh more than 100000") (by decide) dX3_needRoom_24 dX3_needRoom_27 dX3_needRoom_28 dX3_needRoom_30 dX3_needRoom_33 (by omega) (by rw [hRl]; exact Nat.le_of_ble_eq_true rfl) (by omega) (by omega) ⟨rfl, hq⟩ hsm (by omega) (by omega)
set_option maxHeartbeats 4000000 in
set_option maxRecDepth 100000 in
theorem k_bitsOf (l : Launch) (hst : l.stackTraces = false) (Z : Zt) (hb0 hk hc hm : Nat) (mo : Int32) (n wg : Nat) (o : Option (Nat × Nat × (Nat → Option Nat))) (vd vb stb : Nat → Nat) (xv : Int32) (ho : lok n o vd) : MX l yX3_bitsOf cX3_bitsOf 2 (some (.array .int)) 6 130 (1) (6) Z ([]) (fun H => zat Z (eo hb0 3 [.ref hk, .ref hc, .ref hm, .int (nI wg)]) H ∧ va_P Z.1 classes (lst Z hm mo n o) H ∧ ∀ i, i < n → zat Z (eo (vd i) 2 [.ref (vb i), .int (nI (stb i))]) H) [.ref hb0, .int xv] (fun v w1 => w1 = [] ∧ ∃ i, i < n ∧ xv = nI i ∧ v = some (.ref (vb i))) (fun E => E = IAE ∧ ¬ vix xv n) := by
  refine mx_of (by decide) (Nat.le_of_ble_eq_true rfl) (fun p e s m below meth c ls A hx hb hr hts hown hlk hml hex hK hG hW hA hAe hro hl R hRf hRc hRs hRl => ?_)
  have hl : lv_has ls 2 [(0, .ref hb0), (1, .int xv)] := hl
  have hsm : ∀ q : Nat, q < s.heap.size → s.heap[q]? = s.heap[q]? := fun _ _ => rfl
  have hn := ho.1
  have hlo := hro.2.1 0 _ rfl
  refine lv_iload_n hx hb dX3_bitsOf_0 rfl (lv_at hl 1 rfl) ?_
  refine lv_if_lt (tgt := 15) hx hb dX3_bitsOf_1 (by decide) (fun q1 => ?_) (fun q1 => ?_)
  all_goals rw [i_neg] at q1
  · exact th_IAE hx hb hst hown hts hG hW hml hl hex hlk (is := 156) (text := "there is no such vector") (by decide) dX3_bitsOf_15 dX3_bitsOf_18 dX3_bitsOf_19 dX3_bitsOf_21 dX3_bitsOf_24 (by omega) (by rw [hRl]; exact Nat.le_of_ble_eq_true rfl) (by omega) (by omega) ⟨rfl, fun h => by rw [vix_iff _ (by omega)] at h; omega⟩ hsm (by omega) (by omega)
  · refine lv_iload_n hx hb dX3_bitsOf_4 rfl (lv_at hl 1 rfl) ?_
    refine lv_aload_n hx hb dX3_bitsOf_5 rfl (lv_at hl 0 rfl) ?_
    refine r_get hx hb hts hown hK ((RO.nil hro.1).here hAe hW) rfl in_X3 2 (by decide) tb_99 (fun _ h => h) rfl dX3_bitsOf_6 ?_
    have hsz0 := hW.2.2.1
    refine c_virt (As := []) (rest := [.int xv]) (wc := []) (wr := []) (nl := 0) hx hb hml hown hts hK hG rfl hA hl (k_size l Z hm mo (lsq Z o) n) hW ((RO.nil hlo).here hAe hW) ((RO.nil hlo).here hAe hW) rfl rfl tb_118 tb_119 tb_120 tb_6 tb_121 (nA := 0) (by decide +kernel) rfl ⟨by omega, by omega⟩ ⟨by omega, by omega⟩ rfl (Nat.le_of_ble_eq_true rfl) dX3_bitsOf_9 (fun v w1 H1 L1 hp hW hzz hkk hdd => ?_)
    obtain ⟨rfl, rfl⟩ := hp
    have hsm := sm_step hsz0 hkk hsm
    clear hzz hkk hdd
    generalize H1 = H at hW hsm ⊢
    generalize L1 = locs at hW ⊢
    have hW : Wd Z A s.heap ([]) _ _ := hW
    refine W.eq (g2 := F0 m 12 ls [.int (nI n), .int xv]) rfl ?_
    refine lv_icmp_lt (tgt := 25) hx hb dX3_bitsOf_12 (by decide) (fun q2 => ?_) (fun q2 => ?_)
    all_goals rw [i_lt _ (by omega)] at q2
    · obtain ⟨i, hi, exv⟩ := (vix_iff xv (by omega)).mpr ⟨by omega, q2⟩
      subst exv
      obtain ⟨ce, f, hce, hnc, hf, hzf⟩ : ∃ (ce : Nat) (f : Nat → Option Nat), ce ≤ 768 ∧ n ≤ ce ∧ f i = some (vd i) ∧ zat Z (er Z (lsq Z o) ce f) s.heap := by
        cases o with
        | none => exact absurd ho.2 (by omega)
        | some z => exact ⟨z.2.1, z.2.2, ho.2.2.1, ho.2.1, ho.2.2.2.2.1 i hi, hro.2.1 1 _ rfl⟩
      refine lv_aload_n hx hb dX3_bitsOf_25 rfl (lv_at hl 0 rfl) ?_
      refine r_get hx hb hts hown hK ((RO.nil hro.1).here hAe hW) rfl in_X3 2 (by decide) tb_99 (fun _ h => h) rfl dX3_bitsOf_26 ?_
      refine lv_iload_n hx hb dX3_bitsOf_29 rfl (lv_at hl 1 rfl) ?_
      refine c_virt (As := [.int (nI i)]) (rest := []) (wc := []) (wr := []) (nl := 0) hx hb hml hown hts hK hG rfl hA hl (k_get l Z hm mo (lsq Z o) n i ce (vd i) f hi hnc (by omega) hf) hW ⟨((RO.nil hlo).here hAe hW), ((RO.nil hzf).here hAe hW)⟩ ((RO.nil hlo).here hAe hW) rfl rfl tb_342 tb_343 tb_344 tb_6 tb_345 (nA := 1) (by decide +kernel) rfl ⟨by omega, by omega⟩ ⟨by omega, by omega⟩ rfl (Nat.le_of_ble_eq_true rfl) dX3_bitsOf_30 (fun v w1 H1 L1 hp hW hzz hkk hdd => ?_)
      obtain ⟨rfl, rfl⟩ := hp
      clear hzz hkk hdd
      generalize H1 = H at hW  ⊢
      generalize L1 = locs at hW ⊢
      have hW : Wd Z A s.heap ([]) _ _ := hW
      refine W.eq (g2 := F0 m 33 ls [.ref (vd i)]) rfl ?_
      refine va_castY hx hb hown (hts _ tb_246) (hG.1.1 (RX2, RX2) (by simp [nw_cast])) (va_recv (q0 := 0) (ci := 2) (q := (RX2, TX2, 2)) hK (zat_one ((RO.nil (hro.2.2 i hi)).here hAe hW)) rfl rfl) dX3_bitsOf_33 ?_
      refine r_get hx hb hts hown hK ((RO.nil (hro.2.2 i hi)).here hAe hW) rfl in_X2 0 (by decide) tb_253 (fun _ h => h) rfl dX3_bitsOf_36 ?_
      exact vx_ret (e_ref hx hb hr (Or.inr ⟨_, rfl⟩) hlk hAe hW (by omega) (by omega) dX3_bitsOf_39 ⟨rfl, i, hi, rfl, rfl⟩)
    · exact th_IAE hx hb hst hown hts hG hW hml hl hex hlk (is := 156) (text := "there is no such vector") (by decide) dX3_bitsOf_15 dX3_bitsOf_18 dX3_bitsOf_19 dX3_bitsOf_21 dX3_bitsOf_24 (by omega) (by rw [hRl]; exact Nat.le_of_ble_eq_true rfl) (by omega) (by omega) ⟨rfl, fun h => by rw [vix_iff _ (by omega)] at h; omega⟩ hsm (by omega) (by omega)
end
section
/-! the bench: its own cells, its vectors -/
theorem Wd.swap2 {Z : Zt} {A : Nat → Prop} {H0 H : Heap} {w1 wc : va_W} {locs : List Loc} (h : Wd Z A H0 (w1 ++ wc) H locs) : Wd Z A H0 (wc ++ w1) H locs := by
  have h2 : Wd Z A H0 (w1 ++ (wc ++ [])) H locs := by rw [List.append_nil]; exact h
  have h3 := h2.rot
  rw [List.append_nil] at h3
  exact h3
theorem Wd.swapR {Z : Zt} {A : Nat → Prop} {H0 H : Heap} {w1 wl we : va_W} {locs : List Loc} (h : Wd Z A H0 (w1 ++ wl ++ we) H locs) : Wd Z A H0 (w1 ++ we ++ wl) H locs := by
  have h1 : Wd Z A H0 (wl ++ (w1 ++ we)) H locs := by
    rw [List.append_assoc] at h
    exact h.rot
  exact h1.swap2
abbrev bo (hb0 hk hc hm wg : Nat) : Nat × va_E := eo hb0 3 [.ref hk, .ref hc, .ref hm, .int (nI wg)]
/-- the bench's object and its list -/
abbrev bl (Z : Zt) (hb0 hk hc hm wg : Nat) (mo : Int32) (n : Nat) (o : Option (Nat × Nat × (Nat → Option Nat))) : va_W := bo hb0 hk hc hm wg :: lst Z hm mo n o
abbrev vo (vd vb stb : Nat → Nat) (i : Nat) : Nat × va_E := eo (vd i) 2 [.ref (vb i), .int (nI (stb i))]
/-- what the bench reads and never writes -/
def BRO (Z : Zt) (W : va_W) (hk hc n : Nat) (vd vb stb wd : Nat → Nat) (rw : Nat → Nat → Nat) (H : Heap) : Prop := RO Z W (eo hk 1 [.ref hc]) H ∧ ∀ i, i < n → RO Z W (vo vd vb stb i) H ∧ RO Z W (ea Z (vb i) (wd i) (rw i)) H
/-- the bench's numbers -/
def bok (x : CS) (σ : Nat → Bool) (n wg : Nat) (o : Option (Nat × Nat × (Nat → Option Nat))) (vd stb wd : Nat → Nat) (rw : Nat → Nat → Nat) : Prop :=
  cok x σ ∧ lok n o vd ∧ wg ≤ 100000 ∧ xn x ≤ wg + 2 ∧ n < 512 ∧ (∀ i, i < n → 1 ≤ wd i ∧ wd i ≤ 64 ∧ stb i ≤ 1 ∧ ∀ j, j < wd i → rw i j < xn x)
/-- behind a call that made a vector of weight g and width w with k gates more -/
def newQ (Z : Zt) (hb0 hk hc hm : Nat) (x : CS) (σ : Nat → Bool) (mo : Int32) (n wg : Nat) (vd : Nat → Nat) (g k w st : Nat) (S : CS → (Nat → Nat) → Prop) (v : Option Value) (w1 : va_W) : Prop :=
  ∃ (y : CS) (nv q : Nat) (f : Nat → Nat) (o2 : Option (Nat × Nat × (Nat → Option Nat))), v = some (.int (nI n)) ∧ w1 = cw Z hc y ++ [eo nv 2 [.ref q, .int (nI st)], ea Z q w f] ++ bl Z hb0 hk hc hm (wg + g) (mo + nI 1) (n + 1) o2 ∧ stp x σ k y ∧ (∀ j, j < w → f j < xn y) ∧ addQ n nv vd o2 ∧ S y f
theorem BRO.here {Z : Zt} {A : Nat → Prop} {H0 H : Heap} {W ws : va_W} {hk hc n : Nat} {vd vb stb wd : Nat → Nat} {rw : Nat → Nat → Nat} {locs : List Loc} (h : BRO Z W hk hc n vd vb stb wd rw H0) (hAe : A = va_A W H0.size) (hW : Wd Z A H0 ws H locs) {i : Nat} (hi : i < n) : zat Z (vo vd vb stb i) H ∧ zat Z (ea Z (vb i) (wd i) (rw i)) H := ⟨(h.2 i hi).1.here hAe hW, (h.2 i hi).2.here hAe hW⟩
end
section
set_option maxHeartbeats 4000000 in
set_option maxRecDepth 100000 in
/-- VectorBench.keep -/
theorem k_keep (l : Launch) (Z : Zt) (hb0 hk hc hm : Nat) (mo : Int32) (n wg g v : Nat) (o : Option (Nat × Nat × (Nat → Option Nat))) (vd : Nat → Nat) (ho : lok n o vd) (hn5 : n < 512) (hg : g + wg ≤ 100000) : MC l yX3_keep cX3_keep 3 (some .int) 9 360 (1) (768) Z (bl Z hb0 hk hc hm wg mo n o) (fun H => (∃ fs, RO Z (bl Z hb0 hk hc hm wg mo n o) (eo v 2 fs) H) ∧ ∀ i, i < n → ∃ fs, RO Z (bl Z hb0 hk hc hm wg mo n o) (eo (vd i) 2 fs) H) [.ref hb0, .ref v, .int (nI g)] (fun r w1 => ∃ o2, r = some (.int (nI n)) ∧ w1 = bl Z hb0 hk hc hm (wg + g) (mo + nI 1) (n + 1) o2 ∧ addQ n v vd o2) := by
  refine mc_of (by decide) (Nat.le_of_ble_eq_true rfl) (fun p e s m below meth c ls A hx hb hr hts hown hlk hml hin hK hG hW hA hAe hro hl R hRf hRc hRs hRl => ?_)
  have hl : lv_has ls 3 [(0, .ref hb0), (1, .ref v), (2, .int (nI g))] := hl
  refine lv_aload_n hx hb dX3_keep_0 rfl (lv_at hl 0 rfl) ?_
  refine r_get hx hb hts hown hK (hW.at 0 rfl) rfl in_X3 2 (by decide) tb_99 (fun _ h => h) rfl dX3_keep_1 ?_
  refine lv_aload_n hx hb dX3_keep_4 rfl (lv_at hl 1 rfl) ?_
  have hW : Wd Z A s.heap (lst Z hm mo n o ++ [bo hb0 hk hc hm wg]) _ _ := Wd.swap2 (w1 := [bo hb0 hk hc hm wg]) (wc := lst Z hm mo n o) hW
  have mv : ∀ q : Nat × va_E, RO Z (bl Z hb0 hk hc hm wg mo n o) q s.heap → RO Z (lst Z hm mo n o) q _ := fun q h => RO.pass h hAe hW
  refine c_virt (As := [.ref v]) (rest := []) (wc := lst Z hm mo n o) (wr := [eo hb0 3 [.ref hk, .ref hc, .ref hm, .int (nI wg)]]) (nl := 0) hx hb hml hown hts hK hG rfl hA hl (k_add l Z hm mo n v o vd ho hn5) hW ⟨hro.1.elim fun fs h => ⟨fs, mv _ h⟩, fun i hi => (hro.2 i hi).elim fun fs h => ⟨fs, mv _ h⟩⟩ (hW.at 0 rfl) rfl rfl tb_265 tb_266 tb_267 tb_6 tb_268 (nA := 1) (by decide +kernel) rfl ⟨by omega, by omega⟩ ⟨by omega, by omega⟩ rfl (Nat.le_of_ble_eq_true rfl) dX3_keep_5 (fun v w1 H1 L1 hp hW hzz hkk hdd => ?_)
  obtain ⟨o2, rfl, rfl, ha⟩ := hp
  clear hzz hkk hdd
  generalize H1 = H at hW  ⊢
  generalize L1 = locs at hW ⊢
  have hW : Wd Z A s.heap (lst Z hm (mo + nI 1) (n + 1) o2 ++ [eo hb0 3 [.ref hk, .ref hc, .ref hm, .int (nI wg)]]) _ _ := hW
  refine W.eq (g2 := F0 m 8 ls [.int (nI 1)]) rfl ?_
  have hW : Wd Z A s.heap (bl Z hb0 hk hc hm wg (mo + nI 1) (n + 1) o2) _ _ := Wd.swap2 (w1 := lst Z hm (mo + nI 1) (n + 1) o2) (wc := [bo hb0 hk hc hm wg]) hW
  refine lv_pop hx hb dX3_keep_8 rfl ?_
  refine lv_aload_n hx hb dX3_keep_9 rfl (lv_at hl 0 rfl) ?_
  refine lv_dup hx hb dX3_keep_10 rfl ?_
  refine r_get hx hb hts hown hK (hW.at 0 rfl) rfl in_X3 3 (by decide) tb_100 (fun _ h => h) rfl dX3_keep_11 ?_
  refine lv_iload_n hx hb dX3_keep_14 rfl (lv_at hl 2 rfl) ?_
  refine n_iadd hx hb dX3_keep_15 ?_
  refine r_put hx hb hts hown hK hW 0 (v := .int (nI (wg + g))) rfl rfl in_X3 tyX3 tyX3_ok nmX3 3 (by decide) tb_100 (fun _ h => h) rfl rfl rfl (Nat.le_of_ble_eq_true rfl) dX3_keep_16 (fun H locs hW => ?_)
  have hW : Wd Z A s.heap ([eo hb0 3 [.ref hk, .ref hc, .ref hm, .int (nI (wg + g))]] ++ lst Z hm (mo + nI 1) (n + 1) o2) _ _ := hW
  refine lv_aload_n hx hb dX3_keep_19 rfl (lv_at hl 0 rfl) ?_
  refine r_get hx hb hts hown hK (hW.at 0 rfl) rfl in_X3 2 (by decide) tb_99 (fun _ h => h) rfl dX3_keep_20 ?_
  refine c_virt (As := []) (rest := []) (wc := []) (wr := [eo hb0 3 [.ref hk, .ref hc, .ref hm, .int (nI (wg + g))]] ++ lst Z hm (mo + nI 1) (n + 1) o2) (nl := 0) hx hb hml hown hts hK hG rfl hA hl (k_size l Z hm (mo + nI 1) (lsq Z o2) (n + 1)) hW (hW.at 1 rfl) (hW.at 1 rfl) rfl rfl tb_118 tb_119 tb_120 tb_6 tb_121 (nA := 0) (by decide +kernel) rfl ⟨by omega, by omega⟩ ⟨by omega, by omega⟩ rfl (Nat.le_of_ble_eq_true rfl) dX3_keep_23 (fun v w1 H1 L1 hp hW hzz hkk hdd => ?_)
  obtain ⟨rfl, rfl⟩ := hp
  clear hzz hkk hdd
  generalize H1 = H at hW  ⊢
  generalize L1 = locs at hW ⊢
  have hW : Wd Z A s.heap ([eo hb0 3 [.ref hk, .ref hc, .ref hm, .int (nI (wg + g))]] ++ lst Z hm (mo + nI 1) (n + 1) o2) _ _ := hW
  refine W.eq (g2 := F0 m 26 ls [.int (nI (n + 1))]) rfl ?_
  refine lv_iconst (v := nI 1) hx hb dX3_keep_26 (by decide) ?_
  refine n_isub hx hb (by omega) dX3_keep_27 ?_
  have hW : Wd Z A s.heap (bl Z hb0 hk hc hm (wg + g) (mo + nI 1) (n + 1) o2) _ _ := hW
  exact e_int hx hb hr hlk hAe hW (by omega) (by omega) dX3_keep_28 ⟨o2, by rw [Nat.add_sub_cancel], rfl, ha⟩
set_option maxHeartbeats 4000000 in
set_option maxRecDepth 100000 in
theorem k_weight (l : Launch) (Z : Zt) (hb0 hk hc hm : Nat) (x : CS) (σ : Nat → Bool) (mo : Int32) (n wg : Nat) (o : Option (Nat × Nat × (Nat → Option Nat))) (vd vb stb wd : Nat → Nat) (rw : Nat → Nat → Nat)  : MC l yX3_weight cX3_weight 1 (some .int) 0 0 (0) (0) Z (cw Z hc x ++ bl Z hb0 hk hc hm wg mo n o) (fun _ => True) [.ref hb0] (fun r w1 => r = some (.int (nI wg)) ∧ w1 = cw Z hc x ++ bl Z hb0 hk hc hm wg mo n o) := by
  refine mc_of (by decide) (Nat.le_of_ble_eq_true rfl) (fun p e s m below meth c ls A hx hb hr hts hown hlk hml hin hK hG hW hA hAe hro hl R hRf hRc hRs hRl => ?_)
  have hl : lv_has ls 1 [(0, .ref hb0)] := hl
  refine lv_aload_n hx hb dX3_weight_0 rfl (lv_at hl 0 rfl) ?_
  refine r_get hx hb hts hown hK (hW.at 5 rfl) rfl in_X3 3 (by decide) tb_100 (fun _ h => h) rfl dX3_weight_1 ?_
  exact e_int hx hb hr hlk hAe hW (by omega) (by omega) dX3_weight_4 ⟨rfl, rfl⟩
set_option maxHeartbeats 4000000 in
set_option maxRecDepth 100000 in
theorem k_vectors (l : Launch) (Z : Zt) (hb0 hk hc hm : Nat) (x : CS) (σ : Nat → Bool) (mo : Int32) (n wg : Nat) (o : Option (Nat × Nat × (Nat → Option Nat))) (vd vb stb wd : Nat → Nat) (rw : Nat → Nat → Nat)  : MC l yX3_vectors cX3_vectors 1 (some .int) 2 60 (0) (0) Z (cw Z hc x ++ bl Z hb0 hk hc hm wg mo n o) (fun _ => True) [.ref hb0] (fun r w1 => r = some (.int (nI n)) ∧ w1 = cw Z hc x ++ bl Z hb0 hk hc hm wg mo n o) := by
  refine mc_of (by decide) (Nat.le_of_ble_eq_true rfl) (fun p e s m below meth c ls A hx hb hr hts hown hlk hml hin hK hG hW hA hAe hro hl R hRf hRc hRs hRl => ?_)
  have hl : lv_has ls 1 [(0, .ref hb0)] := hl
  refine lv_aload_n hx hb dX3_vectors_0 rfl (lv_at hl 0 rfl) ?_
  refine r_get hx hb hts hown hK (hW.at 5 rfl) rfl in_X3 2 (by decide) tb_99 (fun _ h => h) rfl dX3_vectors_1 ?_
  refine c_virt (As := []) (rest := []) (wc := []) (wr := cw Z hc x ++ bl Z hb0 hk hc hm wg mo n o) (nl := 0) hx hb hml hown hts hK hG rfl hA hl (k_size l Z hm mo (lsq Z o) n) hW (hW.at 6 rfl) (hW.at 6 rfl) rfl rfl tb_118 tb_119 tb_120 tb_6 tb_121 (nA := 0) (by decide +kernel) rfl ⟨by omega, by omega⟩ ⟨by omega, by omega⟩ rfl (Nat.le_of_ble_eq_true rfl) dX3_vectors_4 (fun v w1 H1 L1 hp hW hzz hkk hdd => ?_)
  obtain ⟨rfl, rfl⟩ := hp
  clear hzz hkk hdd
  generalize H1 = H at hW  ⊢
  generalize L1 = locs at hW ⊢
  have hW : Wd Z A s.heap (cw Z hc x ++ bl Z hb0 hk hc hm wg mo n o) _ _ := hW
  refine W.eq (g2 := F0 m 7 ls [.int (nI n)]) rfl ?_
  exact e_int hx hb hr hlk hAe hW (by omega) (by omega) dX3_vectors_7 ⟨rfl, rfl⟩
theorem lbit (v : Int64) (i : Nat) (hi : i < 64) : ((v.toUInt64 >>> ((nI i).toInt64.toUInt64 &&& Int64.toUInt64 63)).toInt64 &&& 1).toInt32 = nI (v.toUInt64.toNat.testBit i).toNat := by
  have h1 : ((nI i).toInt64.toUInt64 &&& Int64.toUInt64 63) = UInt64.ofNat i := by
    revert i; decide
  rw [h1]
  have h2 : (v.toUInt64 >>> UInt64.ofNat i).toNat = v.toUInt64.toNat / 2 ^ i := by
    rw [UInt64.toNat_shiftRight, UInt64.toNat_ofNat', Nat.mod_eq_of_lt (show i % 2 ^ 64 < 64 by omega), Nat.mod_eq_of_lt (show i < 2 ^ 64 by omega), Nat.shiftRight_eq_div_pow]
  have h3 : ((v.toUInt64 >>> UInt64.ofNat i).toInt64 &&& 1) = Int64.ofNat (v.toUInt64.toNat.testBit i).toNat := by
    apply Int64.toBitVec_inj.mp
    apply BitVec.eq_of_toNat_eq
    show ((v.toUInt64 >>> UInt64.ofNat i) &&& 1).toNat = (Int64.ofNat (v.toUInt64.toNat.testBit i).toNat).toUInt64.toNat
    rw [UInt64.toNat_and, h2, Nat.toNat_testBit]
    have e : (Int64.ofNat (v.toUInt64.toNat / 2 ^ i % 2)).toUInt64.toNat = v.toUInt64.toNat / 2 ^ i % 2 := by
      rcases (show v.toUInt64.toNat / 2 ^ i % 2 = 0 ∨ v.toUInt64.toNat / 2 ^ i % 2 = 1 by omega) with h | h <;> rw [h] <;> decide
    rw [e]
    exact Nat.and_one_is_mod _
  rw [h3]
  cases v.toUInt64.toNat.testBit i <;> decide
set_option maxHeartbeats 4000000 in
set_option maxRecDepth 100000 in
theorem k_bitOf (l : Launch) (Z : Zt) (v : Int64) (i : Nat) (hi : i < 64) : MC l yX3_bitOf cX3_bitOf 3 (some .int) 0 0 (0) (0) Z ([]) (fun _ => True) [.long v, .int (nI i)] (fun r w1 => r = some (.int (nI (v.toUInt64.toNat.testBit i).toNat)) ∧ w1 = []) := by
  refine mc_of (by decide) (Nat.le_of_ble_eq_true rfl) (fun p e s m below meth c ls A hx hb hr hts hown hlk hml hin hK hG hW hA hAe hro hl R hRf hRc hRs hRl => ?_)
  have hl : lv_has ls 3 [(0, .long v), (2, .int (nI i))] := hl
  refine lv_lload_n hx hb dX3_bitOf_0 rfl (lv_at hl 0 rfl) ?_
  refine lv_iload_n hx hb dX3_bitOf_1 rfl (lv_at hl 1 rfl) ?_
  refine lv_lushr (v := (v.toUInt64 >>> ((nI i).toInt64.toUInt64 &&& Int64.toUInt64 63)).toInt64) hx hb dX3_bitOf_2 rfl ?_
  refine lv_lconst (v := 1) hx hb dX3_bitOf_3 (by decide) ?_
  refine lv_land hx hb dX3_bitOf_4 ?_
  refine lv_l2i (v := nI (v.toUInt64.toNat.testBit i).toNat) hx hb dX3_bitOf_5 (lbit v i hi) ?_
  exact e_int hx hb hr hlk hAe hW (by omega) (by omega) dX3_bitOf_6 ⟨rfl, rfl⟩
set_option maxHeartbeats 4000000 in
set_option maxRecDepth 100000 in
theorem k_width (l : Launch) (hst : l.stackTraces = false) (Z : Zt) (hb0 hk hc hm : Nat) (x : CS) (σ : Nat → Bool) (mo : Int32) (n wg : Nat) (o : Option (Nat × Nat × (Nat → Option Nat))) (vd vb stb wd : Nat → Nat) (rw : Nat → Nat → Nat) (xv : Int32) (hbok : bok x σ n wg o vd stb wd rw) : MX l yX3_width cX3_width 2 (some .int) 7 160 (1) (6) Z (cw Z hc x ++ bl Z hb0 hk hc hm wg mo n o) (fun H => BRO Z (cw Z hc x ++ bl Z hb0 hk hc hm wg mo n o) hk hc n vd vb stb wd rw H) [.ref hb0, .int xv] (fun r w1 => w1 = cw Z hc x ++ bl Z hb0 hk hc hm wg mo n o ∧ ∃ i, i < n ∧ xv = nI i ∧ r = some (.int (nI (wd i)))) (fun E => E = IAE ∧ ¬ vix xv n) := by
  refine mx_of (by decide) (Nat.le_of_ble_eq_true rfl) (fun p e s m below meth c ls A hx hb hr hts hown hlk hml hex hK hG hW hA hAe hro hl R hRf hRc hRs hRl => ?_)
  have hl : lv_has ls 2 [(0, .ref hb0), (1, .int xv)] := hl
  have hsm : ∀ q : Nat, q < s.heap.size → s.heap[q]? = s.heap[q]? := fun _ _ => rfl
  refine lv_aload_n hx hb dX3_width_0 rfl (lv_at hl 0 rfl) ?_
  refine lv_iload_n hx hb dX3_width_1 rfl (lv_at hl 1 rfl) ?_
  have hsz0 := hW.2.2.1
  refine x_virt (As := [.int xv]) (rest := []) (wc := []) (wr := cw Z hc x ++ bl Z hb0 hk hc hm wg mo n o) hx hb hml hown hts hK hG rfl hA hl (k_bitsOf l hst Z hb0 hk hc hm mo n wg o vd vb stb xv hbok.2.1) hW ⟨hW.at 5 rfl, suf_P (wc := cw Z hc x ++ [bo hb0 hk hc hm wg]) hW.1, fun i hi => (hro.here hAe hW hi).1⟩ (hW.at 5 rfl) rfl rfl tb_337 tb_339 ts_6 tb_1 tb_340 (nA := 1) (by decide +kernel) rfl ⟨by omega, by omega⟩ ⟨by omega, by omega⟩ rfl (Nat.le_of_ble_eq_true rfl) dX3_width_2 (fun E q9 ce H9 L9 hpx hWx hzx hkx hce hcv hcl => x_pass hex hlk (hpx) (Nat.le_trans hsz0 hzx) (fun q hq => (hkx q (Nat.lt_of_lt_of_le hq hsz0)).trans (hsm q hq)) hce hcv hcl hWx.2.2.2.2 (by omega) (by omega)) (fun v w1 H1 L1 hp hW hzz hkk hdd => ?_)
  obtain ⟨rfl, i, hi, exv, rfl⟩ := hp
  have hsm := sm_step hsz0 hkk hsm
  clear hzz hkk hdd
  generalize H1 = H at hW hsm ⊢
  generalize L1 = locs at hW ⊢
  have hW : Wd Z A s.heap (cw Z hc x ++ bl Z hb0 hk hc hm wg mo n o) _ _ := hW
  refine W.eq (g2 := F0 m 5 ls [.ref (vb i)]) rfl ?_
  refine r_len hx hb hK (hro.here hAe hW hi).2 dX3_width_5 ?_
  exact vx_ret (e_int hx hb hr hlk hAe hW (by omega) (by omega) dX3_width_6 ⟨rfl, i, hi, exv, rfl⟩)
end
section
def wt2 (k w : Nat) : Nat := match k with
  | 0 => 4 * w | 1 => 4 * w | 2 => 4 * w | 3 => 10 * w | 4 => 10 * w | 5 => 14 * w * w | 6 => 16 * w * w + 32 * w | 7 => 16 * w * w + 32 * w | 8 => 16 * w * w + 80 * w | 9 => 16 * w * w + 80 * w | _ => 30 * w
def G2 (k w : Nat) : Nat := match k with
  | 0 => 1 * w | 1 => 1 * w | 2 => 1 * w | 3 => 5 * w | 4 => 1 * w + 5 * w | 5 => pg w w | 6 => dg w w | 7 => dg w w | 8 => 18 * w + dg w w + (1 - 0) | 9 => 18 * w + dg w w + (1 - 1) | _ => sg w w + 3 * w
def V2 (x : CS) (ra rb : Nat → Nat) (w k : Nat) (τ : Nat → Bool) : Nat := match k with
  | 0 => bn (fun j => c_op 1 (vl x τ (ra j)) (vl x τ (rb j))) w
  | 1 => bn (fun j => c_op 2 (vl x τ (ra j)) (vl x τ (rb j))) w
  | 2 => bn (fun j => c_op 3 (vl x τ (ra j)) (vl x τ (rb j))) w
  | 3 => (rn x τ ra w + rn x τ rb w) % 2 ^ w
  | 4 => (rn x τ ra w + (2 ^ w - 1 - rn x τ rb w) + 1) % 2 ^ w
  | 5 => (rn x τ ra w * rn x τ rb w) % 2 ^ w
  | 6 => dvN 0 (rn x τ ra w) (rn x τ rb w) w
  | 7 => dvN 1 (rn x τ ra w) (rn x τ rb w) w
  | 8 => sdN 0 (vl x τ (ra (w - 1))) (vl x τ (rb (w - 1))) (rn x τ ra w) (rn x τ rb w) w
  | 9 => sdN 1 (vl x τ (ra (w - 1))) (vl x τ (rb (w - 1))) (rn x τ ra w) (rn x τ rb w) w
  | 10 => bn (fun j => vl x τ (mvd ra w (rn x τ rb w) 1 0 j)) w
  | 11 => bn (fun j => vl x τ (mvd ra w (rn x τ rb w) 0 0 j)) w
  | _ => bn (fun j => vl x τ (mvd ra w (rn x τ rb w) 0 (ra (w - 1)) j)) w
theorem G2_wt : ∀ k, k < 13 → ∀ w, w < 65 → 1 ≤ w → G2 k w ≤ wt2 k w := by decide +kernel
def GC (k w : Nat) : Nat := match k with
  | 0 => 2 * w + 1 | 1 => 6 * w + 1 | 2 => 6 * w | 3 => 1 + 1 + 6 * w + 1 | _ => 1 + 1 + 6 * w
def tn (x : CS) (τ : Nat → Bool) (r : Nat → Nat) (w : Nat) : Nat := bn (fun j => if j = w - 1 then !vl x τ (r j) else vl x τ (r j)) w
def VC (x : CS) (ra rb : Nat → Nat) (w k : Nat) (τ : Nat → Bool) : Bool := match k with
  | 0 => decide (rn x τ ra w = rn x τ rb w)
  | 1 => !decide (rn x τ rb w ≤ rn x τ ra w)
  | 2 => decide (rn x τ ra w ≤ rn x τ rb w)
  | 3 => !decide (tn x τ rb w ≤ tn x τ ra w)
  | _ => decide (tn x τ ra w ≤ tn x τ rb w)
set_option maxHeartbeats 4000000 in
set_option maxRecDepth 100000 in
theorem k_weightOfTwo (l : Launch) (Z : Zt) (k w : Nat) (hk : k ≤ 12) (hw : w ≤ 64) : MC l yX3_weightOfTwo cX3_weightOfTwo 2 (some .int) 0 0 (0) (0) Z ([]) (fun _ => True) [.int (nI k), .int (nI w)] (fun v w1 => v = some (.int (nI (wt2 k w))) ∧ w1 = []) := by
  refine mc_of (by decide) (Nat.le_of_ble_eq_true rfl) (fun p e s m below meth c ls A hx hb hr hts hown hlk hml hin hK hG hW hA hAe hro hl R hRf hRc hRs hRl => ?_)
  have hl : lv_has ls 2 [(0, .int (nI k)), (1, .int (nI w))] := hl
  rcases (show k = 0 ∨ k = 1 ∨ k = 2 ∨ k = 3 ∨ k = 4 ∨ k = 5 ∨ k = 6 ∨ k = 7 ∨ k = 8 ∨ k = 9 ∨ k = 10 ∨ k = 11 ∨ k = 12 by omega) with rfl | rfl | rfl | rfl | rfl | rfl | rfl | rfl | rfl | rfl | rfl | rfl | rfl
  · refine lv_iload_n hx hb dX3_weightOfTwo_0 rfl (lv_at hl 0 rfl) ?_
    refine lv_tableIn (off := 55) (tgt := 56) hx hb dX3_weightOfTwo_1 (by decide) (by decide) (by decide) (by decide) ?_
    refine lv_iconst (v := nI 4) hx hb dX3_weightOfTwo_56 (by decide) ?_
    refine lv_iload_n hx hb dX3_weightOfTwo_57 rfl (lv_at hl 1 rfl) ?_
    refine n_imul hx hb dX3_weightOfTwo_58 ?_
    exact e_int hx hb hr hlk hAe hW (by omega) (by omega) dX3_weightOfTwo_59 ⟨rfl, rfl⟩
  · refine lv_iload_n hx hb dX3_weightOfTwo_0 rfl (lv_at hl 0 rfl) ?_
    refine lv_tableIn (off := 55) (tgt := 56) hx hb dX3_weightOfTwo_1 (by decide) (by decide) (by decide) (by decide) ?_
    refine lv_iconst (v := nI 4) hx hb dX3_weightOfTwo_56 (by decide) ?_
    refine lv_iload_n hx hb dX3_weightOfTwo_57 rfl (lv_at hl 1 rfl) ?_
    refine n_imul hx hb dX3_weightOfTwo_58 ?_
    exact e_int hx hb hr hlk hAe hW (by omega) (by omega) dX3_weightOfTwo_59 ⟨rfl, rfl⟩
  · refine lv_iload_n hx hb dX3_weightOfTwo_0 rfl (lv_at hl 0 rfl) ?_
    refine lv_tableIn (off := 55) (tgt := 56) hx hb dX3_weightOfTwo_1 (by decide) (by decide) (by decide) (by decide) ?_
    refine lv_iconst (v := nI 4) hx hb dX3_weightOfTwo_56 (by decide) ?_
    refine lv_iload_n hx hb dX3_weightOfTwo_57 rfl (lv_at hl 1 rfl) ?_
    refine n_imul hx hb dX3_weightOfTwo_58 ?_
    exact e_int hx hb hr hlk hAe hW (by omega) (by omega) dX3_weightOfTwo_59 ⟨rfl, rfl⟩
  · refine lv_iload_n hx hb dX3_weightOfTwo_0 rfl (lv_at hl 0 rfl) ?_
    refine lv_tableIn (off := 59) (tgt := 60) hx hb dX3_weightOfTwo_1 (by decide) (by decide) (by decide) (by decide) ?_
    refine lv_bipush (v := nI 10) hx hb dX3_weightOfTwo_60 (by decide) ?_
    refine lv_iload_n hx hb dX3_weightOfTwo_62 rfl (lv_at hl 1 rfl) ?_
    refine n_imul hx hb dX3_weightOfTwo_63 ?_
    exact e_int hx hb hr hlk hAe hW (by omega) (by omega) dX3_weightOfTwo_64 ⟨rfl, rfl⟩
  · refine lv_iload_n hx hb dX3_weightOfTwo_0 rfl (lv_at hl 0 rfl) ?_
    refine lv_tableIn (off := 59) (tgt := 60) hx hb dX3_weightOfTwo_1 (by decide) (by decide) (by decide) (by decide) ?_
    refine lv_bipush (v := nI 10) hx hb dX3_weightOfTwo_60 (by decide) ?_
    refine lv_iload_n hx hb dX3_weightOfTwo_62 rfl (lv_at hl 1 rfl) ?_
    refine n_imul hx hb dX3_weightOfTwo_63 ?_
    exact e_int hx hb hr hlk hAe hW (by omega) (by omega) dX3_weightOfTwo_64 ⟨rfl, rfl⟩
  · refine lv_iload_n hx hb dX3_weightOfTwo_0 rfl (lv_at hl 0 rfl) ?_
    refine lv_tableIn (off := 64) (tgt := 65) hx hb dX3_weightOfTwo_1 (by decide) (by decide) (by decide) (by decide) ?_
    refine lv_bipush (v := nI 14) hx hb dX3_weightOfTwo_65 (by decide) ?_
    refine lv_iload_n hx hb dX3_weightOfTwo_67 rfl (lv_at hl 1 rfl) ?_
    refine n_imul hx hb dX3_weightOfTwo_68 ?_
    refine lv_iload_n hx hb dX3_weightOfTwo_69 rfl (lv_at hl 1 rfl) ?_
    refine n_imul hx hb dX3_weightOfTwo_70 ?_
    exact e_int hx hb hr hlk hAe hW (by omega) (by omega) dX3_weightOfTwo_71 ⟨rfl, rfl⟩
  · refine lv_iload_n hx hb dX3_weightOfTwo_0 rfl (lv_at hl 0 rfl) ?_
    refine lv_tableIn (off := 71) (tgt := 72) hx hb dX3_weightOfTwo_1 (by decide) (by decide) (by decide) (by decide) ?_
    refine lv_bipush (v := nI 16) hx hb dX3_weightOfTwo_72 (by decide) ?_
    refine lv_iload_n hx hb dX3_weightOfTwo_74 rfl (lv_at hl 1 rfl) ?_
    refine n_imul hx hb dX3_weightOfTwo_75 ?_
    refine lv_iload_n hx hb dX3_weightOfTwo_76 rfl (lv_at hl 1 rfl) ?_
    refine n_imul hx hb dX3_weightOfTwo_77 ?_
    refine lv_bipush (v := nI 32) hx hb dX3_weightOfTwo_78 (by decide) ?_
    refine lv_iload_n hx hb dX3_weightOfTwo_80 rfl (lv_at hl 1 rfl) ?_
    refine n_imul hx hb dX3_weightOfTwo_81 ?_
    refine n_iadd hx hb dX3_weightOfTwo_82 ?_
    exact e_int hx hb hr hlk hAe hW (by omega) (by omega) dX3_weightOfTwo_83 ⟨rfl, rfl⟩
  · refine lv_iload_n hx hb dX3_weightOfTwo_0 rfl (lv_at hl 0 rfl) ?_
    refine lv_tableIn (off := 71) (tgt := 72) hx hb dX3_weightOfTwo_1 (by decide) (by decide) (by decide) (by decide) ?_
    refine lv_bipush (v := nI 16) hx hb dX3_weightOfTwo_72 (by decide) ?_
    refine lv_iload_n hx hb dX3_weightOfTwo_74 rfl (lv_at hl 1 rfl) ?_
    refine n_imul hx hb dX3_weightOfTwo_75 ?_
    refine lv_iload_n hx hb dX3_weightOfTwo_76 rfl (lv_at hl 1 rfl) ?_
    refine n_imul hx hb dX3_weightOfTwo_77 ?_
    refine lv_bipush (v := nI 32) hx hb dX3_weightOfTwo_78 (by decide) ?_
    refine lv_iload_n hx hb dX3_weightOfTwo_80 rfl (lv_at hl 1 rfl) ?_
    refine n_imul hx hb dX3_weightOfTwo_81 ?_
    refine n_iadd hx hb dX3_weightOfTwo_82 ?_
    exact e_int hx hb hr hlk hAe hW (by omega) (by omega) dX3_weightOfTwo_83 ⟨rfl, rfl⟩
  · refine lv_iload_n hx hb dX3_weightOfTwo_0 rfl (lv_at hl 0 rfl) ?_
    refine lv_tableIn (off := 83) (tgt := 84) hx hb dX3_weightOfTwo_1 (by decide) (by decide) (by decide) (by decide) ?_
    refine lv_bipush (v := nI 16) hx hb dX3_weightOfTwo_84 (by decide) ?_
    refine lv_iload_n hx hb dX3_weightOfTwo_86 rfl (lv_at hl 1 rfl) ?_
    refine n_imul hx hb dX3_weightOfTwo_87 ?_
    refine lv_iload_n hx hb dX3_weightOfTwo_88 rfl (lv_at hl 1 rfl) ?_
    refine n_imul hx hb dX3_weightOfTwo_89 ?_
    refine lv_bipush (v := nI 80) hx hb dX3_weightOfTwo_90 (by decide) ?_
    refine lv_iload_n hx hb dX3_weightOfTwo_92 rfl (lv_at hl 1 rfl) ?_
    refine n_imul hx hb dX3_weightOfTwo_93 ?_
    refine n_iadd hx hb dX3_weightOfTwo_94 ?_
    exact e_int hx hb hr hlk hAe hW (by omega) (by omega) dX3_weightOfTwo_95 ⟨rfl, rfl⟩
  · refine lv_iload_n hx hb dX3_weightOfTwo_0 rfl (lv_at hl 0 rfl) ?_
    refine lv_tableIn (off := 83) (tgt := 84) hx hb dX3_weightOfTwo_1 (by decide) (by decide) (by decide) (by decide) ?_
    refine lv_bipush (v := nI 16) hx hb dX3_weightOfTwo_84 (by decide) ?_
    refine lv_iload_n hx hb dX3_weightOfTwo_86 rfl (lv_at hl 1 rfl) ?_
    refine n_imul hx hb dX3_weightOfTwo_87 ?_
    refine lv_iload_n hx hb dX3_weightOfTwo_88 rfl (lv_at hl 1 rfl) ?_
    refine n_imul hx hb dX3_weightOfTwo_89 ?_
    refine lv_bipush (v := nI 80) hx hb dX3_weightOfTwo_90 (by decide) ?_
    refine lv_iload_n hx hb dX3_weightOfTwo_92 rfl (lv_at hl 1 rfl) ?_
    refine n_imul hx hb dX3_weightOfTwo_93 ?_
    refine n_iadd hx hb dX3_weightOfTwo_94 ?_
    exact e_int hx hb hr hlk hAe hW (by omega) (by omega) dX3_weightOfTwo_95 ⟨rfl, rfl⟩
  · refine lv_iload_n hx hb dX3_weightOfTwo_0 rfl (lv_at hl 0 rfl) ?_
    refine lv_tableOut (tgt := 96) hx hb dX3_weightOfTwo_1 (by decide) (by decide) ?_
    refine lv_bipush (v := nI 30) hx hb dX3_weightOfTwo_96 (by decide) ?_
    refine lv_iload_n hx hb dX3_weightOfTwo_98 rfl (lv_at hl 1 rfl) ?_
    refine n_imul hx hb dX3_weightOfTwo_99 ?_
    exact e_int hx hb hr hlk hAe hW (by omega) (by omega) dX3_weightOfTwo_100 ⟨rfl, rfl⟩
  · refine lv_iload_n hx hb dX3_weightOfTwo_0 rfl (lv_at hl 0 rfl) ?_
    refine lv_tableOut (tgt := 96) hx hb dX3_weightOfTwo_1 (by decide) (by decide) ?_
    refine lv_bipush (v := nI 30) hx hb dX3_weightOfTwo_96 (by decide) ?_
    refine lv_iload_n hx hb dX3_weightOfTwo_98 rfl (lv_at hl 1 rfl) ?_
    refine n_imul hx hb dX3_weightOfTwo_99 ?_
    exact e_int hx hb hr hlk hAe hW (by omega) (by omega) dX3_weightOfTwo_100 ⟨rfl, rfl⟩
  · refine lv_iload_n hx hb dX3_weightOfTwo_0 rfl (lv_at hl 0 rfl) ?_
    refine lv_tableOut (tgt := 96) hx hb dX3_weightOfTwo_1 (by decide) (by decide) ?_
    refine lv_bipush (v := nI 30) hx hb dX3_weightOfTwo_96 (by decide) ?_
    refine lv_iload_n hx hb dX3_weightOfTwo_98 rfl (lv_at hl 1 rfl) ?_
    refine n_imul hx hb dX3_weightOfTwo_99 ?_
    exact e_int hx hb hr hlk hAe hW (by omega) (by omega) dX3_weightOfTwo_100 ⟨rfl, rfl⟩
set_option maxHeartbeats 4000000 in
set_option maxRecDepth 100000 in
/-- VectorBench.reckonTwo -/
theorem k_reckonTwo (l : Launch) (Z : Zt) (hb0 hk hc hm wg : Nat) (x : CS) (σ : Nat → Bool) (k aa ab w : Nat) (ra rb : Nat → Nat) (hx0 : cok x σ) (hk12 : k ≤ 12) (hn : xn x + G2 k w < 400000) (hw : w ≤ 64) (hw1 : 1 ≤ w) (hra : ∀ j, j < w → ra j < xn x) (hrb : ∀ j, j < w → rb j < xn x) : MC l yX3_reckonTwo cX3_reckonTwo 4 (some (.array .int)) 9 400 (20 + 3 * w + 4 * (capU (xu x) (xn x + G2 k w) - xu x)) (220 * w + 10 + 512 * (capU (xu x) (xn x + G2 k w) - xu x)) Z (cw Z hc x) (fun H => RO Z (cw Z hc x) (bo hb0 hk hc hm wg) H ∧ RO Z (cw Z hc x) (eo hk 1 [.ref hc]) H ∧ RO Z (cw Z hc x) (ea Z aa w ra) H ∧ RO Z (cw Z hc x) (ea Z ab w rb) H) [.ref hb0, .int (nI k), .ref aa, .ref ab] (numQ Z hc x σ (G2 k w) w (V2 x ra rb w k)) := by
  refine mc_of (by decide) (Nat.le_of_ble_eq_true rfl) (fun p e s m below meth c ls A hx hb hr hts hown hlk hml hin hK hG hW hA hAe hro hl R hRf hRc hRs hRl => ?_)
  have hl : lv_has ls 4 [(0, .ref hb0), (1, .int (nI k)), (2, .ref aa), (3, .ref ab)] := hl
  have hx1 := stp.rf hx0
  have hx2 := hx0.1
  have hW : Wd Z A s.heap (cw Z hc x ++ []) _ _ := hW
  rcases (show k = 0 ∨ k = 1 ∨ k = 2 ∨ k = 3 ∨ k = 4 ∨ k = 5 ∨ k = 6 ∨ k = 7 ∨ k = 8 ∨ k = 9 ∨ k = 10 ∨ k = 11 ∨ k = 12 by omega) with rfl | rfl | rfl | rfl | rfl | rfl | rfl | rfl | rfl | rfl | rfl | rfl | rfl
  · have hGe : G2 0 w = 1 * w := rfl
    rw [hGe] at hRc hRs hn
    have hco := hx1.cost (j := 1 * w) (K := 1 * w) (by omega)
    refine lv_iload_n hx hb dX3_reckonTwo_0 rfl (lv_at hl 1 rfl) ?_
    refine lv_tableIn (off := 63) (tgt := 64) hx hb dX3_reckonTwo_1 (by decide) (by decide) (by decide) (by decide) ?_
    refine lv_aload_n hx hb dX3_reckonTwo_64 rfl (lv_at hl 0 rfl) ?_
    refine r_get hx hb hts hown hK (hro.1.here hAe hW) rfl in_X3 0 (by decide) tb_97 (fun _ h => h) rfl dX3_reckonTwo_65 ?_
    refine lv_iconst (v := nI 1) hx hb dX3_reckonTwo_68 (by decide) ?_
    refine lv_aload_n hx hb dX3_reckonTwo_69 rfl (lv_at hl 2 rfl) ?_
    refine lv_aload_n hx hb dX3_reckonTwo_70 rfl (lv_at hl 3 rfl) ?_
    refine c_virt (As := [.int (nI 1), .ref aa, .ref ab]) (rest := []) (wc := cw Z hc x) (wr := []) (nl := 0) hx hb hml hown hts hK hG rfl hA hl (k_joined l Z hk hc x σ 1 aa ab w ra rb hx0 (by omega) hw (by decide) (by decide) hra hrb) hW ⟨RO.pass hro.2.1 hAe hW, RO.pass hro.2.2.1 hAe hW, RO.pass hro.2.2.2 hAe hW⟩ (hro.2.1.here hAe hW) rfl rfl tb_407 tb_408 tb_409 tb_2 tb_410 (nA := 3) (by decide +kernel) rfl ⟨by omega, by omega⟩ ⟨by omega, by omega⟩ rfl (Nat.le_of_ble_eq_true rfl) dX3_reckonTwo_71 (fun v w1 H1 L1 hp hW hzz hkk hdd => ?_)
    obtain ⟨y, q, f, rfl, rfl, hst, hfb, hfs⟩ := hp
    clear hzz hkk hdd
    generalize H1 = H at hW  ⊢
    generalize L1 = locs at hW ⊢
    have hW : Wd Z A s.heap (cw Z hc y ++ [ea Z q w f]) _ _ := hW
    refine W.eq (g2 := F0 m 74 ls [.ref q]) rfl ?_
    have hu := hst.2.2.2
    refine e_ref hx hb hr (Or.inr ⟨_, rfl⟩) hlk hAe hW (by rw [hGe]; omega) (by rw [hGe]; omega) dX3_reckonTwo_74 ⟨y, q, f, rfl, rfl, by rw [hGe]; exact hst, hfb, fun τ hτ => ?_⟩
    exact bn_congr (hfs τ hτ)
  · have hGe : G2 1 w = 1 * w := rfl
    rw [hGe] at hRc hRs hn
    have hco := hx1.cost (j := 1 * w) (K := 1 * w) (by omega)
    refine lv_iload_n hx hb dX3_reckonTwo_0 rfl (lv_at hl 1 rfl) ?_
    refine lv_tableIn (off := 74) (tgt := 75) hx hb dX3_reckonTwo_1 (by decide) (by decide) (by decide) (by decide) ?_
    refine lv_aload_n hx hb dX3_reckonTwo_75 rfl (lv_at hl 0 rfl) ?_
    refine r_get hx hb hts hown hK (hro.1.here hAe hW) rfl in_X3 0 (by decide) tb_97 (fun _ h => h) rfl dX3_reckonTwo_76 ?_
    refine lv_iconst (v := nI 2) hx hb dX3_reckonTwo_79 (by decide) ?_
    refine lv_aload_n hx hb dX3_reckonTwo_80 rfl (lv_at hl 2 rfl) ?_
    refine lv_aload_n hx hb dX3_reckonTwo_81 rfl (lv_at hl 3 rfl) ?_
    refine c_virt (As := [.int (nI 2), .ref aa, .ref ab]) (rest := []) (wc := cw Z hc x) (wr := []) (nl := 0) hx hb hml hown hts hK hG rfl hA hl (k_joined l Z hk hc x σ 2 aa ab w ra rb hx0 (by omega) hw (by decide) (by decide) hra hrb) hW ⟨RO.pass hro.2.1 hAe hW, RO.pass hro.2.2.1 hAe hW, RO.pass hro.2.2.2 hAe hW⟩ (hro.2.1.here hAe hW) rfl rfl tb_407 tb_408 tb_409 tb_2 tb_410 (nA := 3) (by decide +kernel) rfl ⟨by omega, by omega⟩ ⟨by omega, by omega⟩ rfl (Nat.le_of_ble_eq_true rfl) dX3_reckonTwo_82 (fun v w1 H1 L1 hp hW hzz hkk hdd => ?_)
    obtain ⟨y, q, f, rfl, rfl, hst, hfb, hfs⟩ := hp
    clear hzz hkk hdd
    generalize H1 = H at hW  ⊢
    generalize L1 = locs at hW ⊢
    have hW : Wd Z A s.heap (cw Z hc y ++ [ea Z q w f]) _ _ := hW
    refine W.eq (g2 := F0 m 85 ls [.ref q]) rfl ?_
    have hu := hst.2.2.2
    refine e_ref hx hb hr (Or.inr ⟨_, rfl⟩) hlk hAe hW (by rw [hGe]; omega) (by rw [hGe]; omega) dX3_reckonTwo_85 ⟨y, q, f, rfl, rfl, by rw [hGe]; exact hst, hfb, fun τ hτ => ?_⟩
    exact bn_congr (hfs τ hτ)
  · have hGe : G2 2 w = 1 * w := rfl
    rw [hGe] at hRc hRs hn
    have hco := hx1.cost (j := 1 * w) (K := 1 * w) (by omega)
    refine lv_iload_n hx hb dX3_reckonTwo_0 rfl (lv_at hl 1 rfl) ?_
    refine lv_tableIn (off := 85) (tgt := 86) hx hb dX3_reckonTwo_1 (by decide) (by decide) (by decide) (by decide) ?_
    refine lv_aload_n hx hb dX3_reckonTwo_86 rfl (lv_at hl 0 rfl) ?_
    refine r_get hx hb hts hown hK (hro.1.here hAe hW) rfl in_X3 0 (by decide) tb_97 (fun _ h => h) rfl dX3_reckonTwo_87 ?_
    refine lv_iconst (v := nI 3) hx hb dX3_reckonTwo_90 (by decide) ?_
    refine lv_aload_n hx hb dX3_reckonTwo_91 rfl (lv_at hl 2 rfl) ?_
    refine lv_aload_n hx hb dX3_reckonTwo_92 rfl (lv_at hl 3 rfl) ?_
    refine c_virt (As := [.int (nI 3), .ref aa, .ref ab]) (rest := []) (wc := cw Z hc x) (wr := []) (nl := 0) hx hb hml hown hts hK hG rfl hA hl (k_joined l Z hk hc x σ 3 aa ab w ra rb hx0 (by omega) hw (by decide) (by decide) hra hrb) hW ⟨RO.pass hro.2.1 hAe hW, RO.pass hro.2.2.1 hAe hW, RO.pass hro.2.2.2 hAe hW⟩ (hro.2.1.here hAe hW) rfl rfl tb_407 tb_408 tb_409 tb_2 tb_410 (nA := 3) (by decide +kernel) rfl ⟨by omega, by omega⟩ ⟨by omega, by omega⟩ rfl (Nat.le_of_ble_eq_true rfl) dX3_reckonTwo_93 (fun v w1 H1 L1 hp hW hzz hkk hdd => ?_)
    obtain ⟨y, q, f, rfl, rfl, hst, hfb, hfs⟩ := hp
    clear hzz hkk hdd
    generalize H1 = H at hW  ⊢
    generalize L1 = locs at hW ⊢
    have hW : Wd Z A s.heap (cw Z hc y ++ [ea Z q w f]) _ _ := hW
    refine W.eq (g2 := F0 m 96 ls [.ref q]) rfl ?_
    have hu := hst.2.2.2
    refine e_ref hx hb hr (Or.inr ⟨_, rfl⟩) hlk hAe hW (by rw [hGe]; omega) (by rw [hGe]; omega) dX3_reckonTwo_96 ⟨y, q, f, rfl, rfl, by rw [hGe]; exact hst, hfb, fun τ hτ => ?_⟩
    exact bn_congr (hfs τ hτ)
  · have hGe : G2 3 w = 5 * w := rfl
    rw [hGe] at hRc hRs hn
    have hco := hx1.cost (j := 5 * w) (K := 5 * w) (by omega)
    refine lv_iload_n hx hb dX3_reckonTwo_0 rfl (lv_at hl 1 rfl) ?_
    refine lv_tableIn (off := 96) (tgt := 97) hx hb dX3_reckonTwo_1 (by decide) (by decide) (by decide) (by decide) ?_
    refine lv_aload_n hx hb dX3_reckonTwo_97 rfl (lv_at hl 0 rfl) ?_
    refine r_get hx hb hts hown hK (hro.1.here hAe hW) rfl in_X3 0 (by decide) tb_97 (fun _ h => h) rfl dX3_reckonTwo_98 ?_
    refine lv_aload_n hx hb dX3_reckonTwo_101 rfl (lv_at hl 2 rfl) ?_
    refine lv_aload_n hx hb dX3_reckonTwo_102 rfl (lv_at hl 3 rfl) ?_
    refine lv_iconst (v := nI 0) hx hb dX3_reckonTwo_103 (by decide) ?_
    refine c_virt (As := [.ref aa, .ref ab, .int (nI 0)]) (rest := []) (wc := cw Z hc x) (wr := []) (nl := 0) hx hb hml hown hts hK hG rfl hA hl (k_sum l Z hk hc x σ aa ab w w ra rb 0 hx0 (by omega) hw (Nat.le_refl _) (by omega) hra hrb (by omega)) hW ⟨RO.pass hro.2.1 hAe hW, RO.pass hro.2.2.1 hAe hW, RO.pass hro.2.2.2 hAe hW⟩ (hro.2.1.here hAe hW) rfl rfl tb_412 tb_373 tb_374 tb_2 tb_375 (nA := 3) (by decide +kernel) rfl ⟨by omega, by omega⟩ ⟨by omega, by omega⟩ rfl (Nat.le_of_ble_eq_true rfl) dX3_reckonTwo_104 (fun v w1 H1 L1 hp hW hzz hkk hdd => ?_)
    obtain ⟨y, q1, f1, rfl, rfl, hst, hfb, hfs⟩ := hp
    clear hzz hkk hdd
    generalize H1 = H at hW  ⊢
    generalize L1 = locs at hW ⊢
    have hW : Wd Z A s.heap (cw Z hc y ++ [ea Z q1 (w + 1) f1]) _ _ := hW
    refine W.eq (g2 := F0 m 107 ls [.ref q1]) rfl ?_
    have hu1 := hst.2.2.2
    refine c_stat (As := [.ref q1]) (rest := []) (wc := []) (wr := cw Z hc y ++ [ea Z q1 (w + 1) f1]) hx hb hml hown hts hK hG rfl hA hl (k_withoutCarry l Z q1 w f1 (by omega)) hW (hW.at 5 rfl) tb_413 tb_385 tb_2 tb_386 (nA := 1) (by decide +kernel) rfl ⟨by omega, by omega⟩ ⟨by omega, by omega⟩ rfl (Nat.le_of_ble_eq_true rfl) dX3_reckonTwo_107 (fun v w1 H1 L1 hp hW hzz hkk hdd => ?_)
    obtain ⟨q, f, rfl, rfl, hf⟩ := hp
    clear hzz hkk hdd
    generalize H1 = H at hW  ⊢
    generalize L1 = locs at hW ⊢
    have hW : Wd Z A s.heap ([ea Z q w f] ++ cw Z hc y ++ [ea Z q1 (w + 1) f1]) _ _ := hW
    refine W.eq (g2 := F0 m 110 ls [.ref q]) rfl ?_
    have hW : Wd Z A s.heap (cw Z hc y ++ [ea Z q w f]) _ _ := hW.sub [1, 2, 3, 4, 5, 0] (by decide) rfl
    refine e_ref hx hb hr (Or.inr ⟨_, rfl⟩) hlk hAe hW (by rw [hGe]; omega) (by rw [hGe]; omega) dX3_reckonTwo_110 ⟨y, q, f, rfl, rfl, by rw [hGe]; exact hst, fun j hj => (by rw [hf j hj]; exact hfb j (by omega)), fun τ hτ => ?_⟩
    have hs := hfs τ hτ
    rw [rn_s, vl_0 hx0 hτ] at hs
    rw [rn_congr hf, low_mod hs (rn_lt _ _ _ _)]
    rfl
  · have hGe : G2 4 w = 1 * w + 5 * w := rfl
    rw [hGe] at hRc hRs hn
    have hco := hx1.cost (j := 1 * w + 5 * w) (K := 1 * w + 5 * w) (by omega)
    refine lv_iload_n hx hb dX3_reckonTwo_0 rfl (lv_at hl 1 rfl) ?_
    refine lv_tableIn (off := 110) (tgt := 111) hx hb dX3_reckonTwo_1 (by decide) (by decide) (by decide) (by decide) ?_
    refine lv_aload_n hx hb dX3_reckonTwo_111 rfl (lv_at hl 0 rfl) ?_
    refine r_get hx hb hts hown hK (hro.1.here hAe hW) rfl in_X3 0 (by decide) tb_97 (fun _ h => h) rfl dX3_reckonTwo_112 ?_
    refine lv_aload_n hx hb dX3_reckonTwo_115 rfl (lv_at hl 2 rfl) ?_
    refine lv_aload_n hx hb dX3_reckonTwo_116 rfl (lv_at hl 0 rfl) ?_
    refine r_get hx hb hts hown hK (hro.1.here hAe hW) rfl in_X3 0 (by decide) tb_97 (fun _ h => h) rfl dX3_reckonTwo_117 ?_
    refine lv_aload_n hx hb dX3_reckonTwo_120 rfl (lv_at hl 3 rfl) ?_
    have hcoi := hx1.cost (j := 1 * w) (K := 1 * w + 5 * w) (by omega)
    refine c_virt (As := [.ref ab]) (rest := [.ref aa, .ref hk]) (wc := cw Z hc x) (wr := []) (nl := 0) hx hb hml hown hts hK hG rfl hA hl (k_inverted l Z hk hc x σ ab w rb hx0 (by omega) hw hrb) hW ⟨RO.pass hro.2.1 hAe hW, RO.pass hro.2.2.2 hAe hW⟩ (hro.2.1.here hAe hW) rfl rfl tb_356 tb_357 tb_358 tb_2 tb_359 (nA := 1) (by decide +kernel) rfl ⟨by omega, by omega⟩ ⟨by omega, by omega⟩ rfl (Nat.le_of_ble_eq_true rfl) dX3_reckonTwo_121 (fun v w1 H1 L1 hp hW hzz hkk hdd => ?_)
    obtain ⟨y0, q0, f0, rfl, rfl, hs0, hf0b, hf0⟩ := hp
    clear hzz hkk hdd
    generalize H1 = H at hW  ⊢
    generalize L1 = locs at hW ⊢
    have hW : Wd Z A s.heap (cw Z hc y0 ++ [ea Z q0 w f0]) _ _ := hW
    refine W.eq (g2 := F0 m 124 ls [.ref q0, .ref aa, .ref hk]) rfl ?_
    have hu0 := hs0.2.2.2
    have hn0 := hs0.2.2.1
    have hco0 := hs0.cost (j := 5 * w) (K := 1 * w + 5 * w) (by omega)
    refine lv_iconst (v := nI 1) hx hb dX3_reckonTwo_124 (by decide) ?_
    refine c_virt (As := [.ref aa, .ref q0, .int (nI 1)]) (rest := []) (wc := cw Z hc y0) (wr := [ea Z q0 w f0]) (nl := 0) hx hb hml hown hts hK hG rfl hA hl (k_sum l Z hk hc y0 σ aa q0 w w ra f0 1 hs0.1 (by omega) hw (Nat.le_refl _) (by omega) (fun j hj => by have := hra j hj; omega) hf0b (by have := hs0.1.1; omega)) hW ⟨RO.pass hro.2.1 hAe hW, RO.pass hro.2.2.1 hAe hW, RO.loc hW 0 rfl⟩ (hro.2.1.here hAe hW) rfl rfl tb_412 tb_373 tb_374 tb_2 tb_375 (nA := 3) (by decide +kernel) rfl ⟨by omega, by omega⟩ ⟨by omega, by omega⟩ rfl (Nat.le_of_ble_eq_true rfl) dX3_reckonTwo_125 (fun v w1 H1 L1 hp hW hzz hkk hdd => ?_)
    obtain ⟨y, q1, f1, rfl, rfl, hs1, hfb, hfs⟩ := hp
    clear hzz hkk hdd
    generalize H1 = H at hW  ⊢
    generalize L1 = locs at hW ⊢
    have hW : Wd Z A s.heap (cw Z hc y ++ [ea Z q1 (w + 1) f1, ea Z q0 w f0]) _ _ := hW
    refine W.eq (g2 := F0 m 128 ls [.ref q1]) rfl ?_
    have hst := hs0.tr hs1
    have hu1 := hs1.2.2.2
    refine c_stat (As := [.ref q1]) (rest := []) (wc := []) (wr := cw Z hc y ++ [ea Z q1 (w + 1) f1, ea Z q0 w f0]) hx hb hml hown hts hK hG rfl hA hl (k_withoutCarry l Z q1 w f1 (by omega)) hW (hW.at 5 rfl) tb_413 tb_385 tb_2 tb_386 (nA := 1) (by decide +kernel) rfl ⟨by omega, by omega⟩ ⟨by omega, by omega⟩ rfl (Nat.le_of_ble_eq_true rfl) dX3_reckonTwo_128 (fun v w1 H1 L1 hp hW hzz hkk hdd => ?_)
    obtain ⟨q, f, rfl, rfl, hf⟩ := hp
    clear hzz hkk hdd
    generalize H1 = H at hW  ⊢
    generalize L1 = locs at hW ⊢
    have hW : Wd Z A s.heap ([ea Z q w f] ++ cw Z hc y ++ [ea Z q1 (w + 1) f1, ea Z q0 w f0]) _ _ := hW
    refine W.eq (g2 := F0 m 131 ls [.ref q]) rfl ?_
    have hW : Wd Z A s.heap (cw Z hc y ++ [ea Z q w f]) _ _ := hW.sub [1, 2, 3, 4, 5, 0] (by decide) rfl
    refine e_ref hx hb hr (Or.inr ⟨_, rfl⟩) hlk hAe hW (by rw [hGe]; omega) (by rw [hGe]; omega) dX3_reckonTwo_131 ⟨y, q, f, rfl, rfl, by rw [hGe]; exact hst, fun j hj => (by rw [hf j hj]; exact hfb j (by omega)), fun τ hτ => ?_⟩
    have hs := hfs τ hτ
    have e1 : rn y0 τ f0 w = 2 ^ w - 1 - rn x τ rb w := by
      have h1 : rn y0 τ f0 w = bn (fun j => !vl x τ (rb j)) w := bn_congr (hf0 τ hτ)
      have h2 := bn_not (fun j => vl x τ (rb j)) w
      have h3 : rn x τ rb w = bn (fun j => vl x τ (rb j)) w := rfl
      rw [h1, h3]; omega
    rw [rn_s, e1, rn_ex hs0.2.1 hra, vl_1 hs0.1 hτ] at hs
    rw [rn_congr hf, low_mod hs (rn_lt _ _ _ _)]
    rfl
  · have hGe : G2 5 w = pg w w := rfl
    rw [hGe] at hRc hRs hn
    have hco := hx1.cost (j := pg w w) (K := pg w w) (by omega)
    refine lv_iload_n hx hb dX3_reckonTwo_0 rfl (lv_at hl 1 rfl) ?_
    refine lv_tableIn (off := 131) (tgt := 132) hx hb dX3_reckonTwo_1 (by decide) (by decide) (by decide) (by decide) ?_
    refine lv_aload_n hx hb dX3_reckonTwo_132 rfl (lv_at hl 0 rfl) ?_
    refine r_get hx hb hts hown hK (hro.1.here hAe hW) rfl in_X3 0 (by decide) tb_97 (fun _ h => h) rfl dX3_reckonTwo_133 ?_
    refine lv_aload_n hx hb dX3_reckonTwo_136 rfl (lv_at hl 2 rfl) ?_
    refine lv_aload_n hx hb dX3_reckonTwo_137 rfl (lv_at hl 3 rfl) ?_
    refine c_virt (As := [.ref aa, .ref ab]) (rest := []) (wc := cw Z hc x) (wr := []) (nl := 0) hx hb hml hown hts hK hG rfl hA hl (k_product l Z hk hc x σ aa ab w ra rb hx0 hn hw hra hrb) hW ⟨RO.pass hro.2.1 hAe hW, RO.pass hro.2.2.1 hAe hW, RO.pass hro.2.2.2 hAe hW⟩ (hro.2.1.here hAe hW) rfl rfl tb_414 tb_415 tb_416 tb_2 tb_417 (nA := 2) (by decide +kernel) rfl ⟨by omega, by omega⟩ ⟨by omega, by omega⟩ rfl (Nat.le_of_ble_eq_true rfl) dX3_reckonTwo_138 (fun v w1 H1 L1 hp hW hzz hkk hdd => ?_)
    obtain ⟨y, q, f, rfl, rfl, hst, hfb, hfs⟩ := hp
    clear hzz hkk hdd
    generalize H1 = H at hW  ⊢
    generalize L1 = locs at hW ⊢
    have hW : Wd Z A s.heap (cw Z hc y ++ [ea Z q w f]) _ _ := hW
    refine W.eq (g2 := F0 m 141 ls [.ref q]) rfl ?_
    have hu := hst.2.2.2
    refine e_ref hx hb hr (Or.inr ⟨_, rfl⟩) hlk hAe hW (by rw [hGe]; omega) (by rw [hGe]; omega) dX3_reckonTwo_141 ⟨y, q, f, rfl, rfl, by rw [hGe]; exact hst, hfb, fun τ hτ => ?_⟩
    exact hfs τ hτ
  · have hGe : G2 6 w = dg w w := rfl
    rw [hGe] at hRc hRs hn
    have hco := hx1.cost (j := dg w w) (K := dg w w) (by omega)
    refine lv_iload_n hx hb dX3_reckonTwo_0 rfl (lv_at hl 1 rfl) ?_
    refine lv_tableIn (off := 141) (tgt := 142) hx hb dX3_reckonTwo_1 (by decide) (by decide) (by decide) (by decide) ?_
    refine lv_aload_n hx hb dX3_reckonTwo_142 rfl (lv_at hl 0 rfl) ?_
    refine r_get hx hb hts hown hK (hro.1.here hAe hW) rfl in_X3 0 (by decide) tb_97 (fun _ h => h) rfl dX3_reckonTwo_143 ?_
    refine lv_aload_n hx hb dX3_reckonTwo_146 rfl (lv_at hl 2 rfl) ?_
    refine lv_aload_n hx hb dX3_reckonTwo_147 rfl (lv_at hl 3 rfl) ?_
    refine lv_iload_n hx hb dX3_reckonTwo_148 rfl (lv_at hl 1 rfl) ?_
    refine lv_bipush (v := nI 7) hx hb dX3_reckonTwo_149 (by decide) ?_
    refine n_ne_t (tgt := 158) hx hb (by decide) (by omega) (by omega) dX3_reckonTwo_151 (by decide) ?_
    refine lv_iconst (v := nI 0) hx hb dX3_reckonTwo_158 (by decide) ?_
    refine c_virt (As := [.ref aa, .ref ab, .int (nI 0)]) (rest := []) (wc := cw Z hc x) (wr := []) (nl := 0) hx hb hml hown hts hK hG rfl hA hl (k_divided l Z hk hc x σ aa ab w 0 ra rb hx0 hn hw hw1 (by decide) hra hrb) hW ⟨RO.pass hro.2.1 hAe hW, RO.pass hro.2.2.1 hAe hW, RO.pass hro.2.2.2 hAe hW⟩ (hro.2.1.here hAe hW) rfl rfl tb_647 tb_648 tb_649 tb_2 tb_650 (nA := 3) (by decide +kernel) rfl ⟨by omega, by omega⟩ ⟨by omega, by omega⟩ rfl (Nat.le_of_ble_eq_true rfl) dX3_reckonTwo_159 (fun v w1 H1 L1 hp hW hzz hkk hdd => ?_)
    obtain ⟨y, q, f, rfl, rfl, hst, hfb, hfs⟩ := hp
    clear hzz hkk hdd
    generalize H1 = H at hW  ⊢
    generalize L1 = locs at hW ⊢
    have hW : Wd Z A s.heap (cw Z hc y ++ [ea Z q w f]) _ _ := hW
    refine W.eq (g2 := F0 m 162 ls [.ref q]) rfl ?_
    have hu := hst.2.2.2
    refine e_ref hx hb hr (Or.inr ⟨_, rfl⟩) hlk hAe hW (by rw [hGe]; omega) (by rw [hGe]; omega) dX3_reckonTwo_162 ⟨y, q, f, rfl, rfl, by rw [hGe]; exact hst, hfb, fun τ hτ => ?_⟩
    exact hfs τ hτ
  · have hGe : G2 7 w = dg w w := rfl
    rw [hGe] at hRc hRs hn
    have hco := hx1.cost (j := dg w w) (K := dg w w) (by omega)
    refine lv_iload_n hx hb dX3_reckonTwo_0 rfl (lv_at hl 1 rfl) ?_
    refine lv_tableIn (off := 141) (tgt := 142) hx hb dX3_reckonTwo_1 (by decide) (by decide) (by decide) (by decide) ?_
    refine lv_aload_n hx hb dX3_reckonTwo_142 rfl (lv_at hl 0 rfl) ?_
    refine r_get hx hb hts hown hK (hro.1.here hAe hW) rfl in_X3 0 (by decide) tb_97 (fun _ h => h) rfl dX3_reckonTwo_143 ?_
    refine lv_aload_n hx hb dX3_reckonTwo_146 rfl (lv_at hl 2 rfl) ?_
    refine lv_aload_n hx hb dX3_reckonTwo_147 rfl (lv_at hl 3 rfl) ?_
    refine lv_iload_n hx hb dX3_reckonTwo_148 rfl (lv_at hl 1 rfl) ?_
    refine lv_bipush (v := nI 7) hx hb dX3_reckonTwo_149 (by decide) ?_
    refine n_ne_f (tgt := 158) hx hb (by rfl) dX3_reckonTwo_151 (by decide) ?_
    refine lv_iconst (v := nI 1) hx hb dX3_reckonTwo_154 (by decide) ?_
    refine lv_goto (tgt := 159) hx hb dX3_reckonTwo_155 (by decide) ?_
    refine c_virt (As := [.ref aa, .ref ab, .int (nI 1)]) (rest := []) (wc := cw Z hc x) (wr := []) (nl := 0) hx hb hml hown hts hK hG rfl hA hl (k_divided l Z hk hc x σ aa ab w 1 ra rb hx0 hn hw hw1 (by decide) hra hrb) hW ⟨RO.pass hro.2.1 hAe hW, RO.pass hro.2.2.1 hAe hW, RO.pass hro.2.2.2 hAe hW⟩ (hro.2.1.here hAe hW) rfl rfl tb_647 tb_648 tb_649 tb_2 tb_650 (nA := 3) (by decide +kernel) rfl ⟨by omega, by omega⟩ ⟨by omega, by omega⟩ rfl (Nat.le_of_ble_eq_true rfl) dX3_reckonTwo_159 (fun v w1 H1 L1 hp hW hzz hkk hdd => ?_)
    obtain ⟨y, q, f, rfl, rfl, hst, hfb, hfs⟩ := hp
    clear hzz hkk hdd
    generalize H1 = H at hW  ⊢
    generalize L1 = locs at hW ⊢
    have hW : Wd Z A s.heap (cw Z hc y ++ [ea Z q w f]) _ _ := hW
    refine W.eq (g2 := F0 m 162 ls [.ref q]) rfl ?_
    have hu := hst.2.2.2
    refine e_ref hx hb hr (Or.inr ⟨_, rfl⟩) hlk hAe hW (by rw [hGe]; omega) (by rw [hGe]; omega) dX3_reckonTwo_162 ⟨y, q, f, rfl, rfl, by rw [hGe]; exact hst, hfb, fun τ hτ => ?_⟩
    exact hfs τ hτ
  · have hGe : G2 8 w = 18 * w + dg w w + (1 - 0) := rfl
    rw [hGe] at hRc hRs hn
    have hco := hx1.cost (j := 18 * w + dg w w + (1 - 0)) (K := 18 * w + dg w w + (1 - 0)) (by omega)
    refine lv_iload_n hx hb dX3_reckonTwo_0 rfl (lv_at hl 1 rfl) ?_
    refine lv_tableIn (off := 162) (tgt := 163) hx hb dX3_reckonTwo_1 (by decide) (by decide) (by decide) (by decide) ?_
    refine lv_aload_n hx hb dX3_reckonTwo_163 rfl (lv_at hl 0 rfl) ?_
    refine r_get hx hb hts hown hK (hro.1.here hAe hW) rfl in_X3 0 (by decide) tb_97 (fun _ h => h) rfl dX3_reckonTwo_164 ?_
    refine lv_aload_n hx hb dX3_reckonTwo_167 rfl (lv_at hl 2 rfl) ?_
    refine lv_aload_n hx hb dX3_reckonTwo_168 rfl (lv_at hl 3 rfl) ?_
    refine lv_iload_n hx hb dX3_reckonTwo_169 rfl (lv_at hl 1 rfl) ?_
    refine lv_bipush (v := nI 9) hx hb dX3_reckonTwo_170 (by decide) ?_
    refine n_ne_t (tgt := 179) hx hb (by decide) (by omega) (by omega) dX3_reckonTwo_172 (by decide) ?_
    refine lv_iconst (v := nI 0) hx hb dX3_reckonTwo_179 (by decide) ?_
    refine c_virt (As := [.ref aa, .ref ab, .int (nI 0)]) (rest := []) (wc := cw Z hc x) (wr := []) (nl := 0) hx hb hml hown hts hK hG rfl hA hl (k_dividedWithSign l Z hk hc x σ aa ab w 0 ra rb hx0 hn hw hw1 (by decide) hra hrb) hW ⟨RO.pass hro.2.1 hAe hW, RO.pass hro.2.2.1 hAe hW, RO.pass hro.2.2.2 hAe hW⟩ (hro.2.1.here hAe hW) rfl rfl tb_659 tb_660 tb_661 tb_2 tb_662 (nA := 3) (by decide +kernel) rfl ⟨by omega, by omega⟩ ⟨by omega, by omega⟩ rfl (Nat.le_of_ble_eq_true rfl) dX3_reckonTwo_180 (fun v w1 H1 L1 hp hW hzz hkk hdd => ?_)
    obtain ⟨y, q, f, rfl, rfl, hst, hfb, hfs⟩ := hp
    clear hzz hkk hdd
    generalize H1 = H at hW  ⊢
    generalize L1 = locs at hW ⊢
    have hW : Wd Z A s.heap (cw Z hc y ++ [ea Z q w f]) _ _ := hW
    refine W.eq (g2 := F0 m 183 ls [.ref q]) rfl ?_
    have hu := hst.2.2.2
    refine e_ref hx hb hr (Or.inr ⟨_, rfl⟩) hlk hAe hW (by rw [hGe]; omega) (by rw [hGe]; omega) dX3_reckonTwo_183 ⟨y, q, f, rfl, rfl, by rw [hGe]; exact hst, hfb, fun τ hτ => ?_⟩
    exact hfs τ hτ
  · have hGe : G2 9 w = 18 * w + dg w w + (1 - 1) := rfl
    rw [hGe] at hRc hRs hn
    have hco := hx1.cost (j := 18 * w + dg w w + (1 - 1)) (K := 18 * w + dg w w + (1 - 1)) (by omega)
    refine lv_iload_n hx hb dX3_reckonTwo_0 rfl (lv_at hl 1 rfl) ?_
    refine lv_tableIn (off := 162) (tgt := 163) hx hb dX3_reckonTwo_1 (by decide) (by decide) (by decide) (by decide) ?_
    refine lv_aload_n hx hb dX3_reckonTwo_163 rfl (lv_at hl 0 rfl) ?_
    refine r_get hx hb hts hown hK (hro.1.here hAe hW) rfl in_X3 0 (by decide) tb_97 (fun _ h => h) rfl dX3_reckonTwo_164 ?_
    refine lv_aload_n hx hb dX3_reckonTwo_167 rfl (lv_at hl 2 rfl) ?_
    refine lv_aload_n hx hb dX3_reckonTwo_168 rfl (lv_at hl 3 rfl) ?_
    refine lv_iload_n hx hb dX3_reckonTwo_169 rfl (lv_at hl 1 rfl) ?_
    refine lv_bipush (v := nI 9) hx hb dX3_reckonTwo_170 (by decide) ?_
    refine n_ne_f (tgt := 179) hx hb (by rfl) dX3_reckonTwo_172 (by decide) ?_
    refine lv_iconst (v := nI 1) hx hb dX3_reckonTwo_175 (by decide) ?_
    refine lv_goto (tgt := 180) hx hb dX3_reckonTwo_176 (by decide) ?_
    refine c_virt (As := [.ref aa, .ref ab, .int (nI 1)]) (rest := []) (wc := cw Z hc x) (wr := []) (nl := 0) hx hb hml hown hts hK hG rfl hA hl (k_dividedWithSign l Z hk hc x σ aa ab w 1 ra rb hx0 hn hw hw1 (by decide) hra hrb) hW ⟨RO.pass hro.2.1 hAe hW, RO.pass hro.2.2.1 hAe hW, RO.pass hro.2.2.2 hAe hW⟩ (hro.2.1.here hAe hW) rfl rfl tb_659 tb_660 tb_661 tb_2 tb_662 (nA := 3) (by decide +kernel) rfl ⟨by omega, by omega⟩ ⟨by omega, by omega⟩ rfl (Nat.le_of_ble_eq_true rfl) dX3_reckonTwo_180 (fun v w1 H1 L1 hp hW hzz hkk hdd => ?_)
    obtain ⟨y, q, f, rfl, rfl, hst, hfb, hfs⟩ := hp
    clear hzz hkk hdd
    generalize H1 = H at hW  ⊢
    generalize L1 = locs at hW ⊢
    have hW : Wd Z A s.heap (cw Z hc y ++ [ea Z q w f]) _ _ := hW
    refine W.eq (g2 := F0 m 183 ls [.ref q]) rfl ?_
    have hu := hst.2.2.2
    refine e_ref hx hb hr (Or.inr ⟨_, rfl⟩) hlk hAe hW (by rw [hGe]; omega) (by rw [hGe]; omega) dX3_reckonTwo_183 ⟨y, q, f, rfl, rfl, by rw [hGe]; exact hst, hfb, fun τ hτ => ?_⟩
    exact hfs τ hτ
  · have hGe : G2 10 w = sg w w + 3 * w := rfl
    rw [hGe] at hRc hRs hn
    have hco := hx1.cost (j := sg w w + 3 * w) (K := sg w w + 3 * w) (by omega)
    refine lv_iload_n hx hb dX3_reckonTwo_0 rfl (lv_at hl 1 rfl) ?_
    refine lv_tableIn (off := 183) (tgt := 184) hx hb dX3_reckonTwo_1 (by decide) (by decide) (by decide) (by decide) ?_
    have hra_t := hra (w - 1) (by omega)
    refine lv_aload_n hx hb dX3_reckonTwo_184 rfl (lv_at hl 0 rfl) ?_
    refine r_get hx hb hts hown hK (hro.1.here hAe hW) rfl in_X3 0 (by decide) tb_97 (fun _ h => h) rfl dX3_reckonTwo_185 ?_
    refine lv_aload_n hx hb dX3_reckonTwo_188 rfl (lv_at hl 2 rfl) ?_
    refine lv_aload_n hx hb dX3_reckonTwo_189 rfl (lv_at hl 3 rfl) ?_
    refine lv_iconst (v := nI 1) hx hb dX3_reckonTwo_190 (by decide) ?_
    refine lv_iconst (v := nI 0) hx hb dX3_reckonTwo_191 (by decide) ?_
    refine c_virt (As := [.ref aa, .ref ab, .int (nI 1), .int (nI 0)]) (rest := []) (wc := cw Z hc x) (wr := []) (nl := 0) hx hb hml hown hts hK hG rfl hA hl (k_shifted l Z hk hc x σ aa ab w 1 0 ra rb hx0 hn hw hw1 (by decide) (by omega) hra hrb) hW ⟨RO.pass hro.2.1 hAe hW, RO.pass hro.2.2.1 hAe hW, RO.pass hro.2.2.2 hAe hW⟩ (hro.2.1.here hAe hW) rfl rfl tb_665 tb_666 tb_667 tb_2 tb_668 (nA := 4) (by decide +kernel) rfl ⟨by omega, by omega⟩ ⟨by omega, by omega⟩ rfl (Nat.le_of_ble_eq_true rfl) dX3_reckonTwo_192 (fun v w1 H1 L1 hp hW hzz hkk hdd => ?_)
    obtain ⟨y, q, f, rfl, rfl, hst, hfb, hfs⟩ := hp
    clear hzz hkk hdd
    generalize H1 = H at hW  ⊢
    generalize L1 = locs at hW ⊢
    have hW : Wd Z A s.heap (cw Z hc y ++ [ea Z q w f]) _ _ := hW
    refine W.eq (g2 := F0 m 195 ls [.ref q]) rfl ?_
    have hu := hst.2.2.2
    refine e_ref hx hb hr (Or.inr ⟨_, rfl⟩) hlk hAe hW (by rw [hGe]; omega) (by rw [hGe]; omega) dX3_reckonTwo_195 ⟨y, q, f, rfl, rfl, by rw [hGe]; exact hst, hfb, fun τ hτ => ?_⟩
    exact bn_congr (hfs τ hτ)
  · have hGe : G2 11 w = sg w w + 3 * w := rfl
    rw [hGe] at hRc hRs hn
    have hco := hx1.cost (j := sg w w + 3 * w) (K := sg w w + 3 * w) (by omega)
    refine lv_iload_n hx hb dX3_reckonTwo_0 rfl (lv_at hl 1 rfl) ?_
    refine lv_tableIn (off := 195) (tgt := 196) hx hb dX3_reckonTwo_1 (by decide) (by decide) (by decide) (by decide) ?_
    have hra_t := hra (w - 1) (by omega)
    refine lv_aload_n hx hb dX3_reckonTwo_196 rfl (lv_at hl 0 rfl) ?_
    refine r_get hx hb hts hown hK (hro.1.here hAe hW) rfl in_X3 0 (by decide) tb_97 (fun _ h => h) rfl dX3_reckonTwo_197 ?_
    refine lv_aload_n hx hb dX3_reckonTwo_200 rfl (lv_at hl 2 rfl) ?_
    refine lv_aload_n hx hb dX3_reckonTwo_201 rfl (lv_at hl 3 rfl) ?_
    refine lv_iconst (v := nI 0) hx hb dX3_reckonTwo_202 (by decide) ?_
    refine lv_iconst (v := nI 0) hx hb dX3_reckonTwo_203 (by decide) ?_
    refine c_virt (As := [.ref aa, .ref ab, .int (nI 0), .int (nI 0)]) (rest := []) (wc := cw Z hc x) (wr := []) (nl := 0) hx hb hml hown hts hK hG rfl hA hl (k_shifted l Z hk hc x σ aa ab w 0 0 ra rb hx0 hn hw hw1 (by decide) (by omega) hra hrb) hW ⟨RO.pass hro.2.1 hAe hW, RO.pass hro.2.2.1 hAe hW, RO.pass hro.2.2.2 hAe hW⟩ (hro.2.1.here hAe hW) rfl rfl tb_665 tb_666 tb_667 tb_2 tb_668 (nA := 4) (by decide +kernel) rfl ⟨by omega, by omega⟩ ⟨by omega, by omega⟩ rfl (Nat.le_of_ble_eq_true rfl) dX3_reckonTwo_204 (fun v w1 H1 L1 hp hW hzz hkk hdd => ?_)
    obtain ⟨y, q, f, rfl, rfl, hst, hfb, hfs⟩ := hp
    clear hzz hkk hdd
    generalize H1 = H at hW  ⊢
    generalize L1 = locs at hW ⊢
    have hW : Wd Z A s.heap (cw Z hc y ++ [ea Z q w f]) _ _ := hW
    refine W.eq (g2 := F0 m 207 ls [.ref q]) rfl ?_
    have hu := hst.2.2.2
    refine e_ref hx hb hr (Or.inr ⟨_, rfl⟩) hlk hAe hW (by rw [hGe]; omega) (by rw [hGe]; omega) dX3_reckonTwo_207 ⟨y, q, f, rfl, rfl, by rw [hGe]; exact hst, hfb, fun τ hτ => ?_⟩
    exact bn_congr (hfs τ hτ)
  · have hGe : G2 12 w = sg w w + 3 * w := rfl
    rw [hGe] at hRc hRs hn
    have hco := hx1.cost (j := sg w w + 3 * w) (K := sg w w + 3 * w) (by omega)
    refine lv_iload_n hx hb dX3_reckonTwo_0 rfl (lv_at hl 1 rfl) ?_
    refine lv_tableOut (tgt := 208) hx hb dX3_reckonTwo_1 (by decide) (by decide) ?_
    have hra_t := hra (w - 1) (by omega)
    refine lv_aload_n hx hb dX3_reckonTwo_208 rfl (lv_at hl 0 rfl) ?_
    refine r_get hx hb hts hown hK (hro.1.here hAe hW) rfl in_X3 0 (by decide) tb_97 (fun _ h => h) rfl dX3_reckonTwo_209 ?_
    refine lv_aload_n hx hb dX3_reckonTwo_212 rfl (lv_at hl 2 rfl) ?_
    refine lv_aload_n hx hb dX3_reckonTwo_213 rfl (lv_at hl 3 rfl) ?_
    refine lv_iconst (v := nI 0) hx hb dX3_reckonTwo_214 (by decide) ?_
    refine lv_aload_n hx hb dX3_reckonTwo_215 rfl (lv_at hl 2 rfl) ?_
    refine lv_aload_n hx hb dX3_reckonTwo_216 rfl (lv_at hl 2 rfl) ?_
    refine r_len hx hb hK (hro.2.2.1.here hAe hW) dX3_reckonTwo_217 ?_
    refine lv_iconst (v := nI 1) hx hb dX3_reckonTwo_218 (by decide) ?_
    refine n_isub hx hb (by omega) dX3_reckonTwo_219 ?_
    refine r_ald (i := (w - 1)) hx hb hK (hro.2.2.1.here hAe hW) (by omega) (by omega) dX3_reckonTwo_220 ?_
    refine c_virt (As := [.ref aa, .ref ab, .int (nI 0), .int (nI (ra (w - 1)))]) (rest := []) (wc := cw Z hc x) (wr := []) (nl := 0) hx hb hml hown hts hK hG rfl hA hl (k_shifted l Z hk hc x σ aa ab w 0 (ra (w - 1)) ra rb hx0 hn hw hw1 (by decide) (by omega) hra hrb) hW ⟨RO.pass hro.2.1 hAe hW, RO.pass hro.2.2.1 hAe hW, RO.pass hro.2.2.2 hAe hW⟩ (hro.2.1.here hAe hW) rfl rfl tb_665 tb_666 tb_667 tb_2 tb_668 (nA := 4) (by decide +kernel) rfl ⟨by omega, by omega⟩ ⟨by omega, by omega⟩ rfl (Nat.le_of_ble_eq_true rfl) dX3_reckonTwo_221 (fun v w1 H1 L1 hp hW hzz hkk hdd => ?_)
    obtain ⟨y, q, f, rfl, rfl, hst, hfb, hfs⟩ := hp
    clear hzz hkk hdd
    generalize H1 = H at hW  ⊢
    generalize L1 = locs at hW ⊢
    have hW : Wd Z A s.heap (cw Z hc y ++ [ea Z q w f]) _ _ := hW
    refine W.eq (g2 := F0 m 224 ls [.ref q]) rfl ?_
    have hu := hst.2.2.2
    refine e_ref hx hb hr (Or.inr ⟨_, rfl⟩) hlk hAe hW (by rw [hGe]; omega) (by rw [hGe]; omega) dX3_reckonTwo_224 ⟨y, q, f, rfl, rfl, by rw [hGe]; exact hst, hfb, fun τ hτ => ?_⟩
    exact bn_congr (hfs τ hτ)
set_option maxHeartbeats 4000000 in
set_option maxRecDepth 100000 in
/-- VectorBench.reckonComparison -/
theorem k_reckonComparison (l : Launch) (Z : Zt) (hb0 hk hc hm wg : Nat) (x : CS) (σ : Nat → Bool) (k aa ab w : Nat) (ra rb : Nat → Nat) (hx0 : cok x σ) (hk12 : k ≤ 4) (hn : xn x + GC k w < 400000) (hw : w ≤ 64) (hw1 : 1 ≤ w) (hra : ∀ j, j < w → ra j < xn x) (hrb : ∀ j, j < w → rb j < xn x) : MC l yX3_reckonComparison cX3_reckonComparison 4 (some .int) 9 400 (10 + 4 * (capU (xu x) (xn x + GC k w) - xu x)) (10 * w + 10 + 512 * (capU (xu x) (xn x + GC k w) - xu x)) Z (cw Z hc x) (fun H => RO Z (cw Z hc x) (bo hb0 hk hc hm wg) H ∧ RO Z (cw Z hc x) (eo hk 1 [.ref hc]) H ∧ RO Z (cw Z hc x) (ea Z aa w ra) H ∧ RO Z (cw Z hc x) (ea Z ab w rb) H) [.ref hb0, .int (nI k), .ref aa, .ref ab] (bitQ Z hc x σ (GC k w) (VC x ra rb w k)) := by
  refine mc_of (by decide) (Nat.le_of_ble_eq_true rfl) (fun p e s m below meth c ls A hx hb hr hts hown hlk hml hin hK hG hW hA hAe hro hl R hRf hRc hRs hRl => ?_)
  have hl : lv_has ls 4 [(0, .ref hb0), (1, .int (nI k)), (2, .ref aa), (3, .ref ab)] := hl
  have hx1 := stp.rf hx0
  have hx2 := hx0.1
  have hW : Wd Z A s.heap (cw Z hc x ++ []) _ _ := hW
  rcases (show k = 0 ∨ k = 1 ∨ k = 2 ∨ k = 3 ∨ k = 4 by omega) with rfl | rfl | rfl | rfl | rfl
  · have hGe : GC 0 w = 2 * w + 1 := rfl
    rw [hGe] at hRc hRs hn
    obtain ⟨KK, hKK⟩ : ∃ k, k = 2 * w + 1 := ⟨_, rfl⟩
    rw [← hKK] at hRc hRs hn
    refine lv_iload_n hx hb dX3_reckonComparison_0 rfl (lv_at hl 1 rfl) ?_
    refine lv_tableIn (off := 31) (tgt := 32) hx hb dX3_reckonComparison_1 (by decide) (by decide) (by decide) (by decide) ?_
    refine lv_aload_n hx hb dX3_reckonComparison_32 rfl (lv_at hl 0 rfl) ?_
    refine r_get hx hb hts hown hK (hro.1.here hAe hW) rfl in_X3 0 (by decide) tb_97 (fun _ h => h) rfl dX3_reckonComparison_33 ?_
    refine lv_aload_n hx hb dX3_reckonComparison_36 rfl (lv_at hl 2 rfl) ?_
    refine lv_aload_n hx hb dX3_reckonComparison_37 rfl (lv_at hl 3 rfl) ?_
    have hcoa := hx1.cost (j := 2 * w + 1) (K := KK) (by omega)
    refine c_virt (As := [.ref aa, .ref ab]) (rest := []) (wc := cw Z hc x) (wr := []) (nl := 0) hx hb hml hown hts hK hG rfl hA hl (k_same l Z hk hc x σ aa ab w ra rb hx0 (by omega) hw hra hrb) hW ⟨RO.pass hro.2.1 hAe hW, RO.pass hro.2.2.1 hAe hW, RO.pass hro.2.2.2 hAe hW⟩ (hro.2.1.here hAe hW) rfl rfl tb_680 tb_681 tb_682 tb_2 tb_683 (nA := 2) (by decide +kernel) rfl ⟨by omega, by omega⟩ ⟨by omega, by omega⟩ rfl (Nat.le_of_ble_eq_true rfl) dX3_reckonComparison_38 (fun v w1 H1 L1 hp hW hzz hkk hdd => ?_)
    obtain ⟨y, g, rfl, rfl, hsy, hby, hvy⟩ := hp
    clear hzz hkk hdd
    generalize H1 = H at hW  ⊢
    generalize L1 = locs at hW ⊢
    have hW : Wd Z A s.heap (cw Z hc y) _ _ := hW
    refine W.eq (g2 := F0 m 41 ls [.int (nI g)]) rfl ?_
    have huy := hsy.2.2.2
    have hcf := hsy.cost (j := 0) (K := KK) (by omega)
    rw [hKK] at hcf
    have hW : Wd Z A s.heap (cw Z hc y) _ _ := hW.sub [0, 1, 2, 3, 4] (by decide) rfl
    refine e_int hx hb hr hlk hAe hW (by rw [hGe]; omega) (by rw [hGe]; omega) dX3_reckonComparison_41 ⟨y, g, rfl, rfl, by rw [hGe]; exact hsy, by omega, fun τ hτ => ?_⟩
    exact hvy τ hτ
  · have hGe : GC 1 w = 6 * w + 1 := rfl
    rw [hGe] at hRc hRs hn
    obtain ⟨KK, hKK⟩ : ∃ k, k = 6 * w + 1 := ⟨_, rfl⟩
    rw [← hKK] at hRc hRs hn
    refine lv_iload_n hx hb dX3_reckonComparison_0 rfl (lv_at hl 1 rfl) ?_
    refine lv_tableIn (off := 41) (tgt := 42) hx hb dX3_reckonComparison_1 (by decide) (by decide) (by decide) (by decide) ?_
    refine lv_aload_n hx hb dX3_reckonComparison_42 rfl (lv_at hl 0 rfl) ?_
    refine r_get hx hb hts hown hK (hro.1.here hAe hW) rfl in_X3 1 (by decide) tb_98 (fun _ h => h) rfl dX3_reckonComparison_43 ?_
    refine lv_aload_n hx hb dX3_reckonComparison_46 rfl (lv_at hl 0 rfl) ?_
    refine r_get hx hb hts hown hK (hro.1.here hAe hW) rfl in_X3 0 (by decide) tb_97 (fun _ h => h) rfl dX3_reckonComparison_47 ?_
    refine lv_aload_n hx hb dX3_reckonComparison_50 rfl (lv_at hl 2 rfl) ?_
    refine lv_aload_n hx hb dX3_reckonComparison_51 rfl (lv_at hl 3 rfl) ?_
    have hcoa := hx1.cost (j := 6 * w) (K := KK) (by omega)
    refine c_virt (As := [.ref aa, .ref ab]) (rest := [.ref hc]) (wc := cw Z hc x) (wr := []) (nl := 0) hx hb hml hown hts hK hG rfl hA hl (k_atLeast l Z hk hc x σ aa ab w ra rb hx1.1 (by omega) hw hra hrb) hW ⟨RO.pass hro.2.1 hAe hW, RO.pass hro.2.2.1 hAe hW, RO.pass hro.2.2.2 hAe hW⟩ (hro.2.1.here hAe hW) rfl rfl tb_684 tb_685 tb_686 tb_2 tb_687 (nA := 2) (by decide +kernel) rfl ⟨by omega, by omega⟩ ⟨by omega, by omega⟩ rfl (Nat.le_of_ble_eq_true rfl) dX3_reckonComparison_52 (fun v w1 H1 L1 hp hW hzz hkk hdd => ?_)
    obtain ⟨y, gy, rfl, rfl, hsy, hby, hvy⟩ := hp
    clear hzz hkk hdd
    generalize H1 = H at hW  ⊢
    generalize L1 = locs at hW ⊢
    have hW : Wd Z A s.heap (cw Z hc y) _ _ := hW
    refine W.eq (g2 := F0 m 55 ls [.int (nI gy), .ref hc]) rfl ?_
    have huy := hsy.2.2.2
    have ty := hx1.tr hsy
    have hny := ty.2.2.1
    have hcon := ty.cost (j := 1) (K := KK) (by omega)
    refine c_virt (As := [.int (nI gy)]) (rest := []) (wc := cw Z hc y) (wr := []) (nl := 0) hx hb hml hown hts hK hG rfl hA hl (k_not l Z hc y σ gy ty.1 (by omega) (by omega)) hW trivial (hW.at 0 rfl) rfl rfl tb_688 tb_361 tb_362 tb_3 tb_363 (nA := 1) (by decide +kernel) rfl ⟨by omega, by omega⟩ ⟨by omega, by omega⟩ rfl (Nat.le_of_ble_eq_true rfl) dX3_reckonComparison_55 (fun v w1 H1 L1 hp hW hzz hkk hdd => ?_)
    obtain ⟨z, rfl, rfl, ggz⟩ := hp
    clear hzz hkk hdd
    generalize H1 = H at hW  ⊢
    generalize L1 = locs at hW ⊢
    have hW : Wd Z A s.heap (cw Z hc z) _ _ := hW
    refine W.eq (g2 := F0 m 58 ls [.int (nI (xn y))]) rfl ?_
    have tz := ty.g ggz
    have hnz := tz.2.2.1
    have huz := (stp.of ggz).2.2.2
    have kz := cex.rf z
    have e0 : stp x σ (6 * w + 1) z := by have h := tz; rw [Nat.zero_add] at h; exact h
    have hcf := e0.cost (j := 0) (K := KK) (by omega)
    rw [hKK] at hcf
    have hW : Wd Z A s.heap (cw Z hc z) _ _ := hW.sub [0, 1, 2, 3, 4] (by decide) rfl
    refine e_int hx hb hr hlk hAe hW (by rw [hGe]; omega) (by rw [hGe]; omega) dX3_reckonComparison_58 ⟨z, xn y, rfl, rfl, by rw [hGe]; exact e0, by omega, fun τ hτ => ?_⟩
    rw [gval ggz (by decide) kz (by omega) (by have := ty.1.1; omega) τ, c_op3, vl_1 tz.1 hτ, ggz.2.2.2.2.1.vl hby, hvy τ hτ]
    exact Bool.xor_true _
  · have hGe : GC 2 w = 6 * w := rfl
    rw [hGe] at hRc hRs hn
    obtain ⟨KK, hKK⟩ : ∃ k, k = 6 * w := ⟨_, rfl⟩
    rw [← hKK] at hRc hRs hn
    refine lv_iload_n hx hb dX3_reckonComparison_0 rfl (lv_at hl 1 rfl) ?_
    refine lv_tableIn (off := 58) (tgt := 59) hx hb dX3_reckonComparison_1 (by decide) (by decide) (by decide) (by decide) ?_
    refine lv_aload_n hx hb dX3_reckonComparison_59 rfl (lv_at hl 0 rfl) ?_
    refine r_get hx hb hts hown hK (hro.1.here hAe hW) rfl in_X3 0 (by decide) tb_97 (fun _ h => h) rfl dX3_reckonComparison_60 ?_
    refine lv_aload_n hx hb dX3_reckonComparison_63 rfl (lv_at hl 3 rfl) ?_
    refine lv_aload_n hx hb dX3_reckonComparison_64 rfl (lv_at hl 2 rfl) ?_
    have hcoa := hx1.cost (j := 6 * w) (K := KK) (by omega)
    refine c_virt (As := [.ref ab, .ref aa]) (rest := []) (wc := cw Z hc x) (wr := []) (nl := 0) hx hb hml hown hts hK hG rfl hA hl (k_atLeast l Z hk hc x σ ab aa w rb ra hx1.1 (by omega) hw hrb hra) hW ⟨RO.pass hro.2.1 hAe hW, RO.pass hro.2.2.2 hAe hW, RO.pass hro.2.2.1 hAe hW⟩ (hro.2.1.here hAe hW) rfl rfl tb_684 tb_685 tb_686 tb_2 tb_687 (nA := 2) (by decide +kernel) rfl ⟨by omega, by omega⟩ ⟨by omega, by omega⟩ rfl (Nat.le_of_ble_eq_true rfl) dX3_reckonComparison_65 (fun v w1 H1 L1 hp hW hzz hkk hdd => ?_)
    obtain ⟨y, gy, rfl, rfl, hsy, hby, hvy⟩ := hp
    clear hzz hkk hdd
    generalize H1 = H at hW  ⊢
    generalize L1 = locs at hW ⊢
    have hW : Wd Z A s.heap (cw Z hc y) _ _ := hW
    refine W.eq (g2 := F0 m 68 ls [.int (nI gy)]) rfl ?_
    have huy := hsy.2.2.2
    have ty := hx1.tr hsy
    have hny := ty.2.2.1
    have hcf := hsy.cost (j := 0) (K := KK) (by omega)
    rw [hKK] at hcf
    have hW : Wd Z A s.heap (cw Z hc y) _ _ := hW.sub [0, 1, 2, 3, 4] (by decide) rfl
    refine e_int hx hb hr hlk hAe hW (by rw [hGe]; omega) (by rw [hGe]; omega) dX3_reckonComparison_68 ⟨y, gy, rfl, rfl, by rw [hGe]; exact hsy, by omega, fun τ hτ => ?_⟩
    exact hvy τ hτ
  · have hGe : GC 3 w = 1 + 1 + 6 * w + 1 := rfl
    rw [hGe] at hRc hRs hn
    obtain ⟨KK, hKK⟩ : ∃ k, k = 1 + 1 + 6 * w + 1 := ⟨_, rfl⟩
    rw [← hKK] at hRc hRs hn
    refine lv_iload_n hx hb dX3_reckonComparison_0 rfl (lv_at hl 1 rfl) ?_
    refine lv_tableIn (off := 68) (tgt := 69) hx hb dX3_reckonComparison_1 (by decide) (by decide) (by decide) (by decide) ?_
    refine lv_aload_n hx hb dX3_reckonComparison_69 rfl (lv_at hl 0 rfl) ?_
    refine r_get hx hb hts hown hK (hro.1.here hAe hW) rfl in_X3 1 (by decide) tb_98 (fun _ h => h) rfl dX3_reckonComparison_70 ?_
    refine lv_aload_n hx hb dX3_reckonComparison_73 rfl (lv_at hl 0 rfl) ?_
    refine r_get hx hb hts hown hK (hro.1.here hAe hW) rfl in_X3 0 (by decide) tb_97 (fun _ h => h) rfl dX3_reckonComparison_74 ?_
    refine lv_aload_n hx hb dX3_reckonComparison_77 rfl (lv_at hl 0 rfl) ?_
    refine r_get hx hb hts hown hK (hro.1.here hAe hW) rfl in_X3 0 (by decide) tb_97 (fun _ h => h) rfl dX3_reckonComparison_78 ?_
    refine lv_aload_n hx hb dX3_reckonComparison_81 rfl (lv_at hl 2 rfl) ?_
    have hcos := hx1.cost (j := 1) (K := KK) (by omega)
    refine c_virt (As := [.ref aa]) (rest := [.ref hk, .ref hc]) (wc := cw Z hc x) (wr := []) (nl := 0) hx hb hml hown hts hK hG rfl hA hl (k_signTurned l Z hk hc x σ aa w ra hx1.1 (by omega) hw hw1 hra) hW ⟨RO.pass hro.2.1 hAe hW, RO.pass hro.2.2.1 hAe hW⟩ (hro.2.1.here hAe hW) rfl rfl tb_689 tb_690 tb_691 tb_2 tb_692 (nA := 1) (by decide +kernel) rfl ⟨by omega, by omega⟩ ⟨by omega, by omega⟩ rfl (Nat.le_of_ble_eq_true rfl) dX3_reckonComparison_82 (fun v w1 H1 L1 hp hW hzz hkk hdd => ?_)
    obtain ⟨y1, q1, f1, rfl, rfl, hsy1, hfby1, hfsy1⟩ := hp
    clear hzz hkk hdd
    generalize H1 = H at hW  ⊢
    generalize L1 = locs at hW ⊢
    have hW : Wd Z A s.heap (cw Z hc y1 ++ [ea Z q1 w f1]) _ _ := hW
    refine W.eq (g2 := F0 m 85 ls [.ref q1, .ref hk, .ref hc]) rfl ?_
    have ty1 := hx1.tr hsy1
    have hny1 := ty1.2.2.1
    have huy1 := hsy1.2.2.2
    refine lv_aload_n hx hb dX3_reckonComparison_85 rfl (lv_at hl 0 rfl) ?_
    refine r_get hx hb hts hown hK (hro.1.here hAe hW) rfl in_X3 0 (by decide) tb_97 (fun _ h => h) rfl dX3_reckonComparison_86 ?_
    refine lv_aload_n hx hb dX3_reckonComparison_89 rfl (lv_at hl 3 rfl) ?_
    have hcos := ty1.cost (j := 1) (K := KK) (by omega)
    refine c_virt (As := [.ref ab]) (rest := [.ref q1, .ref hk, .ref hc]) (wc := cw Z hc y1) (wr := [ea Z q1 w f1]) (nl := 0) hx hb hml hown hts hK hG rfl hA hl (k_signTurned l Z hk hc y1 σ ab w rb ty1.1 (by omega) hw hw1 (fun j hj => by have := hrb j hj; omega)) hW ⟨RO.pass hro.2.1 hAe hW, RO.pass hro.2.2.2 hAe hW⟩ (hro.2.1.here hAe hW) rfl rfl tb_689 tb_690 tb_691 tb_2 tb_692 (nA := 1) (by decide +kernel) rfl ⟨by omega, by omega⟩ ⟨by omega, by omega⟩ rfl (Nat.le_of_ble_eq_true rfl) dX3_reckonComparison_90 (fun v w1 H1 L1 hp hW hzz hkk hdd => ?_)
    obtain ⟨y2, q2, f2, rfl, rfl, hsy2, hfby2, hfsy2⟩ := hp
    clear hzz hkk hdd
    generalize H1 = H at hW  ⊢
    generalize L1 = locs at hW ⊢
    have hW : Wd Z A s.heap (cw Z hc y2 ++ [ea Z q2 w f2, ea Z q1 w f1]) _ _ := hW
    refine W.eq (g2 := F0 m 93 ls [.ref q2, .ref q1, .ref hk, .ref hc]) rfl ?_
    have ty2 := ty1.tr hsy2
    have hny2 := ty2.2.2.1
    have huy2 := hsy2.2.2.2
    have hcoa := ty2.cost (j := 6 * w) (K := KK) (by omega)
    refine c_virt (As := [.ref q1, .ref q2]) (rest := [.ref hc]) (wc := cw Z hc y2) (wr := [ea Z q2 w f2, ea Z q1 w f1]) (nl := 0) hx hb hml hown hts hK hG rfl hA hl (k_atLeast l Z hk hc y2 σ q1 q2 w f1 f2 ty2.1 (by omega) hw (fun j hj => by have := hfby1 j hj; omega) hfby2) hW ⟨RO.pass hro.2.1 hAe hW, RO.loc hW 1 rfl, RO.loc hW 0 rfl⟩ (hro.2.1.here hAe hW) rfl rfl tb_684 tb_685 tb_686 tb_2 tb_687 (nA := 2) (by decide +kernel) rfl ⟨by omega, by omega⟩ ⟨by omega, by omega⟩ rfl (Nat.le_of_ble_eq_true rfl) dX3_reckonComparison_93 (fun v w1 H1 L1 hp hW hzz hkk hdd => ?_)
    obtain ⟨y, gy, rfl, rfl, hsy, hby, hvy⟩ := hp
    clear hzz hkk hdd
    generalize H1 = H at hW  ⊢
    generalize L1 = locs at hW ⊢
    have hW : Wd Z A s.heap (cw Z hc y ++ [ea Z q2 w f2, ea Z q1 w f1]) _ _ := hW
    refine W.eq (g2 := F0 m 96 ls [.int (nI gy), .ref hc]) rfl ?_
    have huy := hsy.2.2.2
    have ty := ty2.tr hsy
    have hny := ty.2.2.1
    have v1 : ∀ τ, gd τ → rn y2 τ f1 w = tn x τ ra w := fun τ hτ => by
      rw [rn_ex hsy2.2.1 hfby1]; exact bn_congr (hfsy1 τ hτ)
    have v2 : ∀ τ, gd τ → rn y2 τ f2 w = tn x τ rb w := fun τ hτ => by
      have h : rn y2 τ f2 w = tn y1 τ rb w := bn_congr (hfsy2 τ hτ)
      rw [h]
      exact bn_congr (fun j hj => by rw [hsy1.2.1.vl (hrb j hj)])
    have hcon := ty.cost (j := 1) (K := KK) (by omega)
    refine c_virt (As := [.int (nI gy)]) (rest := []) (wc := cw Z hc y) (wr := [ea Z q2 w f2, ea Z q1 w f1]) (nl := 0) hx hb hml hown hts hK hG rfl hA hl (k_not l Z hc y σ gy ty.1 (by omega) (by omega)) hW trivial (hW.at 0 rfl) rfl rfl tb_688 tb_361 tb_362 tb_3 tb_363 (nA := 1) (by decide +kernel) rfl ⟨by omega, by omega⟩ ⟨by omega, by omega⟩ rfl (Nat.le_of_ble_eq_true rfl) dX3_reckonComparison_96 (fun v w1 H1 L1 hp hW hzz hkk hdd => ?_)
    obtain ⟨z, rfl, rfl, ggz⟩ := hp
    clear hzz hkk hdd
    generalize H1 = H at hW  ⊢
    generalize L1 = locs at hW ⊢
    have hW : Wd Z A s.heap (cw Z hc z ++ [ea Z q2 w f2, ea Z q1 w f1]) _ _ := hW
    refine W.eq (g2 := F0 m 99 ls [.int (nI (xn y))]) rfl ?_
    have tz := ty.g ggz
    have hnz := tz.2.2.1
    have huz := (stp.of ggz).2.2.2
    have kz := cex.rf z
    have e0 : stp x σ (1 + 1 + 6 * w + 1) z := by have h := tz; rw [Nat.zero_add] at h; exact h
    have hcf := e0.cost (j := 0) (K := KK) (by omega)
    rw [hKK] at hcf
    have hW : Wd Z A s.heap (cw Z hc z) _ _ := hW.sub [0, 1, 2, 3, 4] (by decide) rfl
    refine e_int hx hb hr hlk hAe hW (by rw [hGe]; omega) (by rw [hGe]; omega) dX3_reckonComparison_99 ⟨z, xn y, rfl, rfl, by rw [hGe]; exact e0, by omega, fun τ hτ => ?_⟩
    rw [gval ggz (by decide) kz (by omega) (by have := ty.1.1; omega) τ, c_op3, vl_1 tz.1 hτ, ggz.2.2.2.2.1.vl hby, hvy τ hτ]
    dsimp only
    rw [v1 τ hτ, v2 τ hτ]
    exact Bool.xor_true _
  · have hGe : GC 4 w = 1 + 1 + 6 * w := rfl
    rw [hGe] at hRc hRs hn
    obtain ⟨KK, hKK⟩ : ∃ k, k = 1 + 1 + 6 * w := ⟨_, rfl⟩
    rw [← hKK] at hRc hRs hn
    refine lv_iload_n hx hb dX3_reckonComparison_0 rfl (lv_at hl 1 rfl) ?_
    refine lv_tableOut (tgt := 100) hx hb dX3_reckonComparison_1 (by decide) (by decide) ?_
    refine lv_aload_n hx hb dX3_reckonComparison_100 rfl (lv_at hl 0 rfl) ?_
    refine r_get hx hb hts hown hK (hro.1.here hAe hW) rfl in_X3 0 (by decide) tb_97 (fun _ h => h) rfl dX3_reckonComparison_101 ?_
    refine lv_aload_n hx hb dX3_reckonComparison_104 rfl (lv_at hl 0 rfl) ?_
    refine r_get hx hb hts hown hK (hro.1.here hAe hW) rfl in_X3 0 (by decide) tb_97 (fun _ h => h) rfl dX3_reckonComparison_105 ?_
    refine lv_aload_n hx hb dX3_reckonComparison_108 rfl (lv_at hl 3 rfl) ?_
    have hcos := hx1.cost (j := 1) (K := KK) (by omega)
    refine c_virt (As := [.ref ab]) (rest := [.ref hk]) (wc := cw Z hc x) (wr := []) (nl := 0) hx hb hml hown hts hK hG rfl hA hl (k_signTurned l Z hk hc x σ ab w rb hx1.1 (by omega) hw hw1 hrb) hW ⟨RO.pass hro.2.1 hAe hW, RO.pass hro.2.2.2 hAe hW⟩ (hro.2.1.here hAe hW) rfl rfl tb_689 tb_690 tb_691 tb_2 tb_692 (nA := 1) (by decide +kernel) rfl ⟨by omega, by omega⟩ ⟨by omega, by omega⟩ rfl (Nat.le_of_ble_eq_true rfl) dX3_reckonComparison_109 (fun v w1 H1 L1 hp hW hzz hkk hdd => ?_)
    obtain ⟨y1, q1, f1, rfl, rfl, hsy1, hfby1, hfsy1⟩ := hp
    clear hzz hkk hdd
    generalize H1 = H at hW  ⊢
    generalize L1 = locs at hW ⊢
    have hW : Wd Z A s.heap (cw Z hc y1 ++ [ea Z q1 w f1]) _ _ := hW
    refine W.eq (g2 := F0 m 112 ls [.ref q1, .ref hk]) rfl ?_
    have ty1 := hx1.tr hsy1
    have hny1 := ty1.2.2.1
    have huy1 := hsy1.2.2.2
    refine lv_aload_n hx hb dX3_reckonComparison_112 rfl (lv_at hl 0 rfl) ?_
    refine r_get hx hb hts hown hK (hro.1.here hAe hW) rfl in_X3 0 (by decide) tb_97 (fun _ h => h) rfl dX3_reckonComparison_113 ?_
    refine lv_aload_n hx hb dX3_reckonComparison_116 rfl (lv_at hl 2 rfl) ?_
    have hcos := ty1.cost (j := 1) (K := KK) (by omega)
    refine c_virt (As := [.ref aa]) (rest := [.ref q1, .ref hk]) (wc := cw Z hc y1) (wr := [ea Z q1 w f1]) (nl := 0) hx hb hml hown hts hK hG rfl hA hl (k_signTurned l Z hk hc y1 σ aa w ra ty1.1 (by omega) hw hw1 (fun j hj => by have := hra j hj; omega)) hW ⟨RO.pass hro.2.1 hAe hW, RO.pass hro.2.2.1 hAe hW⟩ (hro.2.1.here hAe hW) rfl rfl tb_689 tb_690 tb_691 tb_2 tb_692 (nA := 1) (by decide +kernel) rfl ⟨by omega, by omega⟩ ⟨by omega, by omega⟩ rfl (Nat.le_of_ble_eq_true rfl) dX3_reckonComparison_117 (fun v w1 H1 L1 hp hW hzz hkk hdd => ?_)
    obtain ⟨y2, q2, f2, rfl, rfl, hsy2, hfby2, hfsy2⟩ := hp
    clear hzz hkk hdd
    generalize H1 = H at hW  ⊢
    generalize L1 = locs at hW ⊢
    have hW : Wd Z A s.heap (cw Z hc y2 ++ [ea Z q2 w f2, ea Z q1 w f1]) _ _ := hW
    refine W.eq (g2 := F0 m 120 ls [.ref q2, .ref q1, .ref hk]) rfl ?_
    have ty2 := ty1.tr hsy2
    have hny2 := ty2.2.2.1
    have huy2 := hsy2.2.2.2
    have hcoa := ty2.cost (j := 6 * w) (K := KK) (by omega)
    refine c_virt (As := [.ref q1, .ref q2]) (rest := []) (wc := cw Z hc y2) (wr := [ea Z q2 w f2, ea Z q1 w f1]) (nl := 0) hx hb hml hown hts hK hG rfl hA hl (k_atLeast l Z hk hc y2 σ q1 q2 w f1 f2 ty2.1 (by omega) hw (fun j hj => by have := hfby1 j hj; omega) hfby2) hW ⟨RO.pass hro.2.1 hAe hW, RO.loc hW 1 rfl, RO.loc hW 0 rfl⟩ (hro.2.1.here hAe hW) rfl rfl tb_684 tb_685 tb_686 tb_2 tb_687 (nA := 2) (by decide +kernel) rfl ⟨by omega, by omega⟩ ⟨by omega, by omega⟩ rfl (Nat.le_of_ble_eq_true rfl) dX3_reckonComparison_120 (fun v w1 H1 L1 hp hW hzz hkk hdd => ?_)
    obtain ⟨y, gy, rfl, rfl, hsy, hby, hvy⟩ := hp
    clear hzz hkk hdd
    generalize H1 = H at hW  ⊢
    generalize L1 = locs at hW ⊢
    have hW : Wd Z A s.heap (cw Z hc y ++ [ea Z q2 w f2, ea Z q1 w f1]) _ _ := hW
    refine W.eq (g2 := F0 m 123 ls [.int (nI gy)]) rfl ?_
    have huy := hsy.2.2.2
    have ty := ty2.tr hsy
    have hny := ty.2.2.1
    have v1 : ∀ τ, gd τ → rn y2 τ f1 w = tn x τ rb w := fun τ hτ => by
      rw [rn_ex hsy2.2.1 hfby1]; exact bn_congr (hfsy1 τ hτ)
    have v2 : ∀ τ, gd τ → rn y2 τ f2 w = tn x τ ra w := fun τ hτ => by
      have h : rn y2 τ f2 w = tn y1 τ ra w := bn_congr (hfsy2 τ hτ)
      rw [h]
      exact bn_congr (fun j hj => by rw [hsy1.2.1.vl (hra j hj)])
    have e0 : stp x σ (1 + 1 + 6 * w) y := by have h := ty; rw [Nat.zero_add] at h; exact h
    have hcf := e0.cost (j := 0) (K := KK) (by omega)
    rw [hKK] at hcf
    have hW : Wd Z A s.heap (cw Z hc y) _ _ := hW.sub [0, 1, 2, 3, 4] (by decide) rfl
    refine e_int hx hb hr hlk hAe hW (by rw [hGe]; omega) (by rw [hGe]; omega) dX3_reckonComparison_123 ⟨y, gy, rfl, rfl, by rw [hGe]; exact e0, by omega, fun τ hτ => ?_⟩
    rw [hvy τ hτ]
    dsimp only
    rw [v1 τ hτ, v2 τ hτ]
    rfl
end
