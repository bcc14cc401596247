/-! contracts of methods that may throw: then nothing that was there has changed -/
def XCd (px : String → Prop) : String → State → State → Prop := fun E st t => px E ∧ st.heap.size ≤ t.heap.size ∧ ∀ q : Nat, q < st.heap.size → t.heap[q]? = st.heap[q]?
def MX (l : Launch) (y : MethodName) (b : ByteArray) (nL : Nat) (ret : Option FieldType) (fr lo mc ms : Nat) (Z : Zt) (wc : va_W) (ro : Heap → Prop) (as : List Value) (post : Option Value → va_W → Prop) (px : String → Prop) : Prop :=
  ∀ sz : Nat, vx_Met l y (Cond.code y b nL ret :: TB) { frames := fr, cells := mc, slots := ms, locals := lo } (va_Pc as (PreC Z wc sz ro)) (QC Z wc sz post) (XCd px) mc ms (va_A wc sz)
theorem mx_of {l : Launch} {y : MethodName} {b : ByteArray} {nL : Nat} {ret : Option FieldType} {fr lo mc ms : Nat} {Z : Zt} {wc : va_W} {ro : Heap → Prop} {as : List Value} {post : Option Value → va_W → Prop} {px : String → Prop}
    (hy : plainName y.cls = true) (hlen : (lg_sl as).length ≤ nL)
    (body : ∀ (p : Program) (e : Env) (s : State) (m : MethodId) (below : List Frame) (meth : Method) (c : Code) (ls : Array Slot) (A : Nat → Prop), p.tables.exec = Jvm.exec → c.code = b → meth.sig.returnType = ret → (∀ w ∈ TB, w.before as.toArray s = true) → s.vm.findClass y.cls = some m.cls → meth.locks = false → c.maxLocals = nL → (∀ x ∈ c.exceptionTable.toList, False) → zK Z s → GS Z A s s.heap → Wd Z A s.heap wc s.heap [] → (∀ q, s.heap.size ≤ q → A q) → A = va_A wc s.heap.size → ro s.heap → lv_has ls nL (lv_args 0 as) → ∀ R : Room, R.frames = fr → R.cells = mc → R.slots = ms → R.locals = lo →
      W p l e R s m as.toArray below meth c s.heap [] 0 0 (vx_MQ below (QC Z wc s.heap.size post) (XCd px) as.toArray s mc ms A) (F0 m 0 ls [])) : MX l y b nL ret fr lo mc ms Z wc ro as post px := by
  intro sz
  refine vx_ofW (cc := b) (maxL := nL) (ret := ret) hy rfl ?_
  intro p e s m args below meth c s₁ B hml hex hv
  obtain ⟨rfl, hsz, hP, hK, hD0, hG, hro⟩ := hv
  subst hsz
  have hts0 := atoms_spec (ws := Cond.code y b nL ret :: TB) B.pre
  have hl := lv_entry as (n := nL) hlen
  have k := body p e s m below meth c _ (va_A wc s.heap.size) B.exec B.bytes B.returns (fun w hw => hts0 w (List.mem_cons_of_mem _ hw)) (findClass_of_methodNamed B.named) B.notSynchronized hml hex hK hG ⟨hP, hD0.self, va_S.rf⟩ (fun q h => Or.inr h) rfl hro hl { frames := fr, cells := mc, slots := ms, locals := lo } rfl rfl rfl rfl
  rw [lg_entry_eq]
  exact k
section Xc
variable {p : Program} {l : Launch} {e : Env} {R : Room} {s : State} {m : MethodId} {args : Array Value} {below : List Frame} {meth : Method} {c : Code} {H : Heap} {locs : List Loc} {cells slots : Nat} {Q : State → Prop}
variable {cc : ByteArray} {pc : Nat} {ls : Array Slot} {rest st0 : List Value} {Z : Zt} {A : Nat → Prop} {a : Array Value} {wc wr w0 : va_W} {H0 : Heap} {own : String}
variable {post post' : Option Value → va_W → Prop} {px px' : String → Prop} {ro : Heap → Prop} {mc ms fr lo nL maxL idx MCC MSS : Nat} {y : MethodName} {bytes : ByteArray} {ret : Option FieldType} {As : List Value} {b : Nat}
theorem xr_P (hr : vx_Run p l e R s m args below meth c H locs cells slots mc ms (F0 m pc ls st0) rest (QC Z wc H.size post a) (XCd px) (va_A wc H.size)) (hW : Wd Z A H0 (wc ++ wr) H locs) (hA : ∀ q, H0.size ≤ q → A q)
    (kx : ∀ (E : String) (q9 : Addr) (ce : Cell) (H1 : Heap) (locs1 : List Loc), px E → Wd Z A H0 (wc ++ wr) H1 locs1 → H.size ≤ H1.size → (∀ q : Nat, q < H.size → H1[q]? = H[q]?) → H1[q9]? = some ce → ce.vm = .none → s.vm.findClass E = some ce.cls → vx_W p l e R s m args below meth c H1 locs1 (cells + mc) (slots + ms) Q (F0 m pc ls rest) q9)
    (kk : ∀ (v : Option Value) (w1 : va_W) (H1 : Heap) (locs1 : List Loc), post v w1 → Wd Z A H0 (w1 ++ wr) H1 locs1 → H.size ≤ H1.size → (∀ q : Nat, q < H.size → ¬ va_A wc H.size q → H1[q]? = H[q]?) → va_D (va_A wc H.size) w1 → W p l e R s m args below meth c H1 locs1 (cells + mc) (slots + ms) Q (F0 m (pc + 3) ls (v.toList ++ rest))) : W p l e R s m args below meth c H locs cells slots Q (F0 m pc ls st0) := by
  intro T hT X
  rcases hr T hT X with h | ⟨q, st₀, t, T', L, E, ce, h0, X', hL, e1, e2, ⟨hpx, hz, hk⟩, hce, hcv, hcl, st⟩
  · obtain ⟨v, st₀, t, T', L, h0, X', hL, e1, e2, ⟨⟨v', w1, hv, hp, hP1, hD1⟩, hz, hk⟩, st⟩ := h
    cases hv
    rw [h0] at hz hk
    have hF := pre_F hW hA
    have k2 : ∀ q : Nat, q < H.size → ¬ va_A wc H.size q → T'.heap[q]? = H[q]? := fun q h1 h2 => by rw [e1]; exact hk q h1 h2
    have k1 : H.size ≤ T'.heap.size := by rw [e1]; exact hz
    have hWd : Wd Z A H0 (w1 ++ wr) T'.heap (locs ++ L) := by
      refine ⟨va_P.app (by rw [e1]; exact hP1) (fun k q hq => ?_), va_D.app (hD1.weaken (fun k q _ h => hF q.1 h)) (suf_D hW.2.1) (fun i j x y hx hy hxy => ?_), Nat.le_trans hW.2.2.1 k1, fun q h1 h2 => ?_, fun q hq => ?_⟩
      · obtain ⟨g1, g2⟩ := suf_not hW.2.1 hW.1 hq
        exact (suf_P hW.1 k q hq).kept (k2 q.1 g1 g2)
      · exact (suf_not hW.2.1 hW.1 hy).2 (by rw [← hxy]; exact hD1.2 i x hx)
      · rw [k2 q (Nat.lt_of_lt_of_le h1 hW.2.2.1) (fun z => h2 (hF q z))]
        exact hW.2.2.2.1 q h1 h2
      · rcases List.mem_append.mp hq with h | h
        · exact hW.2.2.2.2 q h
        · exact hF _ (hL q h)
    obtain ⟨t2, a1, b1⟩ := kk v w1 T'.heap (locs ++ L) hp hWd k1 k2 hD1 T' rfl X'
    exact ⟨t2, st t2 a1, b1⟩
  · rw [h0] at hz hk
    have hF := pre_F hW hA
    have k2 : ∀ q : Nat, q < H.size → T'.heap[q]? = H[q]? := fun q h1 => by rw [e1]; exact hk q h1
    have k1 : H.size ≤ T'.heap.size := by rw [e1]; exact hz
    have hWd : Wd Z A H0 (wc ++ wr) T'.heap (locs ++ L) := by
      refine ⟨hW.1.kept (fun k q hq => k2 q.1 (hW.1 k q hq).lt), hW.2.1, Nat.le_trans hW.2.2.1 k1, fun q h1 h2 => ?_, fun q hq => ?_⟩
      · rw [k2 q (Nat.lt_of_lt_of_le h1 hW.2.2.1)]; exact hW.2.2.2.1 q h1 h2
      · rcases List.mem_append.mp hq with h | h
        · exact hW.2.2.2.2 q h
        · exact hF _ (hL q h)
    obtain ⟨t2, a1, b1⟩ := kx E q ce T'.heap (locs ++ L) hpx hWd k1 k2 (by rw [e1]; exact hce) hcv hcl T' rfl X'
    exact ⟨t2, st.trans a1, b1⟩
/-- it goes on to the caller: what was there at the start is there still -/
theorem x_pass (hex : ∀ x ∈ c.exceptionTable.toList, False) (hlk : meth.locks = false) {Qc : Array Value → State → Outcome → State → Prop} {free : Addr → Prop} {E : String} {q9 : Addr} {ce : Cell} (hE : px' E) (hsz : s.heap.size ≤ H.size) (hsame : ∀ q : Nat, q < s.heap.size → H[q]? = s.heap[q]?) (hce : H[q9]? = some ce) (hcv : ce.vm = .none) (hcl : s.vm.findClass E = some ce.cls) (hf : ∀ z ∈ locs, free z.base) (hc : cells ≤ MCC) (hs : slots ≤ MSS) :
    vx_W p l e R s m args below meth c H locs cells slots (vx_MQ below Qc (XCd px') args s MCC MSS free) (F0 m pc ls rest) q9 :=
  vx_out (E := E) (fun x hx => (hex x hx).elim) hlk hce hcv hcl (fun t ht _ => ⟨hE, by rw [ht]; exact hsz, fun q hq => by rw [ht]; exact hsame q hq⟩) hf hc hs
theorem x_virt {nA : Nat} (hx : p.tables.exec = Jvm.exec) (hb : c.code = cc) (hml : c.maxLocals = nL) (hown : s.vm.findClass own = some m.cls) (hts : ∀ w ∈ TB, w.before args s = true) (hK : zK Z s) (hG : GS Z A s s.heap) (hH0 : H0 = s.heap) (hA : ∀ q, H0.size ≤ q → A q) {lv : List (Nat × Value)} (hl : lv_has ls nL lv)
    (hM : MX l y bytes maxL ret fr lo mc ms Z wc ro (.ref b :: As) post px) (hW : Wd Z A H0 (wc ++ wr) H locs) (hro : ro H)
    {ci N : Nat} {C : String} {T : u_T} {fs : List Value} (hrec : zat Z (b, .inr (ci, fs)) H) (hci : classes[ci]? = some (C, T, N)) (hC : y.cls = C)
    (w1 : Cond.methodLink own idx y ∈ TB) (w2 : Cond.instanceMethod y ∈ TB) (w3 : Cond.selects C y y ∈ TB) (w4 : Cond.initialized C ∈ TB) (w5 : Cond.code y bytes maxL ret ∈ TB)
    (hd : y.cls ≠ "java/lang/invoke/MethodHandle" ∧ y.cls ≠ "java/lang/invoke/VarHandle" ∧ (parseMethodDescriptor y.desc).map (fun d => d.parameters.length) = some nA) (hnA : As.length = nA)
    (hR : fr + 1 ≤ R.frames ∧ 8 + (maxL + 11) + lo ≤ R.locals) (hcs : cells + mc ≤ R.cells ∧ slots + ms ≤ R.slots) (hst : st0 = As.reverse ++ .ref b :: rest) (hrm : (rest.map fun v => v.category).sum ≤ 8) (hdg : decode cc pc = .ok (.invokevirtual idx, 3))
    (kx : ∀ (E : String) (q9 : Addr) (ce : Cell) (H1 : Heap) (locs1 : List Loc), px E → Wd Z A H0 (wc ++ wr) H1 locs1 → H.size ≤ H1.size → (∀ q : Nat, q < H.size → H1[q]? = H[q]?) → H1[q9]? = some ce → ce.vm = .none → s.vm.findClass E = some ce.cls → vx_W p l e R s m args below meth c H1 locs1 (cells + mc) (slots + ms) Q (F0 m pc ls rest) q9)
    (kk : ∀ (v : Option Value) (w1 : va_W) (H1 : Heap) (locs1 : List Loc), post v w1 → Wd Z A H0 (w1 ++ wr) H1 locs1 → H.size ≤ H1.size → (∀ q : Nat, q < H.size → ¬ va_A wc H.size q → H1[q]? = H[q]?) → va_D (va_A wc H.size) w1 → W p l e R s m args below meth c H1 locs1 (cells + mc) (slots + ms) Q (F0 m (pc + 3) ls (v.toList ++ rest))) : W p l e R s m args below meth c H locs cells slots Q (F0 m pc ls st0) := by
  subst hC
  refine xr_P (vx_runV (C := y.cls) (b := b) (As := As) ⟨hx, hb, hml, hown, hts⟩ (hM H.size) ⟨callB_TB hts w5 w4 w1 hd hR, hts _ w2, hts _ w3⟩ ⟨preC_blind, ?_, fun U hU hWm => ⟨rfl, by rw [hU], by rw [hU]; exact pre_P hW.1, zK.moved hWm.alike hK, (pre_D hW.2.1).weaken (fun _ _ _ _ => trivial), gs_at hG hH0 hW hA hU hWm, by rw [hU]; exact hro⟩⟩ rfl hnA hl.1 hst (lv_room hrm) hdg hcs) hW hA kx kk
  exact va_recv (q0 := 0) (ci := ci) hK (zat_one hrec) hci rfl
theorem x_stat {nA : Nat} (hx : p.tables.exec = Jvm.exec) (hb : c.code = cc) (hml : c.maxLocals = nL) (hown : s.vm.findClass own = some m.cls) (hts : ∀ w ∈ TB, w.before args s = true) (hK : zK Z s) (hG : GS Z A s s.heap) (hH0 : H0 = s.heap) (hA : ∀ q, H0.size ≤ q → A q) {lv : List (Nat × Value)} (hl : lv_has ls nL lv)
    (hM : MX l y bytes maxL ret fr lo mc ms Z wc ro As post px) (hW : Wd Z A H0 (wc ++ wr) H locs) (hro : ro H)
    (w1 : Cond.methodLink own idx y ∈ TB) (w2 : Cond.static y ∈ TB) (w4 : Cond.initialized y.cls ∈ TB) (w5 : Cond.code y bytes maxL ret ∈ TB)
    (hd : y.cls ≠ "java/lang/invoke/MethodHandle" ∧ y.cls ≠ "java/lang/invoke/VarHandle" ∧ (parseMethodDescriptor y.desc).map (fun d => d.parameters.length) = some nA) (hnA : As.length = nA)
    (hR : fr + 1 ≤ R.frames ∧ 8 + (maxL + 11) + lo ≤ R.locals) (hcs : cells + mc ≤ R.cells ∧ slots + ms ≤ R.slots) (hst : st0 = As.reverse ++ rest) (hrm : (rest.map fun v => v.category).sum ≤ 8) (hdg : decode cc pc = .ok (.invokestatic idx, 3))
    (kx : ∀ (E : String) (q9 : Addr) (ce : Cell) (H1 : Heap) (locs1 : List Loc), px E → Wd Z A H0 (wc ++ wr) H1 locs1 → H.size ≤ H1.size → (∀ q : Nat, q < H.size → H1[q]? = H[q]?) → H1[q9]? = some ce → ce.vm = .none → s.vm.findClass E = some ce.cls → vx_W p l e R s m args below meth c H1 locs1 (cells + mc) (slots + ms) Q (F0 m pc ls rest) q9)
    (kk : ∀ (v : Option Value) (w1 : va_W) (H1 : Heap) (locs1 : List Loc), post v w1 → Wd Z A H0 (w1 ++ wr) H1 locs1 → H.size ≤ H1.size → (∀ q : Nat, q < H.size → ¬ va_A wc H.size q → H1[q]? = H[q]?) → va_D (va_A wc H.size) w1 → W p l e R s m args below meth c H1 locs1 (cells + mc) (slots + ms) Q (F0 m (pc + 3) ls (v.toList ++ rest))) : W p l e R s m args below meth c H locs cells slots Q (F0 m pc ls st0) :=
  xr_P (vx_runS (As := As) ⟨hx, hb, hml, hown, hts⟩ (hM H.size) ⟨callB_TB hts w5 w4 w1 hd hR, hts _ w2⟩ ⟨preC_blind, fun U hU hWm => ⟨rfl, by rw [hU], by rw [hU]; exact pre_P hW.1, zK.moved hWm.alike hK, (pre_D hW.2.1).weaken (fun _ _ _ _ => trivial), gs_at hG hH0 hW hA hU hWm, by rw [hU]; exact hro⟩⟩ rfl hnA hl.1 hst (lv_room hrm) hdg hcs) hW hA kx kk
def IAE : String := "java/lang/IllegalArgumentException"
def ISE : String := "java/lang/IllegalStateException"
def xnames : List String := ["java/lang/RuntimeException", "java/lang/Exception"]
def xB : List Cond := (nw_cast.map fun q => Cond.castable q.1 q.2) ++ nw_decl.map fun y => Cond.declares y
theorem xB_ok (h : GSv Z s) : ∀ w ∈ xB, w.before args s = true := by
  intro w hw
  rcases List.mem_append.mp hw with q | q
  · obtain ⟨z, hz, rfl⟩ := List.mem_map.mp q
    exact va_Nw.use rfl (h.1 z hz)
  · obtain ⟨z, hz, rfl⟩ := List.mem_map.mp q
    exact va_Nw.use rfl (h.2.1 z hz)
theorem iae_good : ∀ w ∈ (vx_atS RX3 94 IAE xnames).filter goodWord, w ∈ TB := by decide +kernel
theorem iae_bad : ∀ w ∈ (vx_atS RX3 94 IAE xnames).filter (fun w => !goodWord w), w ∈ xB := by decide +kernel
theorem ise_good : ∀ w ∈ (vx_atS RX3 155 ISE xnames).filter goodWord, w ∈ TB := by decide +kernel
theorem ise_bad : ∀ w ∈ (vx_atS RX3 155 ISE xnames).filter (fun w => !goodWord w), w ∈ xB := by decide +kernel
theorem iae_ot : ∀ w ∈ Cond.classLink RX3 90 IAE :: Cond.initialized IAE :: vx_atS RX3 94 IAE xnames, vx_ot w = true := by decide +kernel
theorem ise_ot : ∀ w ∈ Cond.classLink RX3 151 ISE :: Cond.initialized ISE :: vx_atS RX3 155 ISE xnames, vx_ot w = true := by decide +kernel
theorem iae_1 : Cond.classLink RX3 90 IAE ∈ TB := by decide +kernel
theorem iae_2 : Cond.initialized IAE ∈ TB := by decide +kernel
theorem ise_1 : Cond.classLink RX3 151 ISE ∈ TB := by decide +kernel
theorem ise_2 : Cond.initialized ISE ∈ TB := by decide +kernel
theorem th_IAE (hx : p.tables.exec = Jvm.exec) (hb : c.code = cc) (hst : l.stackTraces = false) (hown : s.vm.findClass RX3 = some m.cls) (hts : ∀ w ∈ TB, w.before args s = true) (hG : GS Z A s s.heap) (hW : Wd Z A s.heap w0 H locs) {lv : List (Nat × Value)} (hml : c.maxLocals = nL) (hl : lv_has ls nL lv) (hex : ∀ x ∈ c.exceptionTable.toList, False) (hlk : meth.locks = false) {is : Nat} {text : String} (hstr : (is, text) ∈ nw_strs)
    (d0 : decode cc pc = .ok (.new 90, 3)) (d3 : decode cc (pc + 3) = .ok (.dup, 1)) (d4 : decode cc (pc + 4) = .ok (.ldc is, 2)) (d6 : decode cc (pc + 6) = .ok (.invokespecial 94, 3)) (d9 : decode cc (pc + 9) = .ok (.athrow, 1))
    (hRf : 5 < R.frames) (hRl : (rest.map fun v => v.category).sum + 82 ≤ R.locals) (hRc : cells + 1 ≤ R.cells) (hRs : slots + 6 ≤ R.slots) {Qc : Array Value → State → Outcome → State → Prop} (hE : px' IAE) (hsame : ∀ q : Nat, q < s.heap.size → H[q]? = s.heap[q]?) (hc : cells + 1 ≤ MCC) (hs : slots + 6 ≤ MSS) :
    W p l e R s m args below meth c H locs cells slots (vx_MQ below Qc (XCd px') args s MCC MSS A) (F0 m pc ls rest) := by
  obtain ⟨sa, hsa⟩ := hG.1.2.2.2.1 _ hstr
  exact vx_throwS (A := A) (names := xnames) hx hb hst hown (by decide +kernel) (by decide +kernel) (hts _ iae_1) (hts _ iae_2) hsa (vx_hat (fun w hw => hts w (iae_good w hw)) iae_bad (xB_ok hG.1)) iae_ot hG.2.2.2.1 hG.2.2.2.2 hW.2.2 (hl.1.trans hml.symm) d0 d3 d4 d6 d9 (fun x hx => (hex x hx).elim) hRf hRl hRc hRs hlk (fun t _ h1 h2 => ⟨hE, Nat.le_trans hW.2.2.1 h1, fun q hq => by rw [h2 q (Nat.lt_of_lt_of_le hq hW.2.2.1)]; exact hsame q hq⟩) hW.2.2.2.2 hc hs
theorem th_ISE (hx : p.tables.exec = Jvm.exec) (hb : c.code = cc) (hst : l.stackTraces = false) (hown : s.vm.findClass RX3 = some m.cls) (hts : ∀ w ∈ TB, w.before args s = true) (hG : GS Z A s s.heap) (hW : Wd Z A s.heap w0 H locs) {lv : List (Nat × Value)} (hml : c.maxLocals = nL) (hl : lv_has ls nL lv) (hex : ∀ x ∈ c.exceptionTable.toList, False) (hlk : meth.locks = false) {is : Nat} {text : String} (hstr : (is, text) ∈ nw_strs)
    (d0 : decode cc pc = .ok (.new 151, 3)) (d3 : decode cc (pc + 3) = .ok (.dup, 1)) (d4 : decode cc (pc + 4) = .ok (.ldc is, 2)) (d6 : decode cc (pc + 6) = .ok (.invokespecial 155, 3)) (d9 : decode cc (pc + 9) = .ok (.athrow, 1))
    (hRf : 5 < R.frames) (hRl : (rest.map fun v => v.category).sum + 82 ≤ R.locals) (hRc : cells + 1 ≤ R.cells) (hRs : slots + 6 ≤ R.slots) {Qc : Array Value → State → Outcome → State → Prop} (hE : px' ISE) (hsame : ∀ q : Nat, q < s.heap.size → H[q]? = s.heap[q]?) (hc : cells + 1 ≤ MCC) (hs : slots + 6 ≤ MSS) :
    W p l e R s m args below meth c H locs cells slots (vx_MQ below Qc (XCd px') args s MCC MSS A) (F0 m pc ls rest) := by
  obtain ⟨sa, hsa⟩ := hG.1.2.2.2.1 _ hstr
  exact vx_throwS (A := A) (names := xnames) hx hb hst hown (by decide +kernel) (by decide +kernel) (hts _ ise_1) (hts _ ise_2) hsa (vx_hat (fun w hw => hts w (ise_good w hw)) ise_bad (xB_ok hG.1)) ise_ot hG.2.2.2.1 hG.2.2.2.2 hW.2.2 (hl.1.trans hml.symm) d0 d3 d4 d6 d9 (fun x hx => (hex x hx).elim) hRf hRl hRc hRs hlk (fun t _ h1 h2 => ⟨hE, Nat.le_trans hW.2.2.1 h1, fun q hq => by rw [h2 q (Nat.lt_of_lt_of_le hq hW.2.2.1)]; exact hsame q hq⟩) hW.2.2.2.2 hc hs
end Xc
