/-! methods that catch -/
section Hc
variable {p : Program} {l : Launch} {e : Env} {R : Room} {s : State} {m : MethodId} {args : Array Value} {below : List Frame} {meth : Method} {c : Code} {H : Heap} {locs : List Loc} {cells slots : Nat} {Q : State → Prop} {pc : Nat} {ls : Array Slot} {rest : List Value}
/-- caught by the row x of this method's table; the rows ahead don't take it -/
theorem vx_catch {own name : String} {E : String} {ce : Cell} {q : Addr} (hown : s.vm.findClass own = some m.cls) (pre : List ExceptionTableEntry) (x : ExceptionTableEntry) (suf : List ExceptionTableEntry) (hsplit : c.exceptionTable.toList = pre ++ x :: suf)
    (hpass : ∀ z ∈ pre, covers z pc = false ∨ (z.catchType ≠ 0 ∧ ∃ nm : String, (Cond.classLink own z.catchType nm).before args s = true ∧ va_Nc E nm s)) (hx : covers x pc = true) (h0 : x.catchType ≠ 0)
    (hlink : (Cond.classLink own x.catchType name).before args s = true) (hcast : (Cond.castable E name).before args s = true) (hcell : H[q]? = some ce) (hv : ce.vm = .none) (hcl : s.vm.findClass E = some ce.cls)
    (kk : W p l e R s m args below meth c H locs cells slots Q (F0 m x.handlerPc ls [.ref q])) : vx_W p l e R s m args below meth c H locs cells slots Q (F0 m pc ls rest) q := by
  intro T hT X
  have hpl : e.platform.magicAccessors = ({} : Platform).magicAccessors := by rw [X.admits.platform]
  obtain ⟨c3, c4, hc3, hc4, hasg⟩ := Cond.castable_spec hcast
  cases Option.some.inj (hc3.symm.trans hcl)
  obtain ⟨c5, hc5, hcl5⟩ := Cond.classLink_spec hown hlink e.platform hpl
  cases Option.some.inj (hc4.symm.trans hc5)
  obtain ⟨vm', X', st⟩ := Jvm.Stand.thenCaughtThrough X q (g := F0 m pc ls rest) rfl (Steps.refl _) (by rw [hT]; exact hcell) (by rw [hv]; rfl) (by obtain ⟨k9, h9, -⟩ := Vm.findClass_spec hcl; exact ⟨k9, h9⟩) pre x suf hsplit
    (fun z hz => by
      rcases hpass z hz with h | ⟨hz0, nm, hl1, hn1⟩
      · exact Or.inl h
      · obtain ⟨c6, hc6, hcl6⟩ := Cond.classLink_spec hown hl1 e.platform hpl
        obtain ⟨a8, b8, h1, h2, h3⟩ := hn1
        cases Option.some.inj (h1.symm.trans hcl)
        cases Option.some.inj (h2.symm.trans hc6)
        exact Or.inr ⟨hz0, _, hcl6, h3⟩) hx (Or.inr ⟨h0, c4, hcl5, hasg⟩)
  obtain ⟨t, a1, b1⟩ := kk (T.setVm vm') hT X'
  exact ⟨t, st.trans a1, b1⟩
end Hc
/-- a body with handlers that returns -/
theorem Met.ofWH {l : Launch} {y : MethodName} {ws ws' : List Cond} {rm : Room} {Pc : Array Value → State → Prop} {Qc : Array Value → State → Outcome → State → Prop} {mc ms : Nat} {free : Addr → Prop} {cc : ByteArray} {maxL : Nat} {ret : Option FieldType} {hh : List (Nat × Nat × Nat × Nat)}
    (hy : plainName y.cls = true) (hw : ws = Cond.codeWith y cc maxL ret hh :: ws')
    (body : ∀ p e s m args below meth c s₁, BodyLoose p l y (headSpec ws rm) cc maxL ret e s m args below meth c s₁ → c.maxLocals = maxL → Pc args s →
      W p l e (headSpec ws rm).room s m args below meth c s.heap [] 0 0 (MQ below Qc args s mc ms free) (entryFrame m args maxL)) : Met l y ws rm Pc Qc mc ms free := by
  refine MetFree.of_bodyS (code := cc) (maxLocals := maxL) (ret := ret) hy ?_ ?_
  · intro args s m h hn
    obtain ⟨m9, meth, c, hn9, h1, h2, h3, h4, -, h5, h6, -⟩ := Cond.codeWith_spec (atoms_spec (ws := ws) h _ (by rw [hw]; exact List.mem_cons_self))
    cases hn.symm.trans hn9
    exact ⟨meth, c, h1, h2, h3, h4, h5, h6⟩
  · intro p e s m args below meth c s₁ B hml hP _
    have hh0 : s₁.heap = s.heap := by rw [B.state]; rfl
    obtain ⟨t, a1, o, b1, b2, b3⟩ := body p e s m args below meth c s₁ B hml hP s₁ hh0 (Stand.of_body B)
    exact ⟨t, o, a1, b1, b2, ⟨b3.1, b3.2⟩⟩
def PreH (Z : Zt) (wc : va_W) (sz : Nat) (ro : Heap → Prop) (U : State) : Prop := PreC Z wc sz ro U ∧ va_Nc ISE IAE U
/-- method y with handlers hh: it returns -/
def MH (l : Launch) (y : MethodName) (b : ByteArray) (nL : Nat) (ret : Option FieldType) (hh : List (Nat × Nat × Nat × Nat)) (fr lo mc ms : Nat) (Z : Zt) (wc : va_W) (ro : Heap → Prop) (as : List Value) (post : Option Value → va_W → Prop) : Prop :=
  ∀ sz : Nat, Met l y (Cond.codeWith y b nL ret hh :: TB) { frames := fr, cells := mc, slots := ms, locals := lo } (va_Pc as (PreH Z wc sz ro)) (QC Z wc sz post) mc ms (va_A wc sz)
theorem preH_blind {Z : Zt} {wc : va_W} {sz : Nat} {ro : Heap → Prop} {as : List Value} : FrameBlind (va_Pc as (PreH Z wc sz ro)) := by
  intro a U g mk q
  have h := preC_blind (Z := Z) (wc := wc) (sz := sz) (ro := ro) (as := as) a U g mk ⟨q.1, q.2.1⟩
  exact ⟨h.1, h.2, va_Nc.moved (u := U) (U := U.calling g mk a) (Vm.Alike.refl U.vm) q.2.2⟩
theorem mh_of {l : Launch} {y : MethodName} {b : ByteArray} {nL : Nat} {ret : Option FieldType} {hh : List (Nat × Nat × Nat × Nat)} {fr lo mc ms : Nat} {Z : Zt} {wc : va_W} {ro : Heap → Prop} {as : List Value} {post : Option Value → va_W → Prop}
    (hy : plainName y.cls = true) (hlen : (lg_sl as).length ≤ nL)
    (body : ∀ (p : Program) (e : Env) (s : State) (m : MethodId) (below : List Frame) (meth : Method) (c : Code) (ls : Array Slot) (A : Nat → Prop), p.tables.exec = Jvm.exec → c.code = b → meth.sig.returnType = ret → (∀ w ∈ TB, w.before as.toArray s = true) → s.vm.findClass y.cls = some m.cls → meth.locks = false → c.maxLocals = nL → c.exceptionTable.toList = tableOf hh → va_Nc ISE IAE s → zK Z s → GS Z A s s.heap → Wd Z A s.heap wc s.heap [] → (∀ q, s.heap.size ≤ q → A q) → A = va_A wc s.heap.size → ro s.heap → lv_has ls nL (lv_args 0 as) → ∀ R : Room, R.frames = fr → R.cells = mc → R.slots = ms → R.locals = lo →
      W p l e R s m as.toArray below meth c s.heap [] 0 0 (MQ below (QC Z wc s.heap.size post) as.toArray s mc ms A) (F0 m 0 ls [])) : MH l y b nL ret hh fr lo mc ms Z wc ro as post := by
  intro sz
  refine Met.ofWH (cc := b) (maxL := nL) (ret := ret) (hh := hh) hy rfl ?_
  intro p e s m args below meth c s₁ B hml hv
  obtain ⟨rfl, ⟨hsz, hP, hK, hD0, hG, hro⟩, hnc⟩ := hv
  subst hsz
  have hts0 := atoms_spec (ws := Cond.codeWith y b nL ret hh :: TB) B.pre
  have hl := lv_entry as (n := nL) hlen
  have hex := vx_table (x := y) (y := y) B (hts0 _ List.mem_cons_self)
  have k := body p e s m below meth c _ (va_A wc s.heap.size) B.exec B.bytes B.returns (fun w hw => hts0 w (List.mem_cons_of_mem _ hw)) (findClass_of_methodNamed B.named) B.notSynchronized hml hex hnc hK hG ⟨hP, hD0.self, va_S.rf⟩ (fun q h => Or.inr h) rfl hro hl { frames := fr, cells := mc, slots := ms, locals := lo } rfl rfl rfl rfl
  rw [lg_entry_eq]
  exact k
section Hk
variable {p : Program} {l : Launch} {e : Env} {R : Room} {s : State} {m : MethodId} {args : Array Value} {below : List Frame} {meth : Method} {c : Code} {H : Heap} {locs : List Loc} {cells slots : Nat} {Q : State → Prop}
variable {cc : ByteArray} {pc : Nat} {ls : Array Slot} {rest st0 : List Value} {Z : Zt} {A : Nat → Prop} {a : Array Value} {wc wr : va_W} {H0 : Heap} {own : String}
variable {post : Option Value → va_W → Prop} {ro : Heap → Prop} {mc ms fr lo nL maxL idx : Nat} {y : MethodName} {bytes : ByteArray} {ret : Option FieldType} {hh : List (Nat × Nat × Nat × Nat)} {As : List Value} {b : Nat}
theorem h_stat {nA : Nat} (hx : p.tables.exec = Jvm.exec) (hb : c.code = cc) (hml : c.maxLocals = nL) (hown : s.vm.findClass own = some m.cls) (hts : ∀ w ∈ TB, w.before args s = true) (hnc : va_Nc ISE IAE s) (hK : zK Z s) (hG : GS Z A s s.heap) (hH0 : H0 = s.heap) (hA : ∀ q, H0.size ≤ q → A q) {lv : List (Nat × Value)} (hl : lv_has ls nL lv)
    (hM : MH l y bytes maxL ret hh fr lo mc ms Z wc ro As post) (hW : Wd Z A H0 (wc ++ wr) H locs) (hro : ro H)
    (w1 : Cond.methodLink own idx y ∈ TB) (w2 : Cond.static y ∈ TB) (w4 : Cond.initialized y.cls ∈ TB) (w5 : Cond.codeWith y bytes maxL ret hh ∈ TB)
    (hd : y.cls ≠ "java/lang/invoke/MethodHandle" ∧ y.cls ≠ "java/lang/invoke/VarHandle" ∧ (parseMethodDescriptor y.desc).map (fun d => d.parameters.length) = some nA) (hnA : As.length = nA)
    (hR : fr + 1 ≤ R.frames ∧ 8 + (maxL + 11) + lo ≤ R.locals) (hcs : cells + mc ≤ R.cells ∧ slots + ms ≤ R.slots) (hst : st0 = As.reverse ++ rest) (hrm : (rest.map fun v => v.category).sum ≤ 8) (hdg : decode cc pc = .ok (.invokestatic idx, 3))
    (kk : ∀ (v : Option Value) (w1 : va_W) (H1 : Heap) (locs1 : List Loc), post v w1 → Wd Z A H0 (w1 ++ wr) H1 locs1 → H.size ≤ H1.size → (∀ q : Nat, q < H.size → ¬ va_A wc H.size q → H1[q]? = H[q]?) → va_D (va_A wc H.size) w1 → W p l e R s m args below meth c H1 locs1 (cells + mc) (slots + ms) Q (F0 m (pc + 3) ls (v.toList ++ rest))) : W p l e R s m args below meth c H locs cells slots Q (F0 m pc ls st0) := by
  have hgood : GoodIn TB (va_wsS own idx y (Cond.codeWith y bytes maxL ret hh :: TB)) := by
    intro w hw
    have hw' : w ∈ TB := by
      simp only [va_wsS, List.cons_append, List.nil_append, List.mem_cons] at hw
      rcases hw with q | q | q | q | q
      · rw [q]; first | exact w1 | exact w2 | exact w4 | exact w5
      · rw [q]; first | exact w1 | exact w2 | exact w4 | exact w5
      · rw [q]; first | exact w1 | exact w2 | exact w4 | exact w5
      · rw [q]; first | exact w1 | exact w2 | exact w4 | exact w5
      · exact q
    exact ⟨hw', good_of_word (TB_good hw')⟩
  exact cr_P (vx_runSW (As := As) ⟨hx, hb, hml, hown, hts⟩ (hM H.size) (vx_cwSW (hh := hh) nA hts hgood rfl rfl rfl hd hR) ⟨preH_blind, fun U hU hWm => ⟨rfl, ⟨by rw [hU], by rw [hU]; exact pre_P hW.1, zK.moved hWm.alike hK, (pre_D hW.2.1).weaken (fun _ _ _ _ => trivial), gs_at hG hH0 hW hA hU hWm, by rw [hU]; exact hro⟩, va_Nc.moved hWm.alike hnc⟩⟩ rfl hnA hl.1 hst (lv_room hrm) hdg hcs) hW hA kk
end Hk
