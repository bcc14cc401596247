/-! THE CLAIM OUT OF ONE WALK OF THE LAW'S BODY. Your part is whole_start (and what it stands on); all else here is the same for every law, but numbers. -/
def R_law : String := "VectorBenchLaw"
def lw_P (b : Addr) (xs : List Int32) (args : Array Value) (s : State) : Prop := args = #[.ref b] ∧ s.IntsAt b xs ∧ xs.length ≤ 2048 ∧ (Jvm.Cond.and given_1 narrow_1).before args s = true
def lw_Q (_ : Array Value) (s : State) (o : Outcome) (t : State) : Prop := o = .returned (some (.int 1)) ∧ Framed s o t [] 269289 8288238
def lw_Z (below : List Frame) (a : Array Value) (s : State) : State → Prop := fun t => ∃ o, t.status = .running ∧ Ended t below o ∧ lw_Q a s o t
/-- the law's own end, with 1 on the stack, nothing written that was there before, its room as the claim has it -/
theorem lw_ret {p : Program} {l : Launch} {e : Env} {s : State} {m : MethodId} {below : List Frame} {meth : Method} {c : Code} {b : Nat} (hx : p.tables.exec = Jvm.exec) (hb : c.code = code) (hr : meth.sig.returnType = ret) (hlocks : meth.locks = false) {pc : Nat} {H : Heap} {ls : Array Slot} (hdg : decode code pc = .ok (.ireturn, 1)) : W p l e room_1 s m #[Value.ref b] below meth c H [] 269289 8288238 (lw_Z below #[Value.ref b] s) (F0 m pc ls [.int 1]) := by
  intro T hT X
  obtain ⟨fs, hret, hrun, hended, hW, hframe⟩ := X.leave (v := some (.int 1)) (hlocks := hlocks) (fun h => by rw [hr] at h; cases h)
  have hmeth' : T.vm.method? m = some meth := X.method'
  refine ⟨T.setFrames fs, ?_, .returned (some (.int 1)), hrun, hended, rfl, ⟨_, rfl⟩, hW, hframe⟩
  jvm_step X.here [X.here.top, hx, hb, hdg, hmeth', hr, ret, narrow_b1]
  (try refine ⟨rfl, ?_⟩); (try refine ⟨rfl, ?_⟩)
  first | (intro acts; rw [hret _ acts rfl rfl rfl]) | rw [hret _ _ rfl rfl rfl]
  exact Steps.refl _
/-- what holds at the law's entry: the machine, the code, the tables' words (any of lw_tbl by 'hts w (by decide +kernel)'), the script of L ints xs at the cell b, what the Statement gives of the start (any of its parts by flat_of_before) -/
def lw_At (p : Program) (s : State) (m : MethodId) (meth : Method) (c : Code) (b L : Nat) (xs : Nat → Int32) : Prop :=
  p.tables.exec = Jvm.exec ∧ c.code = code ∧ meth.sig.returnType = ret ∧ c.maxLocals = 8 ∧ s.vm.findClass R_law = some m.cls ∧ (∀ w ∈ lw_tbl, w.before #[Value.ref b] s = true) ∧ va_X b L xs s s.heap ∧ b < s.heap.size ∧ meth.locks = false ∧ (Jvm.Cond.and given_1 narrow_1).before #[Value.ref b] s = true
theorem st_cast : ∀ q ∈ nw_cast, Cond.castable q.1 q.2 ∈ lw_tbl := by decide +kernel
theorem st_decl : ∀ y ∈ nw_decl, Cond.declares y ∈ lw_tbl := by decide +kernel
theorem st_strs : ∀ q ∈ nw_strs, Cond.stringRef RX3 q.1 q.2 ∈ lw_tbl := by decide +kernel
theorem st_strx : ∀ q ∈ nw_strs, Cond.exactly (.string RX3 q.1) "java/lang/String" ∈ flatC (Jvm.Cond.and given_1 narrow_1) := by decide +kernel
set_option maxHeartbeats 4000000 in
set_option maxRecDepth 100000 in
theorem st_start {s : State} {b : Nat} {A : Nat → Prop} (hts0 : ∀ w ∈ lw_tbl, w.before #[Value.ref b] s = true) (hgv : (Jvm.Cond.and given_1 narrow_1).before #[Value.ref b] s = true) (hA : ∀ a : Nat, a < s.heap.size → ¬ A a) : ∃ Z : Zt, zK Z s ∧ GS Z A s s.heap ∧ va_Nc ISE IAE s := by
  have hts : ∀ w ∈ TB, w.before #[Value.ref b] s = true := fun w hw => hts0 w (TB_tbl hw)
  have hfl := flat_of_before _ hgv
  obtain ⟨c0, iS0, hKn0⟩ := u_known (C := RX0) (T := TX0) (N := 6) (n := 6) hts in_X0 (hts (.instantiable RX0 6) tb_41)
  obtain ⟨c1, iS1, hKn1⟩ := u_known (C := RX1) (T := TX1) (N := 1) (n := 1) hts in_X1 (hts (.instantiable RX1 1) tb_35)
  obtain ⟨c2, iS2, hKn2⟩ := u_known (C := RX2) (T := TX2) (N := 2) (n := 2) hts in_X2 (hts (.instantiable RX2 2) tb_247)
  obtain ⟨c3, iS3, hKn3⟩ := u_known (C := RX3) (T := TX3) (N := 4) (n := 4) hts in_X3 (hts (.instantiable RX3 4) tb_27)
  obtain ⟨c4, iS4, hKn4⟩ := u_known (C := RX4) (T := TX4) (N := 9) (n := 9) hts in_X4 (hts (.instantiable RX4 9) tb_774)
  obtain ⟨c5, iS5, hKn5⟩ := u_known (C := RJx4a65c) (T := TJx4a65c) (N := 3) (n := 3) hts in_J (hts (.instantiable RJx4a65c 3) tb_72)
  obtain ⟨dC, dI, hKc⟩ : ∃ (dC : Nat → ClassId) (dI : Nat → Nat → Nat), ∀ (k : Nat) (q : vw_C), classes[k]? = some q → u_Kn s q.1 q.2.1 q.2.2 (dC k) (dI k) := by
    refine ⟨fun k => if k = 0 then c0 else if k = 1 then c1 else if k = 2 then c2 else if k = 3 then c3 else if k = 4 then c4 else c5, fun k => if k = 0 then iS0 else if k = 1 then iS1 else if k = 2 then iS2 else if k = 3 then iS3 else if k = 4 then iS4 else iS5, ?_⟩
    intro k q hq
    match k, hq with
    | 0, hq => cases hq; exact hKn0
    | 1, hq => cases hq; exact hKn1
    | 2, hq => cases hq; exact hKn2
    | 3, hq => cases hq; exact hKn3
    | 4, hq => cases hq; exact hKn4
    | 5, hq => cases hq; exact hKn5
    | k + 6, hq => simp [classes] at hq
  obtain ⟨cI, kI, coI, i1, i2, i3⟩ := Cond.arrayClass_spec (hts (.arrayClass .int) tb_65)
  obtain ⟨cL, kL, coL, l1, l2, l3⟩ := Cond.arrayClass_spec (hts (.arrayClass .long) tb_807)
  obtain ⟨cB, kB, coB, b1, b2, b3⟩ := Cond.arrayClass_spec (hts (.arrayClass .byte) tb_200)
  have hov : (Cond.arrayOver (.object "java/lang/Object")).before #[Value.ref b] s = true := hts0 _ (by decide +kernel)
  obtain ⟨coO, cO, kO, o1, -, o2, o3, o4⟩ := Cond.arrayOver_spec hov
  obtain ⟨tE, hE, hT⟩ := va_Tof (tm := (.static "java/util/ArrayList" "DEFAULTCAPACITY_EMPTY_ELEMENTDATA" "[Ljava/lang/Object;")) (ty := .object "java/lang/Object") (N := 0) (f := fun _ => .null) (A := A) (by decide) (hfl _ (by decide +kernel)) (va_eqt (hfl (.eq (.length (.static "java/util/ArrayList" "DEFAULTCAPACITY_EMPTY_ELEMENTDATA" "[Ljava/lang/Object;")) (.int 0)) (by decide +kernel))) (fun j hj => absurd hj (Nat.not_lt_zero j)) hA
  have hZ : va_Z "java/util/ArrayList" "DEFAULTCAPACITY_EMPTY_ELEMENTDATA" "[Ljava/lang/Object;" (.ref tE) A s s.heap := va_Zof (hts0 _ (by decide +kernel)) (hts0 _ (by decide +kernel)) hE hA
  obtain ⟨mi, hmi⟩ := va_Mi.of (C := "[Ljava/lang/Object;") (hfl _ (by decide +kernel))
  have hu : vx_Zq Bundle.tN "UNASSIGNED_STACK" Bundle.steD A s s.heap := vx_Zqof (hts0 _ (by decide +kernel)) (hts0 _ (by decide +kernel)) (hfl _ (by decide +kernel)) hA
  have hsu : vx_Zq Bundle.tN "SUPPRESSED_SENTINEL" Bundle.listD A s s.heap := vx_Zqof (hts0 _ (by decide +kernel)) (hts0 _ (by decide +kernel)) (hfl _ (by decide +kernel)) hA
  refine ⟨((dC, dI), cI, cL, cB, cO, tE, mi), ⟨hKc, fun k q hq => ?_⟩, ⟨⟨fun q hq => va_Nw.of rfl (hts0 _ (st_cast q hq)), fun y hy => va_Nw.of rfl (hts0 _ (st_decl y hy)), hmi, fun q hq => ?_, va_AO.of hov⟩, hZ, hT, hu, hsu⟩, va_Nc.of (hfl (.not (.castable ISE IAE)) (by decide +kernel))⟩
  · match k, hq with
    | 0, hq => cases hq; exact ⟨fun n z => ⟨fun k h => (by cases h), kI, i2, coI, i3⟩, i1⟩
    | 1, hq => cases hq; exact ⟨fun n z => ⟨fun k h => (by cases h), kL, l2, coL, l3⟩, l1⟩
    | 2, hq => cases hq; exact ⟨fun n z => ⟨fun k h => (by cases h), kB, b2, coB, b3⟩, b1⟩
    | 3, hq => cases hq; exact ⟨fun n z => ⟨fun k h => (by cases h), kO, o2, coO, o3⟩, kO, coO, o2, o3, o1, o4⟩
    | k + 4, hq => simp [ztys] at hq
  · obtain ⟨a, c, cell, k, q1, -⟩ := Cond.exactly_spec (hfl _ (st_strx q hq))
    have h2 : (Cond.stringRef RX3 q.1 q.2).before #[Value.ref b] s = true := hts0 _ (st_strs q hq)
    exact ⟨a, vk_R.of (A := #[Value.ref b]) h2 q1⟩
theorem Wd.first {Z : Zt} {A : Nat → Prop} {H0 H : Heap} {g h : Nat × va_E} {M C B : va_W} {locs : List Loc} (hW : Wd Z A H0 ((M ++ (C ++ ([h] ++ B))) ++ [g]) H locs) : Wd Z A H0 ((g :: (C ++ B)) ++ (M ++ [h])) H locs := by
  have h1 : Wd Z A H0 ([g] ++ (M ++ (C ++ ([h] ++ B)))) H locs := hW.swap2
  have h2 := h1.rot
  have e2 : M ++ ([g] ++ (C ++ ([h] ++ B))) = M ++ ((g :: C) ++ ([h] ++ B)) := by simp
  have h3 : Wd Z A H0 (M ++ ((g :: C) ++ ([h] ++ B))) H locs := e2 ▸ h2
  have h4 := h3.rot
  have e4 : (g :: C) ++ (M ++ ([h] ++ B)) = (g :: C) ++ (M ++ [h]) ++ B := by simp
  have h5 : Wd Z A H0 ((g :: C) ++ (M ++ [h]) ++ B) H locs := e4 ▸ h4
  have h6 := h5.swapR
  have e6 : (g :: C) ++ B ++ (M ++ [h]) = (g :: (C ++ B)) ++ (M ++ [h]) := by simp
  exact e6 ▸ h6
theorem LE.mono {Z : Zt} {A : Nat → Prop} {H0 H : Heap} {locs : List Loc} {t cells slots hb0 hk hc hm out hq : Nat} {ad : MA} (h : LE Z A H0 H locs t cells slots hb0 hk hc hm out hq ad) : LE Z A H0 H locs (t + 1) cells slots hb0 hk hc hm out hq ad := by
  obtain ⟨x, σ, mo, n, wg, o, vd, vb, stb, rw, r, cd, K, F, S, T, D, V, vs, ⟨hvs, hJ, hnt, hwg, hu, hcl, hsl⟩, hW⟩ := h
  exact ⟨x, σ, mo, n, wg, o, vd, vb, stb, rw, r, cd, K, F, S, T, D, V, vs, ⟨hvs, hJ, by omega, hwg, hu, by omega, by omega⟩, hW⟩
theorem and15 (z : Int32) : ∃ k, k < 16 ∧ z &&& nI 15 = nI k := by
  refine ⟨z.toBitVec.toNat % 16, Nat.mod_lt _ (by decide), ?_⟩
  apply Int32.toBitVec_inj.mp
  apply BitVec.eq_of_toNat_eq
  show (z.toBitVec &&& (nI 15).toBitVec).toNat = (BitVec.ofNat 32 (z.toBitVec.toNat % 16)).toNat
  rw [BitVec.toNat_and, show (nI 15).toBitVec.toNat = 2 ^ 4 - 1 from rfl, Nat.and_two_pow_sub_one_eq_mod, BitVec.toNat_ofNat]
  omega
theorem inc4 (t : Nat) : nI (4 * t) + Int32.ofInt 4 = nI (4 * (t + 1)) := (Int32.ofNat_add (4 * t) 4).symm
set_option maxHeartbeats 4000000 in
set_option maxRecDepth 100000 in
theorem law_exit {p : Program} (l : Launch) {e : Env} {s : State} {m : MethodId} {below : List Frame} {meth : Method} {c : Code} {b L : Nat} {xs : Nat → Int32} {Z : Zt} {A : Nat → Prop} (C : LC p room_1 s m meth c b L xs Z A) (hr : meth.sig.returnType = ret) (hAd : ∀ q, A q → s.heap.size ≤ q) (hL : L ≤ 2048) {t hb0 hk hc hm out hq : Nat} {ad : MA} (h4 : 4 * t ≤ L) (ht : ¬ 4 * t + 4 ≤ L) {H : Heap} {locs : List Loc} {cells slots : Nat} {ls : Array Slot} (hE : LE Z A s.heap H locs t cells slots hb0 hk hc hm out hq ad) (hl : lv_has ls 8 [(0, .ref b), (1, .ref hb0), (2, .ref hq), (3, .ref out), (4, .int (nI (4 * t)))]) : W p l e room_1 s m #[Value.ref b] below meth c H locs cells slots (lw_Z below #[Value.ref b] s) (F0 m 23 ls []) := by
  obtain ⟨hx, hb, hml, hown, hts, hX, hbl, hlk, hnc, hK, hG, hA, hbA, hRf, hRc, hRs, hRl⟩ := C
  obtain ⟨x, σ, mo, n, wg, o, vd, vb, stb, rw, r, cd, K, F, S, T, D, V, vs, ⟨hvs, hJ, hnt, hwg, hu, hcl, hsl⟩, hW⟩ := hE
  have hend : W p l e room_1 s m #[Value.ref b] below meth c H locs cells slots (lw_Z below #[Value.ref b] s) (F0 m 1058 ls []) := by
    refine lv_iconst (v := 1) hx hb dL_law_1058 (by decide) ?_
    refine va_forget (fun q hq => hAd _ (hW.2.2.2.2 q hq)) ?_
    refine W.widen (k := 269289) (n := 8288238) (by omega) (by omega) ?_
    exact lw_ret hx hb hr hlk dL_law_1059
  refine lv_iload hx hb dL_law_23 (lv_at hl 4 rfl) ?_
  refine lv_aload_n hx hb dL_law_25 rfl (lv_at hl 0 rfl) ?_
  refine va_slen hx hb hX hbl hbA hW.2.2 dL_law_26 ?_
  refine W.eq (g2 := F0 m 27 ls [.int (nI L), .int (nI (4 * t))]) rfl ?_
  refine lv_iconst (v := nI 4) hx hb dL_law_27 (by decide) ?_
  by_cases h5 : 4 ≤ L
  · refine n_isub hx hb (by omega) dL_law_28 ?_
    refine n_gt_t (tgt := 1058) hx hb (by omega) (by omega) dL_law_29 (by decide) ?_
    exact hend
  · refine lv_isub hx hb dL_law_28 ?_
    refine lv_icmp_gt (tgt := 1058) hx hb dL_law_29 (by decide) (fun _ => hend) (fun q => absurd ?_ q)
    have h0 : t = 0 := by omega
    subst h0
    rcases (show L = 0 ∨ L = 1 ∨ L = 2 ∨ L = 3 by omega) with h | h | h | h <;> subst h <;> decide
set_option maxHeartbeats 4000000 in
set_option maxRecDepth 100000 in
theorem law_loop {p : Program} (l : Launch) {e : Env} {s : State} {m : MethodId} {below : List Frame} {meth : Method} {c : Code} {b L : Nat} {xs : Nat → Int32} {Z : Zt} {A : Nat → Prop} (C : LC p room_1 s m meth c b L xs Z A) (hr : meth.sig.returnType = ret) (hAd : ∀ q, A q → s.heap.size ≤ q) (hL : L ≤ 2048) {hb0 hk hc hm out hq : Nat} {ad : MA} (hst : l.stackTraces = false) : ∀ (d t : Nat), L ≤ 4 * t + d → 4 * t ≤ L → ∀ (H : Heap) (locs : List Loc) (cells slots : Nat) (ls : Array Slot), LE Z A s.heap H locs t cells slots hb0 hk hc hm out hq ad → lv_has ls 8 [(0, .ref b), (1, .ref hb0), (2, .ref hq), (3, .ref out), (4, .int (nI (4 * t)))] → W p l e room_1 s m #[Value.ref b] below meth c H locs cells slots (lw_Z below #[Value.ref b] s) (F0 m 23 ls []) := by
  intro d
  induction d with
  | zero =>
    intro t h1 h2 H locs cells slots ls hE hl
    exact law_exit l C hr hAd hL h2 (by omega) hE hl
  | succ d ih =>
    intro t h1 h2 H locs cells slots ls hE hl
    by_cases ht : 4 * t + 4 ≤ L
    · have kk : ∀ (H : Heap) (locs : List Loc) (cells slots : Nat) (ls : Array Slot), LE Z A s.heap H locs (t + 1) cells slots hb0 hk hc hm out hq ad → lv_has ls 8 [(0, .ref b), (1, .ref hb0), (2, .ref hq), (3, .ref out), (4, .int (nI (4 * t)))] → W p l e room_1 s m #[Value.ref b] below meth c H locs cells slots (lw_Z below #[Value.ref b] s) (F0 m 1052 ls []) := by
        intro H locs cells slots ls hE hl
        refine lv_iinc (v := nI (4 * (t + 1))) (lv' := [(4, .int (nI (4 * (t + 1)))), (0, .ref b), (1, .ref hb0), (2, .ref hq), (3, .ref out)]) C.1 C.2.1 dL_law_1052 hl (k := 4) rfl (inc4 t) (by decide) rfl (fun ls hl => ?_)
        refine lv_goto (tgt := 23) C.1 C.2.1 dL_law_1055 (by decide) ?_
        exact ih (t + 1) (by omega) (by omega) H locs cells slots ls hE (lv_sub hl [1, 2, 3, 4, 0] rfl)
      have hE0 := hE
      obtain ⟨hx, hb, hml, hown, hts, hX, hbl, hlk, hnc, hK, hG, hA, hbA, hRf, hRc, hRs, hRl⟩ := id C
      obtain ⟨x, σ, mo, n, wg, o, vd, vb, stb, rw, r, cd, K, F, S, T, D, V, vs, -, hW⟩ := hE0
      refine lv_iload hx hb dL_law_23 (lv_at hl 4 rfl) ?_
      refine lv_aload_n hx hb dL_law_25 rfl (lv_at hl 0 rfl) ?_
      refine va_slen hx hb hX hbl hbA hW.2.2 dL_law_26 ?_
      refine W.eq (g2 := F0 m 27 ls [.int (nI L), .int (nI (4 * t))]) rfl ?_
      refine lv_iconst (v := nI 4) hx hb dL_law_27 (by decide) ?_
      refine n_isub hx hb (by omega) dL_law_28 ?_
      refine n_gt_f (tgt := 1058) hx hb (by omega) (by omega) dL_law_29 (by decide) ?_
      refine lv_aload_n hx hb dL_law_32 rfl (lv_at hl 0 rfl) ?_
      refine lv_iload hx hb dL_law_33 (lv_at hl 4 rfl) ?_
      refine s_ld (i := 4 * t) hx hb hX hbl hbA hW (by omega) (by omega) dL_law_35 ?_
      refine lv_bipush (v := nI 15) hx hb dL_law_36 (by decide) ?_
      refine lv_iand hx hb dL_law_38 ?_
      clear hW
      obtain ⟨k, hk16, ek⟩ := and15 (xs (4 * t))
      refine n_eqv ek ?_
      rcases (show k = 0 ∨ k = 1 ∨ k = 2 ∨ k = 3 ∨ k = 4 ∨ k = 5 ∨ k = 6 ∨ k = 7 ∨ k = 8 ∨ k = 9 ∨ k = 10 ∨ k = 11 ∨ k = 12 ∨ k = 13 ∨ k = 14 ∨ k = 15 by omega) with rfl | rfl | rfl | rfl | rfl | rfl | rfl | rfl | rfl | rfl | rfl | rfl | rfl | rfl | rfl | rfl
      · refine lv_tableIn (off := 69) (tgt := 108) hx hb dL_law_39 (by decide) (by decide) (by decide) (by decide) ?_
        exact c_input l hst C hL ht kk hE hl
      · refine lv_tableIn (off := 125) (tgt := 164) hx hb dL_law_39 (by decide) (by decide) (by decide) (by decide) ?_
        exact c_constant l hst C hL ht kk hE hl
      · refine lv_tableIn (off := 225) (tgt := 264) hx hb dL_law_39 (by decide) (by decide) (by decide) (by decide) ?_
        exact c_one l hst C hL ht kk hE hl
      · refine lv_tableIn (off := 293) (tgt := 332) hx hb dL_law_39 (by decide) (by decide) (by decide) (by decide) ?_
        exact c_two l hst C hL ht kk hE hl
      · refine lv_tableIn (off := 373) (tgt := 412) hx hb dL_law_39 (by decide) (by decide) (by decide) (by decide) ?_
        exact c_compare l hst C hL ht kk hE hl
      · refine lv_tableIn (off := 453) (tgt := 492) hx hb dL_law_39 (by decide) (by decide) (by decide) (by decide) ?_
        exact c_choose l hst C hL ht kk hE hl
      · refine lv_tableIn (off := 533) (tgt := 572) hx hb dL_law_39 (by decide) (by decide) (by decide) (by decide) ?_
        exact c_concat l hst C hL ht kk hE hl
      · refine lv_tableIn (off := 601) (tgt := 640) hx hb dL_law_39 (by decide) (by decide) (by decide) (by decide) ?_
        exact c_extract l hst C hL ht kk hE hl
      · refine lv_tableIn (off := 681) (tgt := 720) hx hb dL_law_39 (by decide) (by decide) (by decide) (by decide) ?_
        by_cases hz : xs ((4 * t) + 3) = 0
        · exact c_extend0 l hst C hL ht hz kk hE hl
        · exact c_extend1 l hst C hL ht hz kk hE hl
      · refine lv_tableIn (off := 777) (tgt := 816) hx hb dL_law_39 (by decide) (by decide) (by decide) (by decide) ?_
        exact c_set l hst C hL ht kk hE hl
      · refine lv_tableIn (off := 876) (tgt := 915) hx hb dL_law_39 (by decide) (by decide) (by decide) (by decide) ?_
        exact c_value l hst C hL ht kk hE hl
      · refine lv_tableIn (off := 931) (tgt := 970) hx hb dL_law_39 (by decide) (by decide) (by decide) (by decide) ?_
        exact c_width l hst C hL ht kk hE hl
      · refine lv_tableIn (off := 987) (tgt := 1026) hx hb dL_law_39 (by decide) (by decide) (by decide) (by decide) ?_
        exact c_weight l hst C hL ht kk hE hl
      · refine lv_tableIn (off := 1000) (tgt := 1039) hx hb dL_law_39 (by decide) (by decide) (by decide) (by decide) ?_
        exact c_vectors l hst C hL ht kk hE hl
      · refine lv_tableOut (tgt := 1052) hx hb dL_law_39 (by decide) (by decide) ?_
        exact kk _ _ _ _ ls hE.mono hl
      · refine lv_tableOut (tgt := 1052) hx hb dL_law_39 (by decide) (by decide) ?_
        exact kk _ _ _ _ ls hE.mono hl
    · exact law_exit l C hr hAd hL h2 ht hE hl
set_option maxHeartbeats 4000000 in
set_option maxRecDepth 100000 in
theorem whole_start {p : Program} {e : Env} {s : State} {m : MethodId} {below : List Frame} {meth : Method} {c : Code} (l : Launch) (hst : l.stackTraces = false) {b L : Nat} {xs : Nat → Int32} (hL : L ≤ 2048) (C0 : lw_At p s m meth c b L xs) : W p l e room_1 s m #[Value.ref b] below meth c s.heap [] 0 0 (lw_Z below #[Value.ref b] s) (entryFrame m ([Value.ref b] : List Value).toArray 8) := by
  obtain ⟨hx, hb, hr, hml, hown, hts0, hX, hbl, hlk, hgv⟩ := C0
  obtain ⟨A, hAd⟩ : ∃ A : Nat → Prop, A = (fun q : Nat => s.heap.size ≤ q) := ⟨_, rfl⟩
  have hA : ∀ q, s.heap.size ≤ q → A q := fun q h => by rw [hAd]; exact h
  have hA2 : ∀ q, A q → s.heap.size ≤ q := fun q h => by rw [hAd] at h; exact h
  clear hAd
  obtain ⟨Z, hK, hG, hnc⟩ := st_start (A := A) hts0 hgv (fun a h q => by have := hA2 a q; omega)
  have hown : s.vm.findClass RL = some m.cls := hown
  have hts : ∀ w ∈ TB, w.before #[Value.ref b] s = true := fun w hw => hts0 w (TB_tbl hw)
  have hb : c.code = cL_law := hb
  have hRf : room_1.frames = 2048 := rfl
  have hRc : room_1.cells = 269289 := rfl
  have hRs : room_1.slots = 8288238 := rfl
  have hRl : room_1.locals = 84000 := rfl
  have hbA : ¬ A b := fun q => by have := hA2 b q; omega
  have C : LC p room_1 s m meth c b L xs Z A := ⟨hx, hb, hml, hown, hts, hX, hbl, hlk, hnc, hK, hG, hA, hbA, rfl, rfl, rfl, rfl⟩
  have hW : Wd Z A s.heap [] s.heap [] := ⟨fun k q h => by simp at h, ⟨fun i j p q h => by simp at h, fun k q h => by simp at h⟩, va_S.rf⟩
  have hl := lv_entry ([.ref b]) (n := 8) (Nat.le_of_ble_eq_true rfl)
  rw [lg_entry_eq]
  generalize (lg_sl ([.ref b]) ++ List.replicate (8 - (lg_sl ([.ref b])).length) Slot.unset).toArray = ls at hl ⊢
  have hl : lv_has ls 8 [(0, .ref b)] := hl
  refine r_new (fs := [.null, .null, .null, .int 0]) hx hb hts hown hK hW hA (ci := 3) rfl in_X3 tyX3 tyX3_ok tb_26 tb_27 tb_1 (fun j hj => by rcases (show j = 0 ∨ j = 1 ∨ j = 2 ∨ j = 3 by omega) with rfl | rfl | rfl | rfl <;> rfl) (by omega) (by omega) dL_law_0 (fun hb0 H hW => ?_)
  have hW : Wd Z A s.heap ([eo hb0 3 [.null, .null, .null, .int 0]]) _ _ := hW
  refine lv_dup hx hb dL_law_3 rfl ?_
  have hW : Wd Z A s.heap ([eo hb0 3 [.null, .null, .null, .int 0]] ++ []) _ _ := hW.nil
  refine c_spec (b := hb0) (As := []) (rest := [.ref hb0]) (wc := [eo hb0 3 [.null, .null, .null, .int 0]]) (wr := []) hx hb hml hown hts hK hG rfl hA hl (k_Bench l Z hb0) hW trivial tb_28 tb_29 tb_1 tb_30 rfl (nA := 0) (by decide +kernel) rfl ⟨by omega, by omega⟩ ⟨by omega, by omega⟩ rfl (Nat.le_of_ble_eq_true rfl) dL_law_4 (fun v w1 H1 L1 hp hW hzz hkk hdd => ?_)
  obtain ⟨hk, hc, hm, x, rfl, rfl, hcok, hxn, hxu⟩ := hp
  clear hzz hkk hdd
  generalize H1 = H at hW ⊢
  generalize L1 = locs at hW ⊢
  refine W.eq (g2 := F0 m 7 ls [.ref hb0]) rfl ?_
  have hW := hW.unnil
  refine lv_astore_n (lv' := [(1, .ref hb0), (0, .ref b)]) hx hb dL_law_7 rfl hl (by decide) rfl (fun ls hl => ?_)
  refine r_new (fs := [.int 0, .int 0, .int 0, .null, .null, .null, .null, .null, .null]) hx hb hts hown hK hW hA (ci := 4) rfl in_X4 tyX4 tyX4_ok tb_773 tb_774 tb_7 (fun j hj => by rcases (show j = 0 ∨ j = 1 ∨ j = 2 ∨ j = 3 ∨ j = 4 ∨ j = 5 ∨ j = 6 ∨ j = 7 ∨ j = 8 by omega) with rfl | rfl | rfl | rfl | rfl | rfl | rfl | rfl | rfl <;> rfl) (by omega) (by omega) dL_law_8 (fun hq H hW => ?_)
  have hW : Wd Z A s.heap (cw Z hc x ++ ([eo hk 1 [.ref hc]] ++ bl Z hb0 hk hc hm 0 (nI 0) 0 none) ++ [eo hq 4 [.int 0, .int 0, .int 0, .null, .null, .null, .null, .null, .null]]) _ _ := hW
  refine lv_dup hx hb dL_law_11 rfl ?_
  have hW : Wd Z A s.heap ([eo hq 4 [.int 0, .int 0, .int 0, .null, .null, .null, .null, .null, .null]] ++ (cw Z hc x ++ ([eo hk 1 [.ref hc]] ++ bl Z hb0 hk hc hm 0 (nI 0) 0 none))) _ _ := Wd.swap2 (w1 := cw Z hc x ++ ([eo hk 1 [.ref hc]] ++ bl Z hb0 hk hc hm 0 (nI 0) 0 none)) (wc := [eo hq 4 [.int 0, .int 0, .int 0, .null, .null, .null, .null, .null, .null]]) hW
  refine c_spec (b := hq) (As := []) (rest := [.ref hq]) (wc := [eo hq 4 [.int 0, .int 0, .int 0, .null, .null, .null, .null, .null, .null]]) (wr := cw Z hc x ++ ([eo hk 1 [.ref hc]] ++ bl Z hb0 hk hc hm 0 (nI 0) 0 none)) hx hb hml hown hts hK hG rfl hA hl (k_Model l Z hq) hW trivial tb_775 tb_776 tb_7 tb_777 rfl (nA := 0) (by decide +kernel) rfl ⟨by omega, by omega⟩ ⟨by omega, by omega⟩ rfl (Nat.le_of_ble_eq_true rfl) dL_law_12 (fun v w1 H1 L1 hp hW hzz hkk hdd => ?_)
  obtain ⟨rfl, ad, rfl⟩ := hp
  clear hzz hkk hdd
  generalize H1 = H at hW ⊢
  generalize L1 = locs at hW ⊢
  refine W.eq (g2 := F0 m 15 ls [.ref hq]) rfl ?_
  refine lv_astore_n (lv' := [(2, .ref hq), (1, .ref hb0), (0, .ref b)]) hx hb dL_law_15 rfl hl (by decide) rfl (fun ls hl => ?_)
  refine lv_iconst (v := nI 1) hx hb dL_law_16 (by decide) ?_
  refine r_newl (n := 1) hx hb hts tb_807 hK hW hA (by omega) (by omega) (by omega) dL_law_17 (fun out H hW hsz_out hq_out => ?_)
  have hW : Wd Z A s.heap ((el Z out 1 (fun _ => 0) :: (cw Z hc x ++ bl Z hb0 hk hc hm 0 (nI 0) 0 none)) ++ (mw Z hq ad 0 0 0 (fun _ => 0) (fun _ => 0) (fun _ => 0) (fun _ => 0) (fun _ => 0) (fun _ => 0) ++ [eo hk 1 [.ref hc]])) _ _ := Wd.first (M := mw Z hq ad 0 0 0 (fun _ => 0) (fun _ => 0) (fun _ => 0) (fun _ => 0) (fun _ => 0) (fun _ => 0)) (C := cw Z hc x) (h := eo hk 1 [.ref hc]) (B := bl Z hb0 hk hc hm 0 (nI 0) 0 none) hW
  refine lv_astore_n (lv' := [(3, .ref out), (2, .ref hq), (1, .ref hb0), (0, .ref b)]) hx hb dL_law_19 rfl hl (by decide) rfl (fun ls hl => ?_)
  refine lv_iconst (v := nI 0) hx hb dL_law_20 (by decide) ?_
  refine lv_istore (lv' := [(4, .int (nI 0)), (3, .ref out), (2, .ref hq), (1, .ref hb0), (0, .ref b)]) hx hb dL_law_21 hl (by decide) rfl (fun ls hl => ?_)
  have hJ : Jn x (fun g => decide (g = 1)) 0 0 none (fun _ => 0) (fun _ => 0) (fun _ _ => 0) (fun _ => 0) (fun _ => 0) (fun _ => 0) (fun _ => 0) (fun _ => 0) (fun _ => 0) := ⟨⟨hcok, ⟨by decide, rfl⟩, by decide, by omega, by decide, fun i hi => absurd hi (Nat.not_lt_zero i)⟩, fun v hv => absurd hv (Nat.not_lt_zero v), fun u v hu => absurd hu (Nat.not_lt_zero u)⟩
  exact law_loop l C hr hA2 hL hst L 0 (by omega) (by omega) _ _ _ _ ls ⟨x, fun g => decide (g = 1), nI 0, 0, 0, none, fun _ => 0, fun _ => 0, fun _ => 0, fun _ _ => 0, fun _ => 0, 0, fun _ => 0, fun _ => 0, fun _ => 0, fun _ => 0, fun _ => 0, fun _ => 0, [], ⟨fun i hi => absurd hi (Nat.not_lt_zero i), fun _ => hJ, by omega, by omega, by omega, by omega, by omega⟩, hW⟩ (lv_sub hl [4, 3, 2, 1, 0] rfl)
set_option maxHeartbeats 4000000 in
theorem lw_walk (l : Launch) (hst : l.stackTraces = false) (b : Addr) (xs : List Int32) : MetFree l x (headSpec (Jvm.Cond.code x code maxLocals ret :: tables_1) room_1) (lw_P b xs) (fun _ _ _ _ _ => True) lw_Q := by
  refine MetFree.of_bodyS (code := code) (maxLocals := maxLocals) (ret := ret) (by decide) ?_ ?_
  · intro args s m h hn
    obtain ⟨meth, c, h1, h2, h3, h4, h5, h6, -, -⟩ := Cond.code_spec hn (atoms_spec (ws := Jvm.Cond.code x code maxLocals ret :: tables_1) h _ List.mem_cons_self)
    exact ⟨meth, c, h1, h2, h3, h4, h5, h6⟩
  · intro p e s m args below meth c s₁ B hml0 hP _
    obtain ⟨rfl, hx, hbd, hgv⟩ := hP
    obtain ⟨scr, harrAt, hlist, hof, hsmall⟩ := hx
    obtain ⟨hcb, hkn, -, -⟩ := State.arrayAt?_spec harrAt
    have hown : s.vm.findClass R_law = some m.cls := findClass_of_methodNamed B.named
    have hts0 : ∀ c ∈ (Jvm.Cond.code x code maxLocals ret :: tables_1), c.before #[Value.ref b] s = true := atoms_spec (ws := Jvm.Cond.code x code maxLocals ret :: tables_1) B.pre
    have hts : ∀ w ∈ lw_tbl, w.before #[Value.ref b] s = true := k2_hts_sels lw_privs (fun w hw => hts0 w (List.mem_cons_of_mem _ hw)) lw_privs_ok
    have hml : c.maxLocals = 8 := B.maxLocals_eq (hts0 _ List.mem_cons_self)
    have X₀ : Stand p l e room_1 s m #[Value.ref b] below meth c s₁ [] 0 0 := Stand.of_body B
    have hh0 : s₁.heap = s.heap := by rw [B.state]; rfl
    have hsz : scr.slots.size = xs.length := by rw [← Array.length_toList, hlist, List.length_map]
    have hval : ∀ j : Nat, j < xs.length → scr.slots[j]? = some (.int (xs.getD j 0)) := fun j hj => by
      rw [← Array.getElem?_toList, hlist]
      simp [hj]
    have hbl : b < s.heap.size := (Array.getElem?_eq_some_iff.mp hcb).1
    have hX : va_X b xs.length (fun j => xs.getD j 0) s s.heap := ⟨scr, hcb, hof, hkn, hsz, hval⟩
    have K : W p l e room_1 s m #[Value.ref b] below meth c s₁.heap [] 0 0 (lw_Z below #[Value.ref b] s) (entryFrame m ([Value.ref b] : List Value).toArray 8) := by
      rw [hh0]
      exact whole_start l hst hbd ⟨B.exec, B.bytes, B.returns, hml, hown, hts, hX, hbl, B.notSynchronized, hgv⟩
    obtain ⟨t, a1, o, b1, b2, b3⟩ := K s₁ rfl X₀
    exact ⟨t, o, a1, b1, b2, b3⟩
theorem lw_pre_spec {args : Array Value} {s : State} (h : (Jvm.Cond.and given_1 narrow_1).before args s = true) (hr : rest_1_c.before args s = true) : ∃ (b : Addr) (xs : List Int32), lw_P b xs args s := by
  have hs := flat_of_before _ h
  have hq := flat_of_before _ hr
  have hc : (Cond.count 1).before args s = true := hs _ (by decide +kernel)
  have harr : (Cond.arrayOf (.arg 0) .int).before args s = true := hs _ (by decide +kernel)
  have hle : (Cond.le (.length (.arg 0)) (.int 2048)).before args s = true := hs _ (by decide +kernel)
  have hlen : (Cond.isInt (.length (.arg 0))).before args s = true := hq _ (by decide +kernel)
  have hall : (Cond.all (.arg 0) (.isInt (.elem (.arg 0) (.index 0)))).before args s = true := hq _ (by decide +kernel)
  obtain ⟨b, xs, hb, hx⟩ := State.ints_of_pre rfl harr hlen hall
  have hsm : xs.length < 2 ^ 31 := hx.choose_spec.2.2.2
  have hev : (Term.length (.arg 0)).eval args s none [] s = some (.int xs.length.toInt32) := hx.length_eval hb
  have hv := Cond.le_ints hev (show (Term.int 2048).eval args s none [] s = some (.int 2048) from rfl)
  have hd : xs.length.toInt32 ≤ 2048 := by
    simpa [Cond.before, Cond.holds, hv] using hle
  have hN : xs.length ≤ 2048 := (Int32.ofNat_le_ofNat hsm (by decide)).mp (show Int32.ofNat xs.length ≤ Int32.ofNat 2048 from hd)
  exact ⟨b, xs, Cond.one_arg hc (show args[0]? = some (.ref b) from hb), hx, hN, h⟩
theorem lw_comes (l : Launch) (hst : l.stackTraces = false) : Comes l x (Jvm.Cond.code x code maxLocals ret :: tables_1) room_1 (fun tb e args s => Calls_1 tb e args s ∧ rest_1 tb e args s ∧ Pre_1 tb e args s)
    (fun _ _ args s o t => lw_Q args s o t) := by
  intro p e ha hc hk s m args below hf hfit hheap happ hpre
  obtain ⟨b, xs, hP⟩ := lw_pre_spec hpre.2.2 hpre.2.1
  obtain ⟨k, o, h1, h2, h3, hQ⟩ := lw_walk l hst b xs p e ha hc hk s m args below hf ((Spec.applies_iff_loose hf).mp happ).1 hP trivial
  exact ⟨k, o, h1, h2, h3, hQ⟩
theorem lw_frame {s t : State} {o : Outcome} {args : Array Value} (h : Framed s o t [] 269289 8288238) :
    Framed s o t (fieldLocs frame_1_writes args s ++ arrayLocs frame_1_arrays args s ++ staticLocs frame_1_statics s) 269289 8288238 := h
theorem lw_limb (L : Cond) (hL : ∀ (args : Array Value) (s t : State), L.after args s (.returned (some (.int 1))) t = true) :
    ArmFor flags0 classFile x code maxLocals ret World_1 tables_1 room_1 Calls_1 rest_1 Pre_1
      (fun tb e a s o t => postC L tb e a s o t ∧ Framed s o t (fieldLocs frame_1_writes a s ++ arrayLocs frame_1_arrays a s ++ staticLocs frame_1_statics s) 269289 8288238) := by
  intro l hfl _ _ p e ha hc hk s m args below hf hfit hheap happ hpre
  obtain ⟨k, o, h1, h2, h3, rfl, hF⟩ := lw_comes l (by unfold Launch.stackTraces; rw [hfl]; decide +kernel) p e ha hc hk s m args below hf hfit hheap happ hpre
  exact ⟨k, _, h1, h2, h3, hL args s _, lw_frame hF⟩
theorem i_vc : Claimed_1_1 ∧ Claimed_1_2 := ⟨lw_limb limb_1_1 (fun args s t => by simp [limb_1_1, Cond.after, Cond.holds, Cond.value]), lw_limb limb_1_2 (fun args s t => Cond.after_iff.mpr (by
  first | (rw [show limb_1_2 = Cond.eq .result (.int 1) from rfl, Cond.eq_ints (x := 1) (y := 1) rfl rfl]; simp; done) | (simp [limb_1_2, Cond.value, Term.eval]; done)))⟩
