/-! rows of bytes and of longs -/
abbrev ey (Z : Zt) (a n : Nat) (r : Nat → Nat) : Nat × va_E := (a, .inl (Z.2.2.2.1, n, .inl (fun j => nI (r j))))
abbrev el (Z : Zt) (a n : Nat) (r : Nat → Nat) : Nat × va_E := (a, .inl (Z.2.2.1, n, .inr (.inl (fun j => lN (r j)))))
theorem nar_b : ∀ x, x < 128 → vp_nar .byte (nI x) = nI x := by decide +kernel
theorem up_updl (r : Nat → Nat) (i x : Nat) : vp_updL (fun j => lN (r j)) i (lN x) = fun j => lN (up r i x j) := by
  funext j
  by_cases h : j = i
  · subst h; simp [vp_updL, up]
  · simp [vp_updL, up, h]
section Rm
variable {p : Program} {l : Launch} {e : Env} {R : Room} {s : State} {m : MethodId} {args : Array Value} {below : List Frame} {meth : Method} {c : Code} {H : Heap} {locs : List Loc} {cells slots : Nat} {Q : State → Prop}
variable {cc : ByteArray} {pc : Nat} {ls : Array Slot} {rest : List Value} {Z : Zt} {A : Nat → Prop} {a : Nat} {ws : va_W} {H0 : Heap} {own : String}
theorem r_bald (hx : p.tables.exec = Jvm.exec) (hb : c.code = cc) (hK : zK Z s) {n i : Nat} {r : Nat → Nat} (hat : zat Z (ey Z a n r) H) (hi : i < n) (hn : n < 2 ^ 31) (hdg : decode cc pc = .ok (.baload, 1))
    (kk : W p l e R s m args below meth c H locs cells slots Q (F0 m (pc + 1) ls (.int (nI (r i)) :: rest))) : W p l e R s m args below meth c H locs cells slots Q (F0 m pc ls (.int (nI i) :: .ref a :: rest)) := by
  refine va_bald (D := Z.1) (ws := [ey Z a n r]) hx hb hK (zat_one hat) 0 2 rfl rfl (vp_in_nI hi hn) hdg ?_
  rw [nI_clamp (by omega)]
  exact kk
theorem r_lald (hx : p.tables.exec = Jvm.exec) (hb : c.code = cc) (hK : zK Z s) {n i : Nat} {r : Nat → Nat} (hat : zat Z (el Z a n r) H) (hi : i < n) (hn : n < 2 ^ 31) (hdg : decode cc pc = .ok (.laload, 1))
    (kk : W p l e R s m args below meth c H locs cells slots Q (F0 m (pc + 1) ls (.long (lN (r i)) :: rest))) : W p l e R s m args below meth c H locs cells slots Q (F0 m pc ls (.int (nI i) :: .ref a :: rest)) := by
  refine va_lald (D := Z.1) (ws := [el Z a n r]) hx hb hK (zat_one hat) 0 1 rfl rfl (vp_in_nI hi hn) hdg ?_
  rw [nI_clamp (by omega)]
  exact kk
theorem r_bast (hx : p.tables.exec = Jvm.exec) (hb : c.code = cc) (hK : zK Z s) (hW : Wd Z A H0 ws H locs) (q0 : Nat) {n i x : Nat} {r : Nat → Nat} (he : ws[q0]? = some (ey Z a n r)) (hi : i < n) (hn : n < 2 ^ 31) (hx8 : x < 128) (hdg : decode cc pc = .ok (.bastore, 1))
    (kk : ∀ (H1 : Heap) (locs1 : List Loc), Wd Z A H0 (ws.set q0 (ey Z a n (up r i x))) H1 locs1 → W p l e R s m args below meth c H1 locs1 cells slots Q (F0 m (pc + 1) ls rest)) : W p l e R s m args below meth c H locs cells slots Q (F0 m pc ls (.int (nI x) :: .int (nI i) :: .ref a :: rest)) := by
  refine va_bast (D := Z.1) hx hb hK hW.1 hW.2.1 hW.2.2 q0 2 he rfl (vp_in_nI hi hn) hdg (fun H1 L1 h1 h2 h3 => kk H1 L1 ?_)
  rw [nI_clamp (by omega), nar_b x hx8, up_upd] at h1 h2
  exact ⟨h1, h2, h3⟩
theorem r_last (hx : p.tables.exec = Jvm.exec) (hb : c.code = cc) (hK : zK Z s) (hW : Wd Z A H0 ws H locs) (q0 : Nat) {n i x : Nat} {r : Nat → Nat} (he : ws[q0]? = some (el Z a n r)) (hi : i < n) (hn : n < 2 ^ 31) (hdg : decode cc pc = .ok (.lastore, 1))
    (kk : ∀ (H1 : Heap) (locs1 : List Loc), Wd Z A H0 (ws.set q0 (el Z a n (up r i x))) H1 locs1 → W p l e R s m args below meth c H1 locs1 cells slots Q (F0 m (pc + 1) ls rest)) : W p l e R s m args below meth c H locs cells slots Q (F0 m pc ls (.long (lN x) :: .int (nI i) :: .ref a :: rest)) := by
  refine va_last (D := Z.1) hx hb hK hW.1 hW.2.1 hW.2.2 q0 1 he rfl (vp_in_nI hi hn) hdg (fun H1 L1 h1 h2 h3 => kk H1 L1 ?_)
  rw [nI_clamp (by omega), up_updl] at h1 h2
  exact ⟨h1, h2, h3⟩
theorem r_newb (hx : p.tables.exec = Jvm.exec) (hb : c.code = cc) (hts : ∀ w ∈ TB, w.before args s = true) (hac : Cond.arrayClass .byte ∈ TB) (hK : zK Z s) (hW : Wd Z A H0 ws H locs) (hA : ∀ q, H0.size ≤ q → A q) {n : Nat} (hn : n ≤ 1000000) (hcells : cells + 1 ≤ R.cells) (hslots : slots + n ≤ R.slots) (hdg : decode cc pc = .ok (.newarray .byte, 2))
    (kk : ∀ (q : Nat) (H1 : Heap), Wd Z A H0 (ws ++ [ey Z q n (fun _ => 0)]) H1 locs → H1.size = H.size + 1 → q = H.size → W p l e R s m args below meth c H1 locs (cells + 1) (slots + n) Q (F0 m (pc + 2) ls (.ref q :: rest))) : W p l e R s m args below meth c H locs cells slots Q (F0 m pc ls (.int (nI n) :: rest)) := by
  refine va_newaK hx hb (atype := .byte) (hts _ hac) rfl hdg rfl (nI_pos (by omega)) (nI_clamp (by omega)) (by show n * 1 ≤ _; omega) hcells hslots rfl fun H1 cA e1 z1 o1 hAr hNm => ?_
  have hcA : cA = Z.2.2.2.1 := by
    have h2 : s.vm.findClass ("[" ++ FieldType.byte.toString) = some Z.2.2.2.1 := (hK.2 2 _ rfl).2
    have h1 : s.vm.findClass ("[" ++ FieldType.byte.toString) = some cA := hNm
    exact Option.some.inj (h1.symm.trans h2)
  subst hcA
  have hk : ∀ (k : Nat) (x : Nat × va_E), ws[k]? = some x → H1[x.1]? = H[x.1]? := fun k x hx => o1 x.1 ((hW.1 k x hx).lt)
  refine kk H.size H1 ⟨(hW.1.kept hk).app (zat_one ?_), hW.2.1.push hW.1 rfl (hA _ hW.2.2.1), Nat.le_trans hW.2.2.1 (by omega), fun x h1 h2 => (o1 x (Nat.lt_of_lt_of_le h1 hW.2.2.1)).trans (hW.2.2.2.1 x h1 h2), hW.2.2.2.2⟩ z1 rfl
  show H1[H.size]? = some (vp_cell _ _)
  rw [vp_cell_i]
  exact e1
theorem r_newl (hx : p.tables.exec = Jvm.exec) (hb : c.code = cc) (hts : ∀ w ∈ TB, w.before args s = true) (hac : Cond.arrayClass .long ∈ TB) (hK : zK Z s) (hW : Wd Z A H0 ws H locs) (hA : ∀ q, H0.size ≤ q → A q) {n : Nat} (hn : n ≤ 1000000) (hcells : cells + 1 ≤ R.cells) (hslots : slots + n ≤ R.slots) (hdg : decode cc pc = .ok (.newarray .long, 2))
    (kk : ∀ (q : Nat) (H1 : Heap), Wd Z A H0 (ws ++ [el Z q n (fun _ => 0)]) H1 locs → H1.size = H.size + 1 → q = H.size → W p l e R s m args below meth c H1 locs (cells + 1) (slots + n) Q (F0 m (pc + 2) ls (.ref q :: rest))) : W p l e R s m args below meth c H locs cells slots Q (F0 m pc ls (.int (nI n) :: rest)) := by
  refine va_newaK hx hb (atype := .long) (hts _ hac) rfl hdg rfl (nI_pos (by omega)) (nI_clamp (by omega)) (by show n * 8 ≤ _; omega) hcells hslots rfl fun H1 cA e1 z1 o1 hAr hNm => ?_
  have hcA : cA = Z.2.2.1 := by
    have h2 : s.vm.findClass ("[" ++ FieldType.long.toString) = some Z.2.2.1 := (hK.2 1 _ rfl).2
    have h1 : s.vm.findClass ("[" ++ FieldType.long.toString) = some cA := hNm
    exact Option.some.inj (h1.symm.trans h2)
  subst hcA
  have hk : ∀ (k : Nat) (x : Nat × va_E), ws[k]? = some x → H1[x.1]? = H[x.1]? := fun k x hx => o1 x.1 ((hW.1 k x hx).lt)
  refine kk H.size H1 ⟨(hW.1.kept hk).app (zat_one ?_), hW.2.1.push hW.1 rfl (hA _ hW.2.2.1), Nat.le_trans hW.2.2.1 (by omega), fun x h1 h2 => (o1 x (Nat.lt_of_lt_of_le h1 hW.2.2.1)).trans (hW.2.2.2.1 x h1 h2), hW.2.2.2.2⟩ z1 rfl
  show H1[H.size]? = some (vp_cell _ _)
  rw [vp_cell_l]
  exact e1
end Rm
/-! what two numbers of w bits give -/
def N2 (k A B w : Nat) : Nat := match k with
  | 0 => A &&& B
  | 1 => A ||| B
  | 2 => A ^^^ B
  | 3 => (A + B) % 2 ^ w
  | 4 => (A + (2 ^ w - 1 - B) + 1) % 2 ^ w
  | 5 => (A * B) % 2 ^ w
  | 6 => dvN 0 A B w
  | 7 => dvN 1 A B w
  | 8 => sdN 0 (A.testBit (w - 1)) (B.testBit (w - 1)) A B w
  | 9 => sdN 1 (A.testBit (w - 1)) (B.testBit (w - 1)) A B w
  | 10 => bn (fun j => decide (B ≤ j) && A.testBit (j - B)) w
  | 11 => bn (fun j => decide (j + B < w) && A.testBit (j + B)) w
  | _ => bn (fun j => if j + B < w then A.testBit (j + B) else A.testBit (w - 1)) w
def NC (k A B w : Nat) : Bool := match k with
  | 0 => decide (A = B)
  | 1 => decide (A < B)
  | 2 => decide (A ≤ B)
  | 3 => decide (sI A w < sI B w)
  | _ => decide (sI A w ≤ sI B w)
theorem top_lt {A w : Nat} (hw : 1 ≤ w) (hA : A < 2 ^ w) : A.testBit (w - 1) = decide (2 ^ (w - 1) ≤ A) := by
  have hp : 2 ^ w = 2 * 2 ^ (w - 1) := by rw [← Nat.pow_succ']; congr 1; omega
  by_cases h : 2 ^ (w - 1) ≤ A
  · rw [decide_eq_true h, Nat.testBit_eq_decide_div_mod_eq]
    have e : A / 2 ^ (w - 1) = 1 := by
      apply Nat.div_eq_of_lt_le <;> omega
    rw [e]; rfl
  · rw [decide_eq_false h, Nat.testBit_lt_two_pow (by omega)]
theorem sI_neg {A w : Nat} (hw : 1 ≤ w) (hA : A < 2 ^ w) : (sI A w < 0) ↔ A.testBit (w - 1) = true := by
  rw [top_lt hw hA, decide_eq_true_iff, sI]
  have e2 : ((2 : Int) ^ w) = ((2 ^ w : Nat) : Int) := by rw [Int.natCast_pow]; rfl
  split <;> omega
theorem two_le {w : Nat} (hw : w ≤ 64) : 2 ^ w ≤ 2 ^ 64 := Nat.pow_le_pow_right (by decide) hw
theorem mod_mod_two {a w : Nat} (hw : w ≤ 64) : a % 2 ^ 64 % 2 ^ w = a % 2 ^ w := Nat.mod_mod_of_dvd _ (Nat.pow_dvd_pow 2 hw)
