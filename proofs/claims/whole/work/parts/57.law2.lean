/-! the law's loop -/
theorem sl2_wt : ∀ k, k < 13 → ∀ w, w < 65 → 1 ≤ w → sl2 k w ≤ 17 * wt2 k w + 10 := by decide +kernel
theorem Wd.pull {Z : Zt} {A : Nat → Prop} {H0 H : Heap} {g h : Nat × va_E} {a n b d vs : va_W} {locs : List Loc} (hW : Wd Z A H0 ((g :: (a ++ n ++ b)) ++ (d ++ (h :: vs))) H locs) : Wd Z A H0 ((g :: (a ++ b)) ++ (d ++ (h :: (n ++ vs)))) H locs := by
  have e1 : (g :: (a ++ n ++ b)) ++ (d ++ (h :: vs)) = (g :: a) ++ (n ++ ((b ++ d ++ [h]) ++ vs)) := by simp
  have h1 : Wd Z A H0 ((g :: a) ++ (n ++ ((b ++ d ++ [h]) ++ vs))) H locs := e1 ▸ hW
  have e2 : n ++ ((g :: a) ++ ((b ++ d ++ [h]) ++ vs)) = n ++ (((g :: a) ++ (b ++ d ++ [h])) ++ vs) := by simp
  have h2 : Wd Z A H0 (n ++ (((g :: a) ++ (b ++ d ++ [h])) ++ vs)) H locs := e2 ▸ h1.rot
  have e3 : ((g :: a) ++ (b ++ d ++ [h])) ++ (n ++ vs) = (g :: (a ++ b)) ++ (d ++ (h :: (n ++ vs))) := by simp
  exact e3 ▸ h2.rot
theorem ro_mem {Z : Zt} {A : Nat → Prop} {H0 H : Heap} {wc wr : va_W} {locs : List Loc} {q : Nat × va_E} (hW : Wd Z A H0 (wc ++ wr) H locs) (hq : q ∈ wr) : RO Z wc q H := by
  obtain ⟨k, hk⟩ := List.mem_iff_getElem?.mp hq
  exact RO.loc hW k hk
theorem bro_of {Z : Zt} {A : Nat → Prop} {H0 H : Heap} {wc w7 vs : va_W} {locs : List Loc} {hk hc n : Nat} {vd vb stb D : Nat → Nat} {rw : Nat → Nat → Nat} (hW : Wd Z A H0 (wc ++ (w7 ++ (eo hk 1 [.ref hc] :: vs))) H locs) (hvs : ∀ i, i < n → vo vd vb stb i ∈ vs ∧ ea Z (vb i) (D i) (rw i) ∈ vs) : BRO Z wc hk hc n vd vb stb D rw H :=
  ⟨ro_mem hW (List.mem_append_right _ List.mem_cons_self), fun i hi => ⟨ro_mem hW (List.mem_append_right _ (List.mem_cons_of_mem _ (hvs i hi).1)), ro_mem hW (List.mem_append_right _ (List.mem_cons_of_mem _ (hvs i hi).2))⟩⟩
theorem vs_new {Z : Zt} {vs : va_W} {n : Nat} {vd vb stb D : Nat → Nat} {rw : Nat → Nat → Nat} (hvs : ∀ i, i < n → vo vd vb stb i ∈ vs ∧ ea Z (vb i) (D i) (rw i) ∈ vs) (nv q st w : Nat) (f : Nat → Nat) :
    ∀ i, i < n + 1 → vo (up vd n nv) (up vb n q) (up stb n st) i ∈ [eo nv 2 [.ref q, .int (nI st)], ea Z q w f] ++ vs ∧ ea Z (up vb n q i) (up D n w i) (up rw n f i) ∈ [eo nv 2 [.ref q, .int (nI st)], ea Z q w f] ++ vs := by
  intro i hi
  by_cases h : i = n
  · subst h
    simp only [vo, up_s]
    exact ⟨List.mem_append_left _ List.mem_cons_self, List.mem_append_left _ (List.mem_cons_of_mem _ List.mem_cons_self)⟩
  · have h2 := hvs i (by omega)
    simp only [vo, up_n _ _ h]
    exact ⟨List.mem_append_right _ h2.1, List.mem_append_right _ h2.2⟩
/-- the numbers of the loop behind t calls -/
def LJ (Z : Zt) (t cells slots : Nat) (x : CS) (σ : Nat → Bool) (n wg : Nat) (o : Option (Nat × Nat × (Nat → Option Nat))) (vd vb stb : Nat → Nat) (rw : Nat → Nat → Nat) (K F S T D V : Nat → Nat) (vs : va_W) : Prop :=
  (∀ i, i < n → vo vd vb stb i ∈ vs ∧ ea Z (vb i) (D i) (rw i) ∈ vs) ∧ (n < 512 → Jn x σ n wg o vd stb rw K F S T D V) ∧ n ≤ t ∧ wg ≤ 100000 ∧ xu x ≤ 3126 ∧ cells ≤ 100 + 230 * t + 4 * xu x ∧ slots ≤ 60000 + 17 * wg + 1700 * t + 512 * xu x
/-- the loop's world behind t calls -/
def LE (Z : Zt) (A : Nat → Prop) (H0 H : Heap) (locs : List Loc) (t cells slots hb0 hk hc hm out hq : Nat) (ad : MA) : Prop :=
  ∃ (x : CS) (σ : Nat → Bool) (mo : Int32) (n wg : Nat) (o : Option (Nat × Nat × (Nat → Option Nat))) (vd vb stb : Nat → Nat) (rw : Nat → Nat → Nat) (r : Nat → Nat) (cd : Nat) (K F S T D V : Nat → Nat) (vs : va_W), LJ Z t cells slots x σ n wg o vd vb stb rw K F S T D V vs ∧ Wd Z A H0 ((el Z out 1 r :: (cw Z hc x ++ bl Z hb0 hk hc hm wg mo n o)) ++ (mw Z hq ad cd n wg K F S T D V ++ (eo hk 1 [.ref hc] :: vs))) H locs
/-- what stands all along -/
def LC (p : Program) (R : Room) (s : State) (m : MethodId) (meth : Method) (c : Code) (b L : Nat) (xs : Nat → Int32) (Z : Zt) (A : Nat → Prop) : Prop :=
  p.tables.exec = Jvm.exec ∧ c.code = cL_law ∧ c.maxLocals = 8 ∧ s.vm.findClass RL = some m.cls ∧ (∀ w ∈ TB, w.before #[Value.ref b] s = true) ∧ va_X b L xs s s.heap ∧ b < s.heap.size ∧ meth.locks = false ∧ va_Nc ISE IAE s ∧ zK Z s ∧ GS Z A s s.heap ∧ (∀ q, s.heap.size ≤ q → A q) ∧ ¬ A b ∧ R.frames = 2048 ∧ R.cells = 269289 ∧ R.slots = 8288238 ∧ R.locals = 84000
section Sl
variable {p : Program} {l : Launch} {e : Env} {R : Room} {s : State} {m : MethodId} {args : Array Value} {below : List Frame} {meth : Method} {c : Code} {H : Heap} {locs : List Loc} {cells slots : Nat} {Q : State → Prop}
variable {cc : ByteArray} {pc : Nat} {ls : Array Slot} {rest : List Value} {Z : Zt} {A : Nat → Prop} {ws : va_W}
theorem s_ld (hx : p.tables.exec = Jvm.exec) (hb : c.code = cc) {b L : Nat} {xs : Nat → Int32} (hX : va_X b L xs s s.heap) (hbl : b < s.heap.size) (hbA : ¬ A b) (hW : Wd Z A s.heap ws H locs) {i : Nat} (hi : i < L) (hL : L < 2 ^ 31) (hdg : decode cc pc = .ok (.iaload, 1))
    (kk : W p l e R s m args below meth c H locs cells slots Q (F0 m (pc + 1) ls (.int (xs i) :: rest))) : W p l e R s m args below meth c H locs cells slots Q (F0 m pc ls (.int (nI i) :: .ref b :: rest)) := by
  refine va_sld hx hb hX hbl hbA hW.2.2 (vp_in_nI hi hL) hdg ?_
  rw [nI_clamp (by omega)]
  exact kk
end Sl
set_option maxHeartbeats 4000000 in
set_option maxRecDepth 100000 in
theorem c_input {p : Program} (l : Launch) (hst : l.stackTraces = false) {e : Env} {R : Room} {s : State} {m : MethodId} {below : List Frame} {meth : Method} {c : Code} {b L : Nat} {xs : Nat → Int32} {Z : Zt} {A : Nat → Prop} (C : LC p R s m meth c b L xs Z A) (hL : L ≤ 2048) {Q : State → Prop} {t hb0 hk hc hm out hq : Nat} {ad : MA} (ht : 4 * t + 4 ≤ L)
    (kk : ∀ (H : Heap) (locs : List Loc) (cells slots : Nat) (ls : Array Slot), LE Z A s.heap H locs (t + 1) cells slots hb0 hk hc hm out hq ad → lv_has ls 8 [(0, .ref b), (1, .ref hb0), (2, .ref hq), (3, .ref out), (4, .int (nI (4 * t)))] → W p l e R s m #[Value.ref b] below meth c H locs cells slots Q (F0 m 1052 ls []))
    {H : Heap} {locs : List Loc} {cells slots : Nat} {ls : Array Slot} (hE : LE Z A s.heap H locs t cells slots hb0 hk hc hm out hq ad) (hl : lv_has ls 8 [(0, .ref b), (1, .ref hb0), (2, .ref hq), (3, .ref out), (4, .int (nI (4 * t)))]) : W p l e R s m #[Value.ref b] below meth c H locs cells slots Q (F0 m 108 ls []) := by
  obtain ⟨hx, hb, hml, hown, hts, hX, hbl, hlk, hnc, hK, hG, hA, hbA, hRf, hRc, hRs, hRl⟩ := C
  obtain ⟨x, σ, mo, n, wg, o, vd, vb, stb, rw, r, cd, K, F, S, T, D, V, vs, ⟨hvs, hJ, hnt, hwg, hu, hcl, hsl⟩, hW⟩ := hE
  have hJ := hJ (by omega)
  have hbk := hJ.1
  have hxn := hbk.2.2.2.1
  have hwd := hbk.2.2.2.2.2
  have hD : ∀ i, i < n → D i ≤ 64 := fun i hi => (hwd i hi).2.1
  have hn4 : n < 4000 := by omega
  refine lv_aload_n hx hb dL_law_108 rfl (lv_at hl 1 rfl) ?_
  refine lv_aload_n hx hb dL_law_109 rfl (lv_at hl 0 rfl) ?_
  refine lv_iload hx hb dL_law_110 (lv_at hl 4 rfl) ?_
  refine lv_iconst (v := nI 1) hx hb dL_law_112 (by decide) ?_
  refine n_iadd hx hb dL_law_113 ?_
  refine s_ld (i := ((4 * t) + 1)) hx hb hX hbl hbA hW (by omega) (by omega) dL_law_114 ?_
  refine lv_aload_n hx hb dL_law_115 rfl (lv_at hl 3 rfl) ?_
  by_cases hgd : ∃ w, (1 ≤ w ∧ w ≤ 64 ∧ xs ((4 * t) + 1) = nI w) ∧ w + wg ≤ 100000
  · obtain ⟨w, ⟨h1, h2, e0⟩, hg⟩ := hgd
    have c0 : (xs ((4 * t) + 1)).toNatClampNeg = w := by rw [e0]; exact nI_clamp (by omega)
    have hM := k_input l hst Z hb0 hk hc hm x σ mo n wg o vd vb stb D rw (xs ((4 * t) + 1)) hbk
    simp only [c0] at hM
    have hU1 := capU_le (xu x) (xn x + w)
    have hU2 := capU_bd (xu x) (xn x + w)
    obtain ⟨U, hU⟩ : ∃ U, capU (xu x) (xn x + w) = U := ⟨_, rfl⟩
    rw [hU] at hM hU1 hU2
    refine h_stat (As := [.ref hb0, .int (xs ((4 * t) + 1)), .ref out]) (rest := []) (wc := el Z out 1 r :: (cw Z hc x ++ bl Z hb0 hk hc hm wg mo n o)) (wr := mw Z hq ad cd n wg K F S T D V ++ (eo hk 1 [.ref hc] :: vs)) hx hb hml hown hts hnc hK hG rfl hA hl (w_input l Z hb0 hk hc hm x mo n wg o vd vb stb D rw (xs ((4 * t) + 1)) out n _ _ r hM (fun v w1 h => by obtain ⟨w', ⟨h1', h2', e0'⟩, hg', ⟨y, nv, q, f, o2, hv, -⟩⟩ := h; exact hv) (by omega) (fun E h => h.elim (fun h => Or.inl h.1) (fun h => Or.inr h.1))) hW (bro_of hW hvs) tb_122 tb_123 tb_0 tb_124 (nA := 3) (by decide +kernel) rfl ⟨by omega, by omega⟩ ⟨by omega, by omega⟩ rfl (Nat.le_of_ble_eq_true rfl) dL_law_116 (fun v w1 H1 L1 hp hW hzz hkk hdd => ?_)
    rcases hp with ⟨rfl, v0, w0, hp, rfl⟩ | ⟨rfl, hp, rfl⟩ | ⟨rfl, hp, rfl⟩
    · obtain ⟨w', ⟨h1', h2', e0'⟩, hg', y, nv, q, f, o2, -, rfl, hs, hfb, hadd, hS⟩ := hp
      have i_w : w = w' := (nI_eq (by omega) (by omega)).mp (e0.symm.trans e0')
      subst i_w
      clear hzz hkk hdd
      generalize H1 = H at hW ⊢
      generalize L1 = locs at hW ⊢
      refine W.eq (g2 := F0 m 119 ls [.int (nI 0)]) rfl ?_
      have hM2 := k_minput1 l Z hq ad cd n wg K F S T D V w h1 h2 hn4 hwg hg
      rw [← e0] at hM2
      refine lv_istore (lv' := [(5, .int (nI 0)), (0, .ref b), (1, .ref hb0), (2, .ref hq), (3, .ref out), (4, .int (nI (4 * t)))]) hx hb dL_law_119 hl (by decide) rfl (fun ls hl => ?_)
      have hW : Wd Z A s.heap (mw Z hq ad cd n wg K F S T D V ++ ((el Z out 1 (up r 0 n) :: (cw Z hc y ++ [eo nv 2 [.ref q, .int (nI 1)], ea Z q (w) f] ++ bl Z hb0 hk hc hm (wg + w) (mo + nI 1) (n + 1) o2)) ++ (eo hk 1 [.ref hc] :: vs))) _ _ := Wd.rot hW
      refine lv_aload_n hx hb dL_law_121 rfl (lv_at hl 3 rfl) ?_
      refine lv_aload_n hx hb dL_law_122 rfl (lv_at hl 1 rfl) ?_
      refine lv_iload hx hb dL_law_123 (lv_at hl 5 rfl) ?_
      refine lv_iconst (v := nI 1) hx hb dL_law_125 (by decide) ?_
      refine n_iadd hx hb dL_law_126 ?_
      refine s_ld (i := ((4 * t) + 1)) hx hb hX hbl hbA hW (by omega) (by omega) dL_law_127 ?_
      refine c_virt (As := [.int (xs ((4 * t) + 1))]) (rest := []) (wc := mw Z hq ad cd n wg K F S T D V) (wr := (el Z out 1 (up r 0 n) :: (cw Z hc y ++ [eo nv 2 [.ref q, .int (nI 1)], ea Z q (w) f] ++ bl Z hb0 hk hc hm (wg + w) (mo + nI 1) (n + 1) o2)) ++ (eo hk 1 [.ref hc] :: vs)) (nl := 0) hx hb hml hown hts hK hG rfl hA hl (hM2) hW trivial (hW.at 0 rfl) rfl rfl tb_812 tb_813 tb_814 tb_7 tb_815 (nA := 1) (by decide +kernel) rfl ⟨by omega, by omega⟩ ⟨by omega, by omega⟩ rfl (Nat.le_of_ble_eq_true rfl) dL_law_128 (fun v w1 H1 L1 hp hW hzz hkk hdd => ?_)
      obtain ⟨rfl, rfl⟩ := hp
      clear hzz hkk hdd
      generalize H1 = H at hW ⊢
      generalize L1 = locs at hW ⊢
      refine W.eq (g2 := F0 m 131 ls [.int (nI n)]) rfl ?_
      refine lv_istore (lv' := [(6, .int (nI n)), (5, .int (nI 0)), (0, .ref b), (1, .ref hb0), (2, .ref hq), (3, .ref out), (4, .int (nI (4 * t)))]) hx hb dL_law_131 hl (by decide) rfl (fun ls hl => ?_)
      refine lv_aload_n hx hb dL_law_133 rfl (lv_at hl 4 rfl) ?_
      refine c_virt (As := []) (rest := []) (wc := mw Z hq ad 0 (n + 1) (wg + w) (up K n 0) (up F n 0) (up S n 0) (up T n 0) (up D n w) (up V n 0)) (wr := (el Z out 1 (up r 0 n) :: (cw Z hc y ++ [eo nv 2 [.ref q, .int (nI 1)], ea Z q (w) f] ++ bl Z hb0 hk hc hm (wg + w) (mo + nI 1) (n + 1) o2)) ++ (eo hk 1 [.ref hc] :: vs)) (nl := 0) hx hb hml hown hts hK hG rfl hA hl (k_thrown l Z hq ad 0 (n + 1) (wg + w) (up K n 0) (up F n 0) (up S n 0) (up T n 0) (up D n w) (up V n 0)) hW trivial (hW.at 0 rfl) rfl rfl tb_808 tb_809 tb_810 tb_7 tb_811 (nA := 0) (by decide +kernel) rfl ⟨by omega, by omega⟩ ⟨by omega, by omega⟩ rfl (Nat.le_of_ble_eq_true rfl) dL_law_134 (fun v w1 H1 L1 hp hW hzz hkk hdd => ?_)
      obtain ⟨rfl, rfl⟩ := hp
      clear hzz hkk hdd
      generalize H1 = H at hW ⊢
      generalize L1 = locs at hW ⊢
      refine W.eq (g2 := F0 m 137 ls [.int (nI 0)]) rfl ?_
      refine lv_iload hx hb dL_law_137 (lv_at hl 1 rfl) ?_
      refine n_eq_t (tgt := 144) hx hb rfl dL_law_139 (by decide) ?_
      refine lv_iload hx hb dL_law_144 (lv_at hl 1 rfl) ?_
      refine n_zne_f (tgt := 161) hx hb rfl dL_law_146 (by decide) ?_
      refine lv_aload_n hx hb dL_law_149 rfl (lv_at hl 5 rfl) ?_
      refine lv_iconst (v := nI 0) hx hb dL_law_150 (by decide) ?_
      refine r_lald (i := 0) hx hb hK (hW.at 7 rfl) (by omega) (by omega) dL_law_151 ?_
      refine lv_iload hx hb dL_law_152 (lv_at hl 0 rfl) ?_
      refine lv_i2l (v := (nI n).toInt64) hx hb dL_law_154 rfl ?_
      refine W.lcmp hx hb dL_law_155 ?_
      refine lv_if_eq (tgt := 161) hx hb dL_law_156 (by decide) (fun _ => ?_) (fun q => absurd ((lg_cmp_eq _ _).mpr (by rw [up_s, nI_long (by omega)])) q)
      refine lv_goto (tgt := 1052) hx hb dL_law_161 (by decide) ?_
      have hW : Wd Z A s.heap ((el Z out 1 (up r 0 n) :: (cw Z hc y ++ [eo nv 2 [.ref q, .int (nI 1)], ea Z q (w) f] ++ bl Z hb0 hk hc hm (wg + w) (mo + nI 1) (n + 1) o2)) ++ (mw Z hq ad 0 (n + 1) (wg + w) (up K n 0) (up F n 0) (up S n 0) (up T n 0) (up D n w) (up V n 0) ++ (eo hk 1 [.ref hc] :: vs))) _ _ := Wd.rot (w1 := mw Z hq ad 0 (n + 1) (wg + w) (up K n 0) (up F n 0) (up S n 0) (up T n 0) (up D n w) (up V n 0)) (wc := el Z out 1 (up r 0 n) :: (cw Z hc y ++ [eo nv 2 [.ref q, .int (nI 1)], ea Z q (w) f] ++ bl Z hb0 hk hc hm (wg + w) (mo + nI 1) (n + 1) o2)) hW
      have hW := Wd.pull hW
      have hsu : xu y = U := hs.2.2.2.trans hU
      have hJ2 := J_input hJ h1 h2 hg hs hfb hadd hS
      exact kk _ _ _ _ ls ⟨y, σ, mo + nI 1, n + 1, wg + w, o2, up vd n nv, up vb n q, up stb n 1, up rw n f, up r 0 n, 0, up K n 0, up F n 0, up S n 0, up T n 0, up D n w, up V n 0, [eo nv 2 [.ref q, .int (nI 1)], ea Z q (w) f] ++ vs, ⟨vs_new hvs nv q 1 w f, hJ2, by omega, by omega, by omega, by omega, by omega⟩, hW⟩ (lv_sub hl [2, 3, 4, 5, 6] rfl)
    · exact (hp.elim (fun h => h.2 ⟨w, h1, h2, e0⟩) (fun h => absurd h.1 (by decide))).elim
    · rcases hp with h | ⟨-, h⟩
      · exact absurd h.1 (by decide)
      · obtain ⟨w', ⟨h1', h2', e0'⟩, hg'⟩ := h
        have i_w : w = w' := (nI_eq (by omega) (by omega)).mp (e0.symm.trans e0')
        subst i_w
        exact absurd hg hg'
  · have hM := k_inputN l hst Z hb0 hk hc hm x σ mo n wg o vd vb stb D rw (xs ((4 * t) + 1)) hbk hgd
    refine h_stat (As := [.ref hb0, .int (xs ((4 * t) + 1)), .ref out]) (rest := []) (wc := el Z out 1 r :: (cw Z hc x ++ bl Z hb0 hk hc hm wg mo n o)) (wr := mw Z hq ad cd n wg K F S T D V ++ (eo hk 1 [.ref hc] :: vs)) hx hb hml hown hts hnc hK hG rfl hA hl (w_input l Z hb0 hk hc hm x mo n wg o vd vb stb D rw (xs ((4 * t) + 1)) out 0 _ _ r hM (fun v w1 h => h.elim) (by omega) (fun E h => h.elim (fun h => Or.inl h.1) (fun h => Or.inr h.1))) hW (bro_of hW hvs) tb_122 tb_123 tb_0 tb_124 (nA := 3) (by decide +kernel) rfl ⟨by omega, by omega⟩ ⟨by omega, by omega⟩ rfl (Nat.le_of_ble_eq_true rfl) dL_law_116 (fun v w1 H1 L1 hp hW hzz hkk hdd => ?_)
    rcases hp with ⟨rfl, v0, w0, hp, rfl⟩ | ⟨rfl, hp, rfl⟩ | ⟨rfl, hp, rfl⟩
    · exact hp.elim
    · rcases hp with ⟨-, hng⟩ | h9
      · clear hzz hkk hdd
        generalize H1 = H at hW ⊢
        generalize L1 = locs at hW ⊢
        refine W.eq (g2 := F0 m 119 ls [.int (nI 1)]) rfl ?_
        have hM2 := k_minput0 l Z hq ad cd n wg K F S T D V (xs ((4 * t) + 1)) hng
        refine lv_istore (lv' := [(5, .int (nI 1)), (0, .ref b), (1, .ref hb0), (2, .ref hq), (3, .ref out), (4, .int (nI (4 * t)))]) hx hb dL_law_119 hl (by decide) rfl (fun ls hl => ?_)
        have hW : Wd Z A s.heap (mw Z hq ad cd n wg K F S T D V ++ ((el Z out 1 r :: (cw Z hc x ++ bl Z hb0 hk hc hm wg mo n o)) ++ (eo hk 1 [.ref hc] :: vs))) _ _ := Wd.rot hW
        refine lv_aload_n hx hb dL_law_121 rfl (lv_at hl 3 rfl) ?_
        refine lv_aload_n hx hb dL_law_122 rfl (lv_at hl 1 rfl) ?_
        refine lv_iload hx hb dL_law_123 (lv_at hl 5 rfl) ?_
        refine lv_iconst (v := nI 1) hx hb dL_law_125 (by decide) ?_
        refine n_iadd hx hb dL_law_126 ?_
        refine s_ld (i := ((4 * t) + 1)) hx hb hX hbl hbA hW (by omega) (by omega) dL_law_127 ?_
        refine c_virt (As := [.int (xs ((4 * t) + 1))]) (rest := []) (wc := mw Z hq ad cd n wg K F S T D V) (wr := (el Z out 1 r :: (cw Z hc x ++ bl Z hb0 hk hc hm wg mo n o)) ++ (eo hk 1 [.ref hc] :: vs)) (nl := 0) hx hb hml hown hts hK hG rfl hA hl (hM2) hW trivial (hW.at 0 rfl) rfl rfl tb_812 tb_813 tb_814 tb_7 tb_815 (nA := 1) (by decide +kernel) rfl ⟨by omega, by omega⟩ ⟨by omega, by omega⟩ rfl (Nat.le_of_ble_eq_true rfl) dL_law_128 (fun v w1 H1 L1 hp hW hzz hkk hdd => ?_)
        obtain ⟨⟨r0, rfl⟩, rfl⟩ := hp
        clear hzz hkk hdd
        generalize H1 = H at hW ⊢
        generalize L1 = locs at hW ⊢
        refine W.eq (g2 := F0 m 131 ls [.int r0]) rfl ?_
        refine lv_istore (lv' := [(6, .int r0), (5, .int (nI 1)), (0, .ref b), (1, .ref hb0), (2, .ref hq), (3, .ref out), (4, .int (nI (4 * t)))]) hx hb dL_law_131 hl (by decide) rfl (fun ls hl => ?_)
        refine lv_aload_n hx hb dL_law_133 rfl (lv_at hl 4 rfl) ?_
        refine c_virt (As := []) (rest := []) (wc := mw Z hq ad 1 n wg K F S T D V) (wr := (el Z out 1 r :: (cw Z hc x ++ bl Z hb0 hk hc hm wg mo n o)) ++ (eo hk 1 [.ref hc] :: vs)) (nl := 0) hx hb hml hown hts hK hG rfl hA hl (k_thrown l Z hq ad 1 n wg K F S T D V) hW trivial (hW.at 0 rfl) rfl rfl tb_808 tb_809 tb_810 tb_7 tb_811 (nA := 0) (by decide +kernel) rfl ⟨by omega, by omega⟩ ⟨by omega, by omega⟩ rfl (Nat.le_of_ble_eq_true rfl) dL_law_134 (fun v w1 H1 L1 hp hW hzz hkk hdd => ?_)
        obtain ⟨rfl, rfl⟩ := hp
        clear hzz hkk hdd
        generalize H1 = H at hW ⊢
        generalize L1 = locs at hW ⊢
        refine W.eq (g2 := F0 m 137 ls [.int (nI 1)]) rfl ?_
        refine lv_iload hx hb dL_law_137 (lv_at hl 1 rfl) ?_
        refine n_eq_t (tgt := 144) hx hb rfl dL_law_139 (by decide) ?_
        refine lv_iload hx hb dL_law_144 (lv_at hl 1 rfl) ?_
        refine n_zne_t (tgt := 161) hx hb (by decide) (by omega) dL_law_146 (by decide) ?_
        refine lv_goto (tgt := 1052) hx hb dL_law_161 (by decide) ?_
        have hW : Wd Z A s.heap ((el Z out 1 r :: (cw Z hc x ++ bl Z hb0 hk hc hm wg mo n o)) ++ (mw Z hq ad 1 n wg K F S T D V ++ (eo hk 1 [.ref hc] :: vs))) _ _ := Wd.rot (w1 := mw Z hq ad 1 n wg K F S T D V) (wc := el Z out 1 r :: (cw Z hc x ++ bl Z hb0 hk hc hm wg mo n o)) hW
        exact kk _ _ _ _ ls ⟨x, σ, mo, n, wg, o, vd, vb, stb, rw, r, 1, K, F, S, T, D, V, vs, ⟨hvs, fun _ => hJ, by omega, by omega, by omega, by omega, by omega⟩, hW⟩ (lv_sub hl [2, 3, 4, 5, 6] rfl)
      · exact absurd h9.1 (by decide)
    · rcases hp with h9 | ⟨-, hng⟩
      · exact absurd h9.1 (by decide)
      · obtain ⟨w, ⟨h1, h2, e0⟩, hg⟩ := hng
        clear hzz hkk hdd
        generalize H1 = H at hW ⊢
        generalize L1 = locs at hW ⊢
        refine W.eq (g2 := F0 m 119 ls [.int (nI 2)]) rfl ?_
        have hM2 := k_minput2 l Z hq ad cd n wg K F S T D V w h1 h2 hn4 hwg hg
        rw [← e0] at hM2
        refine lv_istore (lv' := [(5, .int (nI 2)), (0, .ref b), (1, .ref hb0), (2, .ref hq), (3, .ref out), (4, .int (nI (4 * t)))]) hx hb dL_law_119 hl (by decide) rfl (fun ls hl => ?_)
        have hW : Wd Z A s.heap (mw Z hq ad cd n wg K F S T D V ++ ((el Z out 1 r :: (cw Z hc x ++ bl Z hb0 hk hc hm wg mo n o)) ++ (eo hk 1 [.ref hc] :: vs))) _ _ := Wd.rot hW
        refine lv_aload_n hx hb dL_law_121 rfl (lv_at hl 3 rfl) ?_
        refine lv_aload_n hx hb dL_law_122 rfl (lv_at hl 1 rfl) ?_
        refine lv_iload hx hb dL_law_123 (lv_at hl 5 rfl) ?_
        refine lv_iconst (v := nI 1) hx hb dL_law_125 (by decide) ?_
        refine n_iadd hx hb dL_law_126 ?_
        refine s_ld (i := ((4 * t) + 1)) hx hb hX hbl hbA hW (by omega) (by omega) dL_law_127 ?_
        refine c_virt (As := [.int (xs ((4 * t) + 1))]) (rest := []) (wc := mw Z hq ad cd n wg K F S T D V) (wr := (el Z out 1 r :: (cw Z hc x ++ bl Z hb0 hk hc hm wg mo n o)) ++ (eo hk 1 [.ref hc] :: vs)) (nl := 0) hx hb hml hown hts hK hG rfl hA hl (hM2) hW trivial (hW.at 0 rfl) rfl rfl tb_812 tb_813 tb_814 tb_7 tb_815 (nA := 1) (by decide +kernel) rfl ⟨by omega, by omega⟩ ⟨by omega, by omega⟩ rfl (Nat.le_of_ble_eq_true rfl) dL_law_128 (fun v w1 H1 L1 hp hW hzz hkk hdd => ?_)
        obtain ⟨⟨r0, rfl⟩, rfl⟩ := hp
        clear hzz hkk hdd
        generalize H1 = H at hW ⊢
        generalize L1 = locs at hW ⊢
        refine W.eq (g2 := F0 m 131 ls [.int r0]) rfl ?_
        refine lv_istore (lv' := [(6, .int r0), (5, .int (nI 2)), (0, .ref b), (1, .ref hb0), (2, .ref hq), (3, .ref out), (4, .int (nI (4 * t)))]) hx hb dL_law_131 hl (by decide) rfl (fun ls hl => ?_)
        refine lv_aload_n hx hb dL_law_133 rfl (lv_at hl 4 rfl) ?_
        refine c_virt (As := []) (rest := []) (wc := mw Z hq ad 2 n wg K F S T D V) (wr := (el Z out 1 r :: (cw Z hc x ++ bl Z hb0 hk hc hm wg mo n o)) ++ (eo hk 1 [.ref hc] :: vs)) (nl := 0) hx hb hml hown hts hK hG rfl hA hl (k_thrown l Z hq ad 2 n wg K F S T D V) hW trivial (hW.at 0 rfl) rfl rfl tb_808 tb_809 tb_810 tb_7 tb_811 (nA := 0) (by decide +kernel) rfl ⟨by omega, by omega⟩ ⟨by omega, by omega⟩ rfl (Nat.le_of_ble_eq_true rfl) dL_law_134 (fun v w1 H1 L1 hp hW hzz hkk hdd => ?_)
        obtain ⟨rfl, rfl⟩ := hp
        clear hzz hkk hdd
        generalize H1 = H at hW ⊢
        generalize L1 = locs at hW ⊢
        refine W.eq (g2 := F0 m 137 ls [.int (nI 2)]) rfl ?_
        refine lv_iload hx hb dL_law_137 (lv_at hl 1 rfl) ?_
        refine n_eq_t (tgt := 144) hx hb rfl dL_law_139 (by decide) ?_
        refine lv_iload hx hb dL_law_144 (lv_at hl 1 rfl) ?_
        refine n_zne_t (tgt := 161) hx hb (by decide) (by omega) dL_law_146 (by decide) ?_
        refine lv_goto (tgt := 1052) hx hb dL_law_161 (by decide) ?_
        have hW : Wd Z A s.heap ((el Z out 1 r :: (cw Z hc x ++ bl Z hb0 hk hc hm wg mo n o)) ++ (mw Z hq ad 2 n wg K F S T D V ++ (eo hk 1 [.ref hc] :: vs))) _ _ := Wd.rot (w1 := mw Z hq ad 2 n wg K F S T D V) (wc := el Z out 1 r :: (cw Z hc x ++ bl Z hb0 hk hc hm wg mo n o)) hW
        exact kk _ _ _ _ ls ⟨x, σ, mo, n, wg, o, vd, vb, stb, rw, r, 2, K, F, S, T, D, V, vs, ⟨hvs, fun _ => hJ, by omega, by omega, by omega, by omega, by omega⟩, hW⟩ (lv_sub hl [2, 3, 4, 5, 6] rfl)
set_option maxHeartbeats 4000000 in
set_option maxRecDepth 100000 in
theorem c_constant {p : Program} (l : Launch) (hst : l.stackTraces = false) {e : Env} {R : Room} {s : State} {m : MethodId} {below : List Frame} {meth : Method} {c : Code} {b L : Nat} {xs : Nat → Int32} {Z : Zt} {A : Nat → Prop} (C : LC p R s m meth c b L xs Z A) (hL : L ≤ 2048) {Q : State → Prop} {t hb0 hk hc hm out hq : Nat} {ad : MA} (ht : 4 * t + 4 ≤ L)
    (kk : ∀ (H : Heap) (locs : List Loc) (cells slots : Nat) (ls : Array Slot), LE Z A s.heap H locs (t + 1) cells slots hb0 hk hc hm out hq ad → lv_has ls 8 [(0, .ref b), (1, .ref hb0), (2, .ref hq), (3, .ref out), (4, .int (nI (4 * t)))] → W p l e R s m #[Value.ref b] below meth c H locs cells slots Q (F0 m 1052 ls []))
    {H : Heap} {locs : List Loc} {cells slots : Nat} {ls : Array Slot} (hE : LE Z A s.heap H locs t cells slots hb0 hk hc hm out hq ad) (hl : lv_has ls 8 [(0, .ref b), (1, .ref hb0), (2, .ref hq), (3, .ref out), (4, .int (nI (4 * t)))]) : W p l e R s m #[Value.ref b] below meth c H locs cells slots Q (F0 m 164 ls []) := by
  obtain ⟨hx, hb, hml, hown, hts, hX, hbl, hlk, hnc, hK, hG, hA, hbA, hRf, hRc, hRs, hRl⟩ := C
  obtain ⟨x, σ, mo, n, wg, o, vd, vb, stb, rw, r, cd, K, F, S, T, D, V, vs, ⟨hvs, hJ, hnt, hwg, hu, hcl, hsl⟩, hW⟩ := hE
  have hJ := hJ (by omega)
  have hbk := hJ.1
  have hxn := hbk.2.2.2.1
  have hwd := hbk.2.2.2.2.2
  have hD : ∀ i, i < n → D i ≤ 64 := fun i hi => (hwd i hi).2.1
  have hn4 : n < 4000 := by omega
  refine lv_aload_n hx hb dL_law_164 rfl (lv_at hl 1 rfl) ?_
  refine lv_aload_n hx hb dL_law_165 rfl (lv_at hl 0 rfl) ?_
  refine lv_iload hx hb dL_law_166 (lv_at hl 4 rfl) ?_
  refine lv_iconst (v := nI 1) hx hb dL_law_168 (by decide) ?_
  refine n_iadd hx hb dL_law_169 ?_
  refine s_ld (i := ((4 * t) + 1)) hx hb hX hbl hbA hW (by omega) (by omega) dL_law_170 ?_
  refine lv_aload_n hx hb dL_law_171 rfl (lv_at hl 0 rfl) ?_
  refine lv_iload hx hb dL_law_172 (lv_at hl 4 rfl) ?_
  refine lv_iconst (v := nI 2) hx hb dL_law_174 (by decide) ?_
  refine n_iadd hx hb dL_law_175 ?_
  refine s_ld (i := ((4 * t) + 2)) hx hb hX hbl hbA hW (by omega) (by omega) dL_law_176 ?_
  refine lv_i2l (v := (xs ((4 * t) + 2)).toInt64) hx hb dL_law_177 rfl ?_
  refine lv_bipush (v := nI 32) hx hb dL_law_178 (by decide) ?_
  refine lv_lshl (v := (((xs ((4 * t) + 2)).toInt64) <<< ((nI 32).toInt64 &&& 63))) hx hb dL_law_180 rfl ?_
  refine lv_aload_n hx hb dL_law_181 rfl (lv_at hl 0 rfl) ?_
  refine lv_iload hx hb dL_law_182 (lv_at hl 4 rfl) ?_
  refine lv_iconst (v := nI 3) hx hb dL_law_184 (by decide) ?_
  refine n_iadd hx hb dL_law_185 ?_
  refine s_ld (i := ((4 * t) + 3)) hx hb hX hbl hbA hW (by omega) (by omega) dL_law_186 ?_
  refine lv_i2l (v := (xs ((4 * t) + 3)).toInt64) hx hb dL_law_187 rfl ?_
  refine lv_ldc2 (v := 4294967295) hx hb hown (hts _ tb_918) dL_law_188 ?_
  refine lv_land hx hb dL_law_191 ?_
  refine lv_lor hx hb dL_law_192 ?_
  refine lv_aload_n hx hb dL_law_193 rfl (lv_at hl 3 rfl) ?_
  by_cases hgd : ∃ w, (1 ≤ w ∧ w ≤ 64 ∧ xs ((4 * t) + 1) = nI w) ∧ w + wg ≤ 100000
  · obtain ⟨w, ⟨h1, h2, e0⟩, hg⟩ := hgd
    have c0 : (xs ((4 * t) + 1)).toNatClampNeg = w := by rw [e0]; exact nI_clamp (by omega)
    have hM := k_constant l hst Z hb0 hk hc hm x σ mo n wg o vd vb stb D rw (xs ((4 * t) + 1)) ((((xs ((4 * t) + 2)).toInt64 <<< ((nI 32).toInt64 &&& 63))) ||| ((xs ((4 * t) + 3)).toInt64 &&& 4294967295)) hbk
    simp only [c0] at hM
    refine h_stat (As := [.ref hb0, .int (xs ((4 * t) + 1)), .long ((((xs ((4 * t) + 2)).toInt64) <<< ((nI 32).toInt64 &&& 63)) ||| (((xs ((4 * t) + 3)).toInt64) &&& 4294967295)), .ref out]) (rest := []) (wc := el Z out 1 r :: (cw Z hc x ++ bl Z hb0 hk hc hm wg mo n o)) (wr := mw Z hq ad cd n wg K F S T D V ++ (eo hk 1 [.ref hc] :: vs)) hx hb hml hown hts hnc hK hG rfl hA hl (w_constant l Z hb0 hk hc hm x mo n wg o vd vb stb D rw (xs ((4 * t) + 1)) ((((xs ((4 * t) + 2)).toInt64 <<< ((nI 32).toInt64 &&& 63))) ||| ((xs ((4 * t) + 3)).toInt64 &&& 4294967295)) out n _ _ r hM (fun v w1 h => by obtain ⟨w', ⟨h1', h2', e0'⟩, hg', ⟨y, nv, q, f, o2, hv, -⟩⟩ := h; exact hv) (by omega) (fun E h => h.elim (fun h => Or.inl h.1) (fun h => Or.inr h.1))) hW (bro_of hW hvs) tb_316 tb_317 tb_0 tb_318 (nA := 4) (by decide +kernel) rfl ⟨by omega, by omega⟩ ⟨by omega, by omega⟩ rfl (Nat.le_of_ble_eq_true rfl) dL_law_194 (fun v w1 H1 L1 hp hW hzz hkk hdd => ?_)
    rcases hp with ⟨rfl, v0, w0, hp, rfl⟩ | ⟨rfl, hp, rfl⟩ | ⟨rfl, hp, rfl⟩
    · obtain ⟨w', ⟨h1', h2', e0'⟩, hg', y, nv, q, f, o2, -, rfl, hs, hfb, hadd, hS⟩ := hp
      have i_w : w = w' := (nI_eq (by omega) (by omega)).mp (e0.symm.trans e0')
      subst i_w
      clear hzz hkk hdd
      generalize H1 = H at hW ⊢
      generalize L1 = locs at hW ⊢
      refine W.eq (g2 := F0 m 197 ls [.int (nI 0)]) rfl ?_
      have hM2 := k_mconstant1 l Z hq ad cd n wg K F S T D V w (((((xs ((4 * t) + 2)).toInt64 <<< ((nI 32).toInt64 &&& 63))) ||| ((xs ((4 * t) + 3)).toInt64 &&& 4294967295))) h1 h2 hn4 hwg hg
      rw [← e0] at hM2
      refine lv_istore (lv' := [(5, .int (nI 0)), (0, .ref b), (1, .ref hb0), (2, .ref hq), (3, .ref out), (4, .int (nI (4 * t)))]) hx hb dL_law_197 hl (by decide) rfl (fun ls hl => ?_)
      have hW : Wd Z A s.heap (mw Z hq ad cd n wg K F S T D V ++ ((el Z out 1 (up r 0 n) :: (cw Z hc y ++ [eo nv 2 [.ref q, .int (nI 0)], ea Z q (w) f] ++ bl Z hb0 hk hc hm (wg + w) (mo + nI 1) (n + 1) o2)) ++ (eo hk 1 [.ref hc] :: vs))) _ _ := Wd.rot hW
      refine lv_aload_n hx hb dL_law_199 rfl (lv_at hl 3 rfl) ?_
      refine lv_aload_n hx hb dL_law_200 rfl (lv_at hl 1 rfl) ?_
      refine lv_iload hx hb dL_law_201 (lv_at hl 5 rfl) ?_
      refine lv_iconst (v := nI 1) hx hb dL_law_203 (by decide) ?_
      refine n_iadd hx hb dL_law_204 ?_
      refine s_ld (i := ((4 * t) + 1)) hx hb hX hbl hbA hW (by omega) (by omega) dL_law_205 ?_
      refine lv_aload_n hx hb dL_law_206 rfl (lv_at hl 1 rfl) ?_
      refine lv_iload hx hb dL_law_207 (lv_at hl 5 rfl) ?_
      refine lv_iconst (v := nI 2) hx hb dL_law_209 (by decide) ?_
      refine n_iadd hx hb dL_law_210 ?_
      refine s_ld (i := ((4 * t) + 2)) hx hb hX hbl hbA hW (by omega) (by omega) dL_law_211 ?_
      refine lv_i2l (v := (xs ((4 * t) + 2)).toInt64) hx hb dL_law_212 rfl ?_
      refine lv_bipush (v := nI 32) hx hb dL_law_213 (by decide) ?_
      refine lv_lshl (v := (((xs ((4 * t) + 2)).toInt64) <<< ((nI 32).toInt64 &&& 63))) hx hb dL_law_215 rfl ?_
      refine lv_aload_n hx hb dL_law_216 rfl (lv_at hl 1 rfl) ?_
      refine lv_iload hx hb dL_law_217 (lv_at hl 5 rfl) ?_
      refine lv_iconst (v := nI 3) hx hb dL_law_219 (by decide) ?_
      refine n_iadd hx hb dL_law_220 ?_
      refine s_ld (i := ((4 * t) + 3)) hx hb hX hbl hbA hW (by omega) (by omega) dL_law_221 ?_
      refine lv_i2l (v := (xs ((4 * t) + 3)).toInt64) hx hb dL_law_222 rfl ?_
      refine lv_ldc2 (v := 4294967295) hx hb hown (hts _ tb_918) dL_law_223 ?_
      refine lv_land hx hb dL_law_226 ?_
      refine lv_lor hx hb dL_law_227 ?_
      refine c_virt (As := [.int (xs ((4 * t) + 1)), .long ((((xs ((4 * t) + 2)).toInt64) <<< ((nI 32).toInt64 &&& 63)) ||| (((xs ((4 * t) + 3)).toInt64) &&& 4294967295))]) (rest := []) (wc := mw Z hq ad cd n wg K F S T D V) (wr := (el Z out 1 (up r 0 n) :: (cw Z hc y ++ [eo nv 2 [.ref q, .int (nI 0)], ea Z q (w) f] ++ bl Z hb0 hk hc hm (wg + w) (mo + nI 1) (n + 1) o2)) ++ (eo hk 1 [.ref hc] :: vs)) (nl := 0) hx hb hml hown hts hK hG rfl hA hl (hM2) hW trivial (hW.at 0 rfl) rfl rfl tb_821 tb_822 tb_823 tb_7 tb_824 (nA := 2) (by decide +kernel) rfl ⟨by omega, by omega⟩ ⟨by omega, by omega⟩ rfl (Nat.le_of_ble_eq_true rfl) dL_law_228 (fun v w1 H1 L1 hp hW hzz hkk hdd => ?_)
      obtain ⟨rfl, rfl⟩ := hp
      clear hzz hkk hdd
      generalize H1 = H at hW ⊢
      generalize L1 = locs at hW ⊢
      refine W.eq (g2 := F0 m 231 ls [.int (nI n)]) rfl ?_
      refine lv_istore (lv' := [(6, .int (nI n)), (5, .int (nI 0)), (0, .ref b), (1, .ref hb0), (2, .ref hq), (3, .ref out), (4, .int (nI (4 * t)))]) hx hb dL_law_231 hl (by decide) rfl (fun ls hl => ?_)
      refine lv_aload_n hx hb dL_law_233 rfl (lv_at hl 4 rfl) ?_
      refine c_virt (As := []) (rest := []) (wc := mw Z hq ad 0 (n + 1) (wg + w) (up K n 1) (up F n 0) (up S n 0) (up T n 0) (up D n w) (up V n (uN (((((xs ((4 * t) + 2)).toInt64 <<< ((nI 32).toInt64 &&& 63))) ||| ((xs ((4 * t) + 3)).toInt64 &&& 4294967295))) % 2 ^ w))) (wr := (el Z out 1 (up r 0 n) :: (cw Z hc y ++ [eo nv 2 [.ref q, .int (nI 0)], ea Z q (w) f] ++ bl Z hb0 hk hc hm (wg + w) (mo + nI 1) (n + 1) o2)) ++ (eo hk 1 [.ref hc] :: vs)) (nl := 0) hx hb hml hown hts hK hG rfl hA hl (k_thrown l Z hq ad 0 (n + 1) (wg + w) (up K n 1) (up F n 0) (up S n 0) (up T n 0) (up D n w) (up V n (uN (((((xs ((4 * t) + 2)).toInt64 <<< ((nI 32).toInt64 &&& 63))) ||| ((xs ((4 * t) + 3)).toInt64 &&& 4294967295))) % 2 ^ w))) hW trivial (hW.at 0 rfl) rfl rfl tb_808 tb_809 tb_810 tb_7 tb_811 (nA := 0) (by decide +kernel) rfl ⟨by omega, by omega⟩ ⟨by omega, by omega⟩ rfl (Nat.le_of_ble_eq_true rfl) dL_law_234 (fun v w1 H1 L1 hp hW hzz hkk hdd => ?_)
      obtain ⟨rfl, rfl⟩ := hp
      clear hzz hkk hdd
      generalize H1 = H at hW ⊢
      generalize L1 = locs at hW ⊢
      refine W.eq (g2 := F0 m 237 ls [.int (nI 0)]) rfl ?_
      refine lv_iload hx hb dL_law_237 (lv_at hl 1 rfl) ?_
      refine n_eq_t (tgt := 244) hx hb rfl dL_law_239 (by decide) ?_
      refine lv_iload hx hb dL_law_244 (lv_at hl 1 rfl) ?_
      refine n_zne_f (tgt := 261) hx hb rfl dL_law_246 (by decide) ?_
      refine lv_aload_n hx hb dL_law_249 rfl (lv_at hl 5 rfl) ?_
      refine lv_iconst (v := nI 0) hx hb dL_law_250 (by decide) ?_
      refine r_lald (i := 0) hx hb hK (hW.at 7 rfl) (by omega) (by omega) dL_law_251 ?_
      refine lv_iload hx hb dL_law_252 (lv_at hl 0 rfl) ?_
      refine lv_i2l (v := (nI n).toInt64) hx hb dL_law_254 rfl ?_
      refine W.lcmp hx hb dL_law_255 ?_
      refine lv_if_eq (tgt := 261) hx hb dL_law_256 (by decide) (fun _ => ?_) (fun q => absurd ((lg_cmp_eq _ _).mpr (by rw [up_s, nI_long (by omega)])) q)
      refine lv_goto (tgt := 1052) hx hb dL_law_261 (by decide) ?_
      have hW : Wd Z A s.heap ((el Z out 1 (up r 0 n) :: (cw Z hc y ++ [eo nv 2 [.ref q, .int (nI 0)], ea Z q (w) f] ++ bl Z hb0 hk hc hm (wg + w) (mo + nI 1) (n + 1) o2)) ++ (mw Z hq ad 0 (n + 1) (wg + w) (up K n 1) (up F n 0) (up S n 0) (up T n 0) (up D n w) (up V n (uN (((((xs ((4 * t) + 2)).toInt64 <<< ((nI 32).toInt64 &&& 63))) ||| ((xs ((4 * t) + 3)).toInt64 &&& 4294967295))) % 2 ^ w)) ++ (eo hk 1 [.ref hc] :: vs))) _ _ := Wd.rot (w1 := mw Z hq ad 0 (n + 1) (wg + w) (up K n 1) (up F n 0) (up S n 0) (up T n 0) (up D n w) (up V n (uN (((((xs ((4 * t) + 2)).toInt64 <<< ((nI 32).toInt64 &&& 63))) ||| ((xs ((4 * t) + 3)).toInt64 &&& 4294967295))) % 2 ^ w))) (wc := el Z out 1 (up r 0 n) :: (cw Z hc y ++ [eo nv 2 [.ref q, .int (nI 0)], ea Z q (w) f] ++ bl Z hb0 hk hc hm (wg + w) (mo + nI 1) (n + 1) o2)) hW
      have hW := Wd.pull hW
      have hsu : xu y = xu x := by rw [hS.1]
      have hJ2 := J_constant hJ h1 h2 hg hs hfb hadd hS
      exact kk _ _ _ _ ls ⟨y, σ, mo + nI 1, n + 1, wg + w, o2, up vd n nv, up vb n q, up stb n 0, up rw n f, up r 0 n, 0, up K n 1, up F n 0, up S n 0, up T n 0, up D n w, up V n (uN (((((xs ((4 * t) + 2)).toInt64 <<< ((nI 32).toInt64 &&& 63))) ||| ((xs ((4 * t) + 3)).toInt64 &&& 4294967295))) % 2 ^ w), [eo nv 2 [.ref q, .int (nI 0)], ea Z q (w) f] ++ vs, ⟨vs_new hvs nv q 0 w f, hJ2, by omega, by omega, by omega, by omega, by omega⟩, hW⟩ (lv_sub hl [2, 3, 4, 5, 6] rfl)
    · exact (hp.elim (fun h => h.2 ⟨w, h1, h2, e0⟩) (fun h => absurd h.1 (by decide))).elim
    · rcases hp with h | ⟨-, h⟩
      · exact absurd h.1 (by decide)
      · obtain ⟨w', ⟨h1', h2', e0'⟩, hg'⟩ := h
        have i_w : w = w' := (nI_eq (by omega) (by omega)).mp (e0.symm.trans e0')
        subst i_w
        exact absurd hg hg'
  · have hM := k_constantN l hst Z hb0 hk hc hm x σ mo n wg o vd vb stb D rw (xs ((4 * t) + 1)) ((((xs ((4 * t) + 2)).toInt64 <<< ((nI 32).toInt64 &&& 63))) ||| ((xs ((4 * t) + 3)).toInt64 &&& 4294967295)) hbk hgd
    refine h_stat (As := [.ref hb0, .int (xs ((4 * t) + 1)), .long ((((xs ((4 * t) + 2)).toInt64) <<< ((nI 32).toInt64 &&& 63)) ||| (((xs ((4 * t) + 3)).toInt64) &&& 4294967295)), .ref out]) (rest := []) (wc := el Z out 1 r :: (cw Z hc x ++ bl Z hb0 hk hc hm wg mo n o)) (wr := mw Z hq ad cd n wg K F S T D V ++ (eo hk 1 [.ref hc] :: vs)) hx hb hml hown hts hnc hK hG rfl hA hl (w_constant l Z hb0 hk hc hm x mo n wg o vd vb stb D rw (xs ((4 * t) + 1)) ((((xs ((4 * t) + 2)).toInt64 <<< ((nI 32).toInt64 &&& 63))) ||| ((xs ((4 * t) + 3)).toInt64 &&& 4294967295)) out 0 _ _ r hM (fun v w1 h => h.elim) (by omega) (fun E h => h.elim (fun h => Or.inl h.1) (fun h => Or.inr h.1))) hW (bro_of hW hvs) tb_316 tb_317 tb_0 tb_318 (nA := 4) (by decide +kernel) rfl ⟨by omega, by omega⟩ ⟨by omega, by omega⟩ rfl (Nat.le_of_ble_eq_true rfl) dL_law_194 (fun v w1 H1 L1 hp hW hzz hkk hdd => ?_)
    rcases hp with ⟨rfl, v0, w0, hp, rfl⟩ | ⟨rfl, hp, rfl⟩ | ⟨rfl, hp, rfl⟩
    · exact hp.elim
    · rcases hp with ⟨-, hng⟩ | h9
      · clear hzz hkk hdd
        generalize H1 = H at hW ⊢
        generalize L1 = locs at hW ⊢
        refine W.eq (g2 := F0 m 197 ls [.int (nI 1)]) rfl ?_
        have hM2 := k_mconstant0 l Z hq ad cd n wg K F S T D V (xs ((4 * t) + 1)) ((((xs ((4 * t) + 2)).toInt64 <<< ((nI 32).toInt64 &&& 63))) ||| ((xs ((4 * t) + 3)).toInt64 &&& 4294967295)) hng
        refine lv_istore (lv' := [(5, .int (nI 1)), (0, .ref b), (1, .ref hb0), (2, .ref hq), (3, .ref out), (4, .int (nI (4 * t)))]) hx hb dL_law_197 hl (by decide) rfl (fun ls hl => ?_)
        have hW : Wd Z A s.heap (mw Z hq ad cd n wg K F S T D V ++ ((el Z out 1 r :: (cw Z hc x ++ bl Z hb0 hk hc hm wg mo n o)) ++ (eo hk 1 [.ref hc] :: vs))) _ _ := Wd.rot hW
        refine lv_aload_n hx hb dL_law_199 rfl (lv_at hl 3 rfl) ?_
        refine lv_aload_n hx hb dL_law_200 rfl (lv_at hl 1 rfl) ?_
        refine lv_iload hx hb dL_law_201 (lv_at hl 5 rfl) ?_
        refine lv_iconst (v := nI 1) hx hb dL_law_203 (by decide) ?_
        refine n_iadd hx hb dL_law_204 ?_
        refine s_ld (i := ((4 * t) + 1)) hx hb hX hbl hbA hW (by omega) (by omega) dL_law_205 ?_
        refine lv_aload_n hx hb dL_law_206 rfl (lv_at hl 1 rfl) ?_
        refine lv_iload hx hb dL_law_207 (lv_at hl 5 rfl) ?_
        refine lv_iconst (v := nI 2) hx hb dL_law_209 (by decide) ?_
        refine n_iadd hx hb dL_law_210 ?_
        refine s_ld (i := ((4 * t) + 2)) hx hb hX hbl hbA hW (by omega) (by omega) dL_law_211 ?_
        refine lv_i2l (v := (xs ((4 * t) + 2)).toInt64) hx hb dL_law_212 rfl ?_
        refine lv_bipush (v := nI 32) hx hb dL_law_213 (by decide) ?_
        refine lv_lshl (v := (((xs ((4 * t) + 2)).toInt64) <<< ((nI 32).toInt64 &&& 63))) hx hb dL_law_215 rfl ?_
        refine lv_aload_n hx hb dL_law_216 rfl (lv_at hl 1 rfl) ?_
        refine lv_iload hx hb dL_law_217 (lv_at hl 5 rfl) ?_
        refine lv_iconst (v := nI 3) hx hb dL_law_219 (by decide) ?_
        refine n_iadd hx hb dL_law_220 ?_
        refine s_ld (i := ((4 * t) + 3)) hx hb hX hbl hbA hW (by omega) (by omega) dL_law_221 ?_
        refine lv_i2l (v := (xs ((4 * t) + 3)).toInt64) hx hb dL_law_222 rfl ?_
        refine lv_ldc2 (v := 4294967295) hx hb hown (hts _ tb_918) dL_law_223 ?_
        refine lv_land hx hb dL_law_226 ?_
        refine lv_lor hx hb dL_law_227 ?_
        refine c_virt (As := [.int (xs ((4 * t) + 1)), .long ((((xs ((4 * t) + 2)).toInt64) <<< ((nI 32).toInt64 &&& 63)) ||| (((xs ((4 * t) + 3)).toInt64) &&& 4294967295))]) (rest := []) (wc := mw Z hq ad cd n wg K F S T D V) (wr := (el Z out 1 r :: (cw Z hc x ++ bl Z hb0 hk hc hm wg mo n o)) ++ (eo hk 1 [.ref hc] :: vs)) (nl := 0) hx hb hml hown hts hK hG rfl hA hl (hM2) hW trivial (hW.at 0 rfl) rfl rfl tb_821 tb_822 tb_823 tb_7 tb_824 (nA := 2) (by decide +kernel) rfl ⟨by omega, by omega⟩ ⟨by omega, by omega⟩ rfl (Nat.le_of_ble_eq_true rfl) dL_law_228 (fun v w1 H1 L1 hp hW hzz hkk hdd => ?_)
        obtain ⟨⟨r0, rfl⟩, rfl⟩ := hp
        clear hzz hkk hdd
        generalize H1 = H at hW ⊢
        generalize L1 = locs at hW ⊢
        refine W.eq (g2 := F0 m 231 ls [.int r0]) rfl ?_
        refine lv_istore (lv' := [(6, .int r0), (5, .int (nI 1)), (0, .ref b), (1, .ref hb0), (2, .ref hq), (3, .ref out), (4, .int (nI (4 * t)))]) hx hb dL_law_231 hl (by decide) rfl (fun ls hl => ?_)
        refine lv_aload_n hx hb dL_law_233 rfl (lv_at hl 4 rfl) ?_
        refine c_virt (As := []) (rest := []) (wc := mw Z hq ad 1 n wg K F S T D V) (wr := (el Z out 1 r :: (cw Z hc x ++ bl Z hb0 hk hc hm wg mo n o)) ++ (eo hk 1 [.ref hc] :: vs)) (nl := 0) hx hb hml hown hts hK hG rfl hA hl (k_thrown l Z hq ad 1 n wg K F S T D V) hW trivial (hW.at 0 rfl) rfl rfl tb_808 tb_809 tb_810 tb_7 tb_811 (nA := 0) (by decide +kernel) rfl ⟨by omega, by omega⟩ ⟨by omega, by omega⟩ rfl (Nat.le_of_ble_eq_true rfl) dL_law_234 (fun v w1 H1 L1 hp hW hzz hkk hdd => ?_)
        obtain ⟨rfl, rfl⟩ := hp
        clear hzz hkk hdd
        generalize H1 = H at hW ⊢
        generalize L1 = locs at hW ⊢
        refine W.eq (g2 := F0 m 237 ls [.int (nI 1)]) rfl ?_
        refine lv_iload hx hb dL_law_237 (lv_at hl 1 rfl) ?_
        refine n_eq_t (tgt := 244) hx hb rfl dL_law_239 (by decide) ?_
        refine lv_iload hx hb dL_law_244 (lv_at hl 1 rfl) ?_
        refine n_zne_t (tgt := 261) hx hb (by decide) (by omega) dL_law_246 (by decide) ?_
        refine lv_goto (tgt := 1052) hx hb dL_law_261 (by decide) ?_
        have hW : Wd Z A s.heap ((el Z out 1 r :: (cw Z hc x ++ bl Z hb0 hk hc hm wg mo n o)) ++ (mw Z hq ad 1 n wg K F S T D V ++ (eo hk 1 [.ref hc] :: vs))) _ _ := Wd.rot (w1 := mw Z hq ad 1 n wg K F S T D V) (wc := el Z out 1 r :: (cw Z hc x ++ bl Z hb0 hk hc hm wg mo n o)) hW
        exact kk _ _ _ _ ls ⟨x, σ, mo, n, wg, o, vd, vb, stb, rw, r, 1, K, F, S, T, D, V, vs, ⟨hvs, fun _ => hJ, by omega, by omega, by omega, by omega, by omega⟩, hW⟩ (lv_sub hl [2, 3, 4, 5, 6] rfl)
      · exact absurd h9.1 (by decide)
    · rcases hp with h9 | ⟨-, hng⟩
      · exact absurd h9.1 (by decide)
      · obtain ⟨w, ⟨h1, h2, e0⟩, hg⟩ := hng
        clear hzz hkk hdd
        generalize H1 = H at hW ⊢
        generalize L1 = locs at hW ⊢
        refine W.eq (g2 := F0 m 197 ls [.int (nI 2)]) rfl ?_
        have hM2 := k_mconstant2 l Z hq ad cd n wg K F S T D V w (((((xs ((4 * t) + 2)).toInt64 <<< ((nI 32).toInt64 &&& 63))) ||| ((xs ((4 * t) + 3)).toInt64 &&& 4294967295))) h1 h2 hn4 hwg hg
        rw [← e0] at hM2
        refine lv_istore (lv' := [(5, .int (nI 2)), (0, .ref b), (1, .ref hb0), (2, .ref hq), (3, .ref out), (4, .int (nI (4 * t)))]) hx hb dL_law_197 hl (by decide) rfl (fun ls hl => ?_)
        have hW : Wd Z A s.heap (mw Z hq ad cd n wg K F S T D V ++ ((el Z out 1 r :: (cw Z hc x ++ bl Z hb0 hk hc hm wg mo n o)) ++ (eo hk 1 [.ref hc] :: vs))) _ _ := Wd.rot hW
        refine lv_aload_n hx hb dL_law_199 rfl (lv_at hl 3 rfl) ?_
        refine lv_aload_n hx hb dL_law_200 rfl (lv_at hl 1 rfl) ?_
        refine lv_iload hx hb dL_law_201 (lv_at hl 5 rfl) ?_
        refine lv_iconst (v := nI 1) hx hb dL_law_203 (by decide) ?_
        refine n_iadd hx hb dL_law_204 ?_
        refine s_ld (i := ((4 * t) + 1)) hx hb hX hbl hbA hW (by omega) (by omega) dL_law_205 ?_
        refine lv_aload_n hx hb dL_law_206 rfl (lv_at hl 1 rfl) ?_
        refine lv_iload hx hb dL_law_207 (lv_at hl 5 rfl) ?_
        refine lv_iconst (v := nI 2) hx hb dL_law_209 (by decide) ?_
        refine n_iadd hx hb dL_law_210 ?_
        refine s_ld (i := ((4 * t) + 2)) hx hb hX hbl hbA hW (by omega) (by omega) dL_law_211 ?_
        refine lv_i2l (v := (xs ((4 * t) + 2)).toInt64) hx hb dL_law_212 rfl ?_
        refine lv_bipush (v := nI 32) hx hb dL_law_213 (by decide) ?_
        refine lv_lshl (v := (((xs ((4 * t) + 2)).toInt64) <<< ((nI 32).toInt64 &&& 63))) hx hb dL_law_215 rfl ?_
        refine lv_aload_n hx hb dL_law_216 rfl (lv_at hl 1 rfl) ?_
        refine lv_iload hx hb dL_law_217 (lv_at hl 5 rfl) ?_
        refine lv_iconst (v := nI 3) hx hb dL_law_219 (by decide) ?_
        refine n_iadd hx hb dL_law_220 ?_
        refine s_ld (i := ((4 * t) + 3)) hx hb hX hbl hbA hW (by omega) (by omega) dL_law_221 ?_
        refine lv_i2l (v := (xs ((4 * t) + 3)).toInt64) hx hb dL_law_222 rfl ?_
        refine lv_ldc2 (v := 4294967295) hx hb hown (hts _ tb_918) dL_law_223 ?_
        refine lv_land hx hb dL_law_226 ?_
        refine lv_lor hx hb dL_law_227 ?_
        refine c_virt (As := [.int (xs ((4 * t) + 1)), .long ((((xs ((4 * t) + 2)).toInt64) <<< ((nI 32).toInt64 &&& 63)) ||| (((xs ((4 * t) + 3)).toInt64) &&& 4294967295))]) (rest := []) (wc := mw Z hq ad cd n wg K F S T D V) (wr := (el Z out 1 r :: (cw Z hc x ++ bl Z hb0 hk hc hm wg mo n o)) ++ (eo hk 1 [.ref hc] :: vs)) (nl := 0) hx hb hml hown hts hK hG rfl hA hl (hM2) hW trivial (hW.at 0 rfl) rfl rfl tb_821 tb_822 tb_823 tb_7 tb_824 (nA := 2) (by decide +kernel) rfl ⟨by omega, by omega⟩ ⟨by omega, by omega⟩ rfl (Nat.le_of_ble_eq_true rfl) dL_law_228 (fun v w1 H1 L1 hp hW hzz hkk hdd => ?_)
        obtain ⟨⟨r0, rfl⟩, rfl⟩ := hp
        clear hzz hkk hdd
        generalize H1 = H at hW ⊢
        generalize L1 = locs at hW ⊢
        refine W.eq (g2 := F0 m 231 ls [.int r0]) rfl ?_
        refine lv_istore (lv' := [(6, .int r0), (5, .int (nI 2)), (0, .ref b), (1, .ref hb0), (2, .ref hq), (3, .ref out), (4, .int (nI (4 * t)))]) hx hb dL_law_231 hl (by decide) rfl (fun ls hl => ?_)
        refine lv_aload_n hx hb dL_law_233 rfl (lv_at hl 4 rfl) ?_
        refine c_virt (As := []) (rest := []) (wc := mw Z hq ad 2 n wg K F S T D V) (wr := (el Z out 1 r :: (cw Z hc x ++ bl Z hb0 hk hc hm wg mo n o)) ++ (eo hk 1 [.ref hc] :: vs)) (nl := 0) hx hb hml hown hts hK hG rfl hA hl (k_thrown l Z hq ad 2 n wg K F S T D V) hW trivial (hW.at 0 rfl) rfl rfl tb_808 tb_809 tb_810 tb_7 tb_811 (nA := 0) (by decide +kernel) rfl ⟨by omega, by omega⟩ ⟨by omega, by omega⟩ rfl (Nat.le_of_ble_eq_true rfl) dL_law_234 (fun v w1 H1 L1 hp hW hzz hkk hdd => ?_)
        obtain ⟨rfl, rfl⟩ := hp
        clear hzz hkk hdd
        generalize H1 = H at hW ⊢
        generalize L1 = locs at hW ⊢
        refine W.eq (g2 := F0 m 237 ls [.int (nI 2)]) rfl ?_
        refine lv_iload hx hb dL_law_237 (lv_at hl 1 rfl) ?_
        refine n_eq_t (tgt := 244) hx hb rfl dL_law_239 (by decide) ?_
        refine lv_iload hx hb dL_law_244 (lv_at hl 1 rfl) ?_
        refine n_zne_t (tgt := 261) hx hb (by decide) (by omega) dL_law_246 (by decide) ?_
        refine lv_goto (tgt := 1052) hx hb dL_law_261 (by decide) ?_
        have hW : Wd Z A s.heap ((el Z out 1 r :: (cw Z hc x ++ bl Z hb0 hk hc hm wg mo n o)) ++ (mw Z hq ad 2 n wg K F S T D V ++ (eo hk 1 [.ref hc] :: vs))) _ _ := Wd.rot (w1 := mw Z hq ad 2 n wg K F S T D V) (wc := el Z out 1 r :: (cw Z hc x ++ bl Z hb0 hk hc hm wg mo n o)) hW
        exact kk _ _ _ _ ls ⟨x, σ, mo, n, wg, o, vd, vb, stb, rw, r, 2, K, F, S, T, D, V, vs, ⟨hvs, fun _ => hJ, by omega, by omega, by omega, by omega, by omega⟩, hW⟩ (lv_sub hl [2, 3, 4, 5, 6] rfl)
set_option maxHeartbeats 4000000 in
set_option maxRecDepth 100000 in
theorem c_one {p : Program} (l : Launch) (hst : l.stackTraces = false) {e : Env} {R : Room} {s : State} {m : MethodId} {below : List Frame} {meth : Method} {c : Code} {b L : Nat} {xs : Nat → Int32} {Z : Zt} {A : Nat → Prop} (C : LC p R s m meth c b L xs Z A) (hL : L ≤ 2048) {Q : State → Prop} {t hb0 hk hc hm out hq : Nat} {ad : MA} (ht : 4 * t + 4 ≤ L)
    (kk : ∀ (H : Heap) (locs : List Loc) (cells slots : Nat) (ls : Array Slot), LE Z A s.heap H locs (t + 1) cells slots hb0 hk hc hm out hq ad → lv_has ls 8 [(0, .ref b), (1, .ref hb0), (2, .ref hq), (3, .ref out), (4, .int (nI (4 * t)))] → W p l e R s m #[Value.ref b] below meth c H locs cells slots Q (F0 m 1052 ls []))
    {H : Heap} {locs : List Loc} {cells slots : Nat} {ls : Array Slot} (hE : LE Z A s.heap H locs t cells slots hb0 hk hc hm out hq ad) (hl : lv_has ls 8 [(0, .ref b), (1, .ref hb0), (2, .ref hq), (3, .ref out), (4, .int (nI (4 * t)))]) : W p l e R s m #[Value.ref b] below meth c H locs cells slots Q (F0 m 264 ls []) := by
  obtain ⟨hx, hb, hml, hown, hts, hX, hbl, hlk, hnc, hK, hG, hA, hbA, hRf, hRc, hRs, hRl⟩ := C
  obtain ⟨x, σ, mo, n, wg, o, vd, vb, stb, rw, r, cd, K, F, S, T, D, V, vs, ⟨hvs, hJ, hnt, hwg, hu, hcl, hsl⟩, hW⟩ := hE
  have hJ := hJ (by omega)
  have hbk := hJ.1
  have hxn := hbk.2.2.2.1
  have hwd := hbk.2.2.2.2.2
  have hD : ∀ i, i < n → D i ≤ 64 := fun i hi => (hwd i hi).2.1
  have hn4 : n < 4000 := by omega
  refine lv_aload_n hx hb dL_law_264 rfl (lv_at hl 1 rfl) ?_
  refine lv_aload_n hx hb dL_law_265 rfl (lv_at hl 0 rfl) ?_
  refine lv_iload hx hb dL_law_266 (lv_at hl 4 rfl) ?_
  refine lv_iconst (v := nI 1) hx hb dL_law_268 (by decide) ?_
  refine n_iadd hx hb dL_law_269 ?_
  refine s_ld (i := ((4 * t) + 1)) hx hb hX hbl hbA hW (by omega) (by omega) dL_law_270 ?_
  refine lv_aload_n hx hb dL_law_271 rfl (lv_at hl 0 rfl) ?_
  refine lv_iload hx hb dL_law_272 (lv_at hl 4 rfl) ?_
  refine lv_iconst (v := nI 2) hx hb dL_law_274 (by decide) ?_
  refine n_iadd hx hb dL_law_275 ?_
  refine s_ld (i := ((4 * t) + 2)) hx hb hX hbl hbA hW (by omega) (by omega) dL_law_276 ?_
  refine lv_aload_n hx hb dL_law_277 rfl (lv_at hl 3 rfl) ?_
  by_cases hgd : ∃ k i, (k ≤ 1 ∧ xs ((4 * t) + 1) = nI k ∧ i < n ∧ xs ((4 * t) + 2) = nI i) ∧ g1 k (D i) + wg ≤ 100000
  · obtain ⟨k, i, ⟨hk1, e0, hi, e1⟩, hg⟩ := hgd
    have hDi := hD i hi
    have c0 : (xs ((4 * t) + 1)).toNatClampNeg = k := by rw [e0]; exact nI_clamp (by omega)
    have c1 : (xs ((4 * t) + 2)).toNatClampNeg = i := by rw [e1]; exact nI_clamp (by omega)
    have hGg : G1 k (D i) ≤ g1 k (D i) := by
      have q1 := (hwd i hi).1
      unfold G1 g1
      split <;> omega
    have hM := k_one l hst Z hb0 hk hc hm x σ mo n wg o vd vb stb D rw (xs ((4 * t) + 1)) (xs ((4 * t) + 2)) hbk
    simp only [c0, c1] at hM
    have hU1 := capU_le (xu x) (xn x + (G1 k (D i)))
    have hU2 := capU_bd (xu x) (xn x + (G1 k (D i)))
    obtain ⟨U, hU⟩ : ∃ U, capU (xu x) (xn x + (G1 k (D i))) = U := ⟨_, rfl⟩
    rw [hU] at hM hU1 hU2
    refine h_stat (As := [.ref hb0, .int (xs ((4 * t) + 1)), .int (xs ((4 * t) + 2)), .ref out]) (rest := []) (wc := el Z out 1 r :: (cw Z hc x ++ bl Z hb0 hk hc hm wg mo n o)) (wr := mw Z hq ad cd n wg K F S T D V ++ (eo hk 1 [.ref hc] :: vs)) hx hb hml hown hts hnc hK hG rfl hA hl (w_one l Z hb0 hk hc hm x mo n wg o vd vb stb D rw (xs ((4 * t) + 1)) (xs ((4 * t) + 2)) out n _ _ r hM (fun v w1 h => by obtain ⟨k', i', ⟨hk1', e0', hi', e1'⟩, hg', ⟨y, nv, q, f, o2, hv, -⟩⟩ := h; exact hv) (by omega) (fun E h => h.elim (fun h => Or.inl h.1) (fun h => Or.inr h.1))) hW (bro_of hW hvs) tb_326 tb_327 tb_0 tb_328 (nA := 4) (by decide +kernel) rfl ⟨by omega, by omega⟩ ⟨by omega, by omega⟩ rfl (Nat.le_of_ble_eq_true rfl) dL_law_278 (fun v w1 H1 L1 hp hW hzz hkk hdd => ?_)
    rcases hp with ⟨rfl, v0, w0, hp, rfl⟩ | ⟨rfl, hp, rfl⟩ | ⟨rfl, hp, rfl⟩
    · obtain ⟨k', i', ⟨hk1', e0', hi', e1'⟩, hg', y, nv, q, f, o2, -, rfl, hs, hfb, hadd, hS⟩ := hp
      have i_k : k = k' := (nI_eq (by omega) (by omega)).mp (e0.symm.trans e0')
      have i_i : i = i' := (nI_eq (by omega) (by omega)).mp (e1.symm.trans e1')
      subst i_k
      subst i_i
      clear hzz hkk hdd
      generalize H1 = H at hW ⊢
      generalize L1 = locs at hW ⊢
      refine W.eq (g2 := F0 m 281 ls [.int (nI 0)]) rfl ?_
      have hM2 := k_mone1 l Z hq ad cd n wg K F S T D V k i hk1 hi hD hn4 hwg hg
      rw [← e0, ← e1] at hM2
      refine lv_istore (lv' := [(5, .int (nI 0)), (0, .ref b), (1, .ref hb0), (2, .ref hq), (3, .ref out), (4, .int (nI (4 * t)))]) hx hb dL_law_281 hl (by decide) rfl (fun ls hl => ?_)
      have hW : Wd Z A s.heap (mw Z hq ad cd n wg K F S T D V ++ ((el Z out 1 (up r 0 n) :: (cw Z hc y ++ [eo nv 2 [.ref q, .int (nI 0)], ea Z q (D i) f] ++ bl Z hb0 hk hc hm (wg + (g1 k (D i))) (mo + nI 1) (n + 1) o2)) ++ (eo hk 1 [.ref hc] :: vs))) _ _ := Wd.rot hW
      refine lv_aload_n hx hb dL_law_283 rfl (lv_at hl 3 rfl) ?_
      refine lv_aload_n hx hb dL_law_284 rfl (lv_at hl 1 rfl) ?_
      refine lv_iload hx hb dL_law_285 (lv_at hl 5 rfl) ?_
      refine lv_iconst (v := nI 1) hx hb dL_law_287 (by decide) ?_
      refine n_iadd hx hb dL_law_288 ?_
      refine s_ld (i := ((4 * t) + 1)) hx hb hX hbl hbA hW (by omega) (by omega) dL_law_289 ?_
      refine lv_aload_n hx hb dL_law_290 rfl (lv_at hl 1 rfl) ?_
      refine lv_iload hx hb dL_law_291 (lv_at hl 5 rfl) ?_
      refine lv_iconst (v := nI 2) hx hb dL_law_293 (by decide) ?_
      refine n_iadd hx hb dL_law_294 ?_
      refine s_ld (i := ((4 * t) + 2)) hx hb hX hbl hbA hW (by omega) (by omega) dL_law_295 ?_
      refine c_virt (As := [.int (xs ((4 * t) + 1)), .int (xs ((4 * t) + 2))]) (rest := []) (wc := mw Z hq ad cd n wg K F S T D V) (wr := (el Z out 1 (up r 0 n) :: (cw Z hc y ++ [eo nv 2 [.ref q, .int (nI 0)], ea Z q (D i) f] ++ bl Z hb0 hk hc hm (wg + (g1 k (D i))) (mo + nI 1) (n + 1) o2)) ++ (eo hk 1 [.ref hc] :: vs)) (nl := 0) hx hb hml hown hts hK hG rfl hA hl (hM2) hW trivial (hW.at 0 rfl) rfl rfl tb_829 tb_830 tb_831 tb_7 tb_832 (nA := 2) (by decide +kernel) rfl ⟨by omega, by omega⟩ ⟨by omega, by omega⟩ rfl (Nat.le_of_ble_eq_true rfl) dL_law_296 (fun v w1 H1 L1 hp hW hzz hkk hdd => ?_)
      obtain ⟨rfl, rfl⟩ := hp
      clear hzz hkk hdd
      generalize H1 = H at hW ⊢
      generalize L1 = locs at hW ⊢
      refine W.eq (g2 := F0 m 299 ls [.int (nI n)]) rfl ?_
      refine lv_istore (lv' := [(6, .int (nI n)), (5, .int (nI 0)), (0, .ref b), (1, .ref hb0), (2, .ref hq), (3, .ref out), (4, .int (nI (4 * t)))]) hx hb dL_law_299 hl (by decide) rfl (fun ls hl => ?_)
      refine lv_aload_n hx hb dL_law_301 rfl (lv_at hl 4 rfl) ?_
      refine c_virt (As := []) (rest := []) (wc := mw Z hq ad 0 (n + 1) (wg + (g1 k (D i))) (up K n (10 + k)) (up F n i) (up S n 0) (up T n 0) (up D n (D i)) (up V n 0)) (wr := (el Z out 1 (up r 0 n) :: (cw Z hc y ++ [eo nv 2 [.ref q, .int (nI 0)], ea Z q (D i) f] ++ bl Z hb0 hk hc hm (wg + (g1 k (D i))) (mo + nI 1) (n + 1) o2)) ++ (eo hk 1 [.ref hc] :: vs)) (nl := 0) hx hb hml hown hts hK hG rfl hA hl (k_thrown l Z hq ad 0 (n + 1) (wg + (g1 k (D i))) (up K n (10 + k)) (up F n i) (up S n 0) (up T n 0) (up D n (D i)) (up V n 0)) hW trivial (hW.at 0 rfl) rfl rfl tb_808 tb_809 tb_810 tb_7 tb_811 (nA := 0) (by decide +kernel) rfl ⟨by omega, by omega⟩ ⟨by omega, by omega⟩ rfl (Nat.le_of_ble_eq_true rfl) dL_law_302 (fun v w1 H1 L1 hp hW hzz hkk hdd => ?_)
      obtain ⟨rfl, rfl⟩ := hp
      clear hzz hkk hdd
      generalize H1 = H at hW ⊢
      generalize L1 = locs at hW ⊢
      refine W.eq (g2 := F0 m 305 ls [.int (nI 0)]) rfl ?_
      refine lv_iload hx hb dL_law_305 (lv_at hl 1 rfl) ?_
      refine n_eq_t (tgt := 312) hx hb rfl dL_law_307 (by decide) ?_
      refine lv_iload hx hb dL_law_312 (lv_at hl 1 rfl) ?_
      refine n_zne_f (tgt := 329) hx hb rfl dL_law_314 (by decide) ?_
      refine lv_aload_n hx hb dL_law_317 rfl (lv_at hl 5 rfl) ?_
      refine lv_iconst (v := nI 0) hx hb dL_law_318 (by decide) ?_
      refine r_lald (i := 0) hx hb hK (hW.at 7 rfl) (by omega) (by omega) dL_law_319 ?_
      refine lv_iload hx hb dL_law_320 (lv_at hl 0 rfl) ?_
      refine lv_i2l (v := (nI n).toInt64) hx hb dL_law_322 rfl ?_
      refine W.lcmp hx hb dL_law_323 ?_
      refine lv_if_eq (tgt := 329) hx hb dL_law_324 (by decide) (fun _ => ?_) (fun q => absurd ((lg_cmp_eq _ _).mpr (by rw [up_s, nI_long (by omega)])) q)
      refine lv_goto (tgt := 1052) hx hb dL_law_329 (by decide) ?_
      have hW : Wd Z A s.heap ((el Z out 1 (up r 0 n) :: (cw Z hc y ++ [eo nv 2 [.ref q, .int (nI 0)], ea Z q (D i) f] ++ bl Z hb0 hk hc hm (wg + (g1 k (D i))) (mo + nI 1) (n + 1) o2)) ++ (mw Z hq ad 0 (n + 1) (wg + (g1 k (D i))) (up K n (10 + k)) (up F n i) (up S n 0) (up T n 0) (up D n (D i)) (up V n 0) ++ (eo hk 1 [.ref hc] :: vs))) _ _ := Wd.rot (w1 := mw Z hq ad 0 (n + 1) (wg + (g1 k (D i))) (up K n (10 + k)) (up F n i) (up S n 0) (up T n 0) (up D n (D i)) (up V n 0)) (wc := el Z out 1 (up r 0 n) :: (cw Z hc y ++ [eo nv 2 [.ref q, .int (nI 0)], ea Z q (D i) f] ++ bl Z hb0 hk hc hm (wg + (g1 k (D i))) (mo + nI 1) (n + 1) o2)) hW
      have hW := Wd.pull hW
      have hsu : xu y = U := hs.2.2.2.trans hU
      have hJ2 := J_one hJ hk1 hi hg hs hfb hadd hS
      exact kk _ _ _ _ ls ⟨y, σ, mo + nI 1, n + 1, wg + (g1 k (D i)), o2, up vd n nv, up vb n q, up stb n 0, up rw n f, up r 0 n, 0, up K n (10 + k), up F n i, up S n 0, up T n 0, up D n (D i), up V n 0, [eo nv 2 [.ref q, .int (nI 0)], ea Z q (D i) f] ++ vs, ⟨vs_new hvs nv q 0 (D i) f, hJ2, by omega, by omega, by omega, by omega, by omega⟩, hW⟩ (lv_sub hl [2, 3, 4, 5, 6] rfl)
    · exact (hp.elim (fun h => h.2 ⟨k, i, hk1, e0, hi, e1⟩) (fun h => absurd h.1 (by decide))).elim
    · rcases hp with h | ⟨-, h⟩
      · exact absurd h.1 (by decide)
      · obtain ⟨k', i', ⟨hk1', e0', hi', e1'⟩, hg'⟩ := h
        have i_k : k = k' := (nI_eq (by omega) (by omega)).mp (e0.symm.trans e0')
        have i_i : i = i' := (nI_eq (by omega) (by omega)).mp (e1.symm.trans e1')
        subst i_k
        subst i_i
        exact absurd hg hg'
  · have hM := k_oneN l hst Z hb0 hk hc hm x σ mo n wg o vd vb stb D rw (xs ((4 * t) + 1)) (xs ((4 * t) + 2)) hbk hgd
    refine h_stat (As := [.ref hb0, .int (xs ((4 * t) + 1)), .int (xs ((4 * t) + 2)), .ref out]) (rest := []) (wc := el Z out 1 r :: (cw Z hc x ++ bl Z hb0 hk hc hm wg mo n o)) (wr := mw Z hq ad cd n wg K F S T D V ++ (eo hk 1 [.ref hc] :: vs)) hx hb hml hown hts hnc hK hG rfl hA hl (w_one l Z hb0 hk hc hm x mo n wg o vd vb stb D rw (xs ((4 * t) + 1)) (xs ((4 * t) + 2)) out 0 _ _ r hM (fun v w1 h => h.elim) (by omega) (fun E h => h.elim (fun h => Or.inl h.1) (fun h => Or.inr h.1))) hW (bro_of hW hvs) tb_326 tb_327 tb_0 tb_328 (nA := 4) (by decide +kernel) rfl ⟨by omega, by omega⟩ ⟨by omega, by omega⟩ rfl (Nat.le_of_ble_eq_true rfl) dL_law_278 (fun v w1 H1 L1 hp hW hzz hkk hdd => ?_)
    rcases hp with ⟨rfl, v0, w0, hp, rfl⟩ | ⟨rfl, hp, rfl⟩ | ⟨rfl, hp, rfl⟩
    · exact hp.elim
    · rcases hp with ⟨-, hng⟩ | h9
      · clear hzz hkk hdd
        generalize H1 = H at hW ⊢
        generalize L1 = locs at hW ⊢
        refine W.eq (g2 := F0 m 281 ls [.int (nI 1)]) rfl ?_
        have hM2 := k_mone0 l Z hq ad cd n wg K F S T D V (xs ((4 * t) + 1)) (xs ((4 * t) + 2)) hng hn4
        refine lv_istore (lv' := [(5, .int (nI 1)), (0, .ref b), (1, .ref hb0), (2, .ref hq), (3, .ref out), (4, .int (nI (4 * t)))]) hx hb dL_law_281 hl (by decide) rfl (fun ls hl => ?_)
        have hW : Wd Z A s.heap (mw Z hq ad cd n wg K F S T D V ++ ((el Z out 1 r :: (cw Z hc x ++ bl Z hb0 hk hc hm wg mo n o)) ++ (eo hk 1 [.ref hc] :: vs))) _ _ := Wd.rot hW
        refine lv_aload_n hx hb dL_law_283 rfl (lv_at hl 3 rfl) ?_
        refine lv_aload_n hx hb dL_law_284 rfl (lv_at hl 1 rfl) ?_
        refine lv_iload hx hb dL_law_285 (lv_at hl 5 rfl) ?_
        refine lv_iconst (v := nI 1) hx hb dL_law_287 (by decide) ?_
        refine n_iadd hx hb dL_law_288 ?_
        refine s_ld (i := ((4 * t) + 1)) hx hb hX hbl hbA hW (by omega) (by omega) dL_law_289 ?_
        refine lv_aload_n hx hb dL_law_290 rfl (lv_at hl 1 rfl) ?_
        refine lv_iload hx hb dL_law_291 (lv_at hl 5 rfl) ?_
        refine lv_iconst (v := nI 2) hx hb dL_law_293 (by decide) ?_
        refine n_iadd hx hb dL_law_294 ?_
        refine s_ld (i := ((4 * t) + 2)) hx hb hX hbl hbA hW (by omega) (by omega) dL_law_295 ?_
        refine c_virt (As := [.int (xs ((4 * t) + 1)), .int (xs ((4 * t) + 2))]) (rest := []) (wc := mw Z hq ad cd n wg K F S T D V) (wr := (el Z out 1 r :: (cw Z hc x ++ bl Z hb0 hk hc hm wg mo n o)) ++ (eo hk 1 [.ref hc] :: vs)) (nl := 0) hx hb hml hown hts hK hG rfl hA hl (hM2) hW trivial (hW.at 0 rfl) rfl rfl tb_829 tb_830 tb_831 tb_7 tb_832 (nA := 2) (by decide +kernel) rfl ⟨by omega, by omega⟩ ⟨by omega, by omega⟩ rfl (Nat.le_of_ble_eq_true rfl) dL_law_296 (fun v w1 H1 L1 hp hW hzz hkk hdd => ?_)
        obtain ⟨⟨r0, rfl⟩, rfl⟩ := hp
        clear hzz hkk hdd
        generalize H1 = H at hW ⊢
        generalize L1 = locs at hW ⊢
        refine W.eq (g2 := F0 m 299 ls [.int r0]) rfl ?_
        refine lv_istore (lv' := [(6, .int r0), (5, .int (nI 1)), (0, .ref b), (1, .ref hb0), (2, .ref hq), (3, .ref out), (4, .int (nI (4 * t)))]) hx hb dL_law_299 hl (by decide) rfl (fun ls hl => ?_)
        refine lv_aload_n hx hb dL_law_301 rfl (lv_at hl 4 rfl) ?_
        refine c_virt (As := []) (rest := []) (wc := mw Z hq ad 1 n wg K F S T D V) (wr := (el Z out 1 r :: (cw Z hc x ++ bl Z hb0 hk hc hm wg mo n o)) ++ (eo hk 1 [.ref hc] :: vs)) (nl := 0) hx hb hml hown hts hK hG rfl hA hl (k_thrown l Z hq ad 1 n wg K F S T D V) hW trivial (hW.at 0 rfl) rfl rfl tb_808 tb_809 tb_810 tb_7 tb_811 (nA := 0) (by decide +kernel) rfl ⟨by omega, by omega⟩ ⟨by omega, by omega⟩ rfl (Nat.le_of_ble_eq_true rfl) dL_law_302 (fun v w1 H1 L1 hp hW hzz hkk hdd => ?_)
        obtain ⟨rfl, rfl⟩ := hp
        clear hzz hkk hdd
        generalize H1 = H at hW ⊢
        generalize L1 = locs at hW ⊢
        refine W.eq (g2 := F0 m 305 ls [.int (nI 1)]) rfl ?_
        refine lv_iload hx hb dL_law_305 (lv_at hl 1 rfl) ?_
        refine n_eq_t (tgt := 312) hx hb rfl dL_law_307 (by decide) ?_
        refine lv_iload hx hb dL_law_312 (lv_at hl 1 rfl) ?_
        refine n_zne_t (tgt := 329) hx hb (by decide) (by omega) dL_law_314 (by decide) ?_
        refine lv_goto (tgt := 1052) hx hb dL_law_329 (by decide) ?_
        have hW : Wd Z A s.heap ((el Z out 1 r :: (cw Z hc x ++ bl Z hb0 hk hc hm wg mo n o)) ++ (mw Z hq ad 1 n wg K F S T D V ++ (eo hk 1 [.ref hc] :: vs))) _ _ := Wd.rot (w1 := mw Z hq ad 1 n wg K F S T D V) (wc := el Z out 1 r :: (cw Z hc x ++ bl Z hb0 hk hc hm wg mo n o)) hW
        exact kk _ _ _ _ ls ⟨x, σ, mo, n, wg, o, vd, vb, stb, rw, r, 1, K, F, S, T, D, V, vs, ⟨hvs, fun _ => hJ, by omega, by omega, by omega, by omega, by omega⟩, hW⟩ (lv_sub hl [2, 3, 4, 5, 6] rfl)
      · exact absurd h9.1 (by decide)
    · rcases hp with h9 | ⟨-, hng⟩
      · exact absurd h9.1 (by decide)
      · obtain ⟨k, i, ⟨hk1, e0, hi, e1⟩, hg⟩ := hng
        clear hzz hkk hdd
        generalize H1 = H at hW ⊢
        generalize L1 = locs at hW ⊢
        refine W.eq (g2 := F0 m 281 ls [.int (nI 2)]) rfl ?_
        have hM2 := k_mone2 l Z hq ad cd n wg K F S T D V k i hk1 hi hD hn4 hwg hg
        rw [← e0, ← e1] at hM2
        refine lv_istore (lv' := [(5, .int (nI 2)), (0, .ref b), (1, .ref hb0), (2, .ref hq), (3, .ref out), (4, .int (nI (4 * t)))]) hx hb dL_law_281 hl (by decide) rfl (fun ls hl => ?_)
        have hW : Wd Z A s.heap (mw Z hq ad cd n wg K F S T D V ++ ((el Z out 1 r :: (cw Z hc x ++ bl Z hb0 hk hc hm wg mo n o)) ++ (eo hk 1 [.ref hc] :: vs))) _ _ := Wd.rot hW
        refine lv_aload_n hx hb dL_law_283 rfl (lv_at hl 3 rfl) ?_
        refine lv_aload_n hx hb dL_law_284 rfl (lv_at hl 1 rfl) ?_
        refine lv_iload hx hb dL_law_285 (lv_at hl 5 rfl) ?_
        refine lv_iconst (v := nI 1) hx hb dL_law_287 (by decide) ?_
        refine n_iadd hx hb dL_law_288 ?_
        refine s_ld (i := ((4 * t) + 1)) hx hb hX hbl hbA hW (by omega) (by omega) dL_law_289 ?_
        refine lv_aload_n hx hb dL_law_290 rfl (lv_at hl 1 rfl) ?_
        refine lv_iload hx hb dL_law_291 (lv_at hl 5 rfl) ?_
        refine lv_iconst (v := nI 2) hx hb dL_law_293 (by decide) ?_
        refine n_iadd hx hb dL_law_294 ?_
        refine s_ld (i := ((4 * t) + 2)) hx hb hX hbl hbA hW (by omega) (by omega) dL_law_295 ?_
        refine c_virt (As := [.int (xs ((4 * t) + 1)), .int (xs ((4 * t) + 2))]) (rest := []) (wc := mw Z hq ad cd n wg K F S T D V) (wr := (el Z out 1 r :: (cw Z hc x ++ bl Z hb0 hk hc hm wg mo n o)) ++ (eo hk 1 [.ref hc] :: vs)) (nl := 0) hx hb hml hown hts hK hG rfl hA hl (hM2) hW trivial (hW.at 0 rfl) rfl rfl tb_829 tb_830 tb_831 tb_7 tb_832 (nA := 2) (by decide +kernel) rfl ⟨by omega, by omega⟩ ⟨by omega, by omega⟩ rfl (Nat.le_of_ble_eq_true rfl) dL_law_296 (fun v w1 H1 L1 hp hW hzz hkk hdd => ?_)
        obtain ⟨⟨r0, rfl⟩, rfl⟩ := hp
        clear hzz hkk hdd
        generalize H1 = H at hW ⊢
        generalize L1 = locs at hW ⊢
        refine W.eq (g2 := F0 m 299 ls [.int r0]) rfl ?_
        refine lv_istore (lv' := [(6, .int r0), (5, .int (nI 2)), (0, .ref b), (1, .ref hb0), (2, .ref hq), (3, .ref out), (4, .int (nI (4 * t)))]) hx hb dL_law_299 hl (by decide) rfl (fun ls hl => ?_)
        refine lv_aload_n hx hb dL_law_301 rfl (lv_at hl 4 rfl) ?_
        refine c_virt (As := []) (rest := []) (wc := mw Z hq ad 2 n wg K F S T D V) (wr := (el Z out 1 r :: (cw Z hc x ++ bl Z hb0 hk hc hm wg mo n o)) ++ (eo hk 1 [.ref hc] :: vs)) (nl := 0) hx hb hml hown hts hK hG rfl hA hl (k_thrown l Z hq ad 2 n wg K F S T D V) hW trivial (hW.at 0 rfl) rfl rfl tb_808 tb_809 tb_810 tb_7 tb_811 (nA := 0) (by decide +kernel) rfl ⟨by omega, by omega⟩ ⟨by omega, by omega⟩ rfl (Nat.le_of_ble_eq_true rfl) dL_law_302 (fun v w1 H1 L1 hp hW hzz hkk hdd => ?_)
        obtain ⟨rfl, rfl⟩ := hp
        clear hzz hkk hdd
        generalize H1 = H at hW ⊢
        generalize L1 = locs at hW ⊢
        refine W.eq (g2 := F0 m 305 ls [.int (nI 2)]) rfl ?_
        refine lv_iload hx hb dL_law_305 (lv_at hl 1 rfl) ?_
        refine n_eq_t (tgt := 312) hx hb rfl dL_law_307 (by decide) ?_
        refine lv_iload hx hb dL_law_312 (lv_at hl 1 rfl) ?_
        refine n_zne_t (tgt := 329) hx hb (by decide) (by omega) dL_law_314 (by decide) ?_
        refine lv_goto (tgt := 1052) hx hb dL_law_329 (by decide) ?_
        have hW : Wd Z A s.heap ((el Z out 1 r :: (cw Z hc x ++ bl Z hb0 hk hc hm wg mo n o)) ++ (mw Z hq ad 2 n wg K F S T D V ++ (eo hk 1 [.ref hc] :: vs))) _ _ := Wd.rot (w1 := mw Z hq ad 2 n wg K F S T D V) (wc := el Z out 1 r :: (cw Z hc x ++ bl Z hb0 hk hc hm wg mo n o)) hW
        exact kk _ _ _ _ ls ⟨x, σ, mo, n, wg, o, vd, vb, stb, rw, r, 2, K, F, S, T, D, V, vs, ⟨hvs, fun _ => hJ, by omega, by omega, by omega, by omega, by omega⟩, hW⟩ (lv_sub hl [2, 3, 4, 5, 6] rfl)
set_option maxHeartbeats 4000000 in
set_option maxRecDepth 100000 in
theorem c_two {p : Program} (l : Launch) (hst : l.stackTraces = false) {e : Env} {R : Room} {s : State} {m : MethodId} {below : List Frame} {meth : Method} {c : Code} {b L : Nat} {xs : Nat → Int32} {Z : Zt} {A : Nat → Prop} (C : LC p R s m meth c b L xs Z A) (hL : L ≤ 2048) {Q : State → Prop} {t hb0 hk hc hm out hq : Nat} {ad : MA} (ht : 4 * t + 4 ≤ L)
    (kk : ∀ (H : Heap) (locs : List Loc) (cells slots : Nat) (ls : Array Slot), LE Z A s.heap H locs (t + 1) cells slots hb0 hk hc hm out hq ad → lv_has ls 8 [(0, .ref b), (1, .ref hb0), (2, .ref hq), (3, .ref out), (4, .int (nI (4 * t)))] → W p l e R s m #[Value.ref b] below meth c H locs cells slots Q (F0 m 1052 ls []))
    {H : Heap} {locs : List Loc} {cells slots : Nat} {ls : Array Slot} (hE : LE Z A s.heap H locs t cells slots hb0 hk hc hm out hq ad) (hl : lv_has ls 8 [(0, .ref b), (1, .ref hb0), (2, .ref hq), (3, .ref out), (4, .int (nI (4 * t)))]) : W p l e R s m #[Value.ref b] below meth c H locs cells slots Q (F0 m 332 ls []) := by
  obtain ⟨hx, hb, hml, hown, hts, hX, hbl, hlk, hnc, hK, hG, hA, hbA, hRf, hRc, hRs, hRl⟩ := C
  obtain ⟨x, σ, mo, n, wg, o, vd, vb, stb, rw, r, cd, K, F, S, T, D, V, vs, ⟨hvs, hJ, hnt, hwg, hu, hcl, hsl⟩, hW⟩ := hE
  have hJ := hJ (by omega)
  have hbk := hJ.1
  have hxn := hbk.2.2.2.1
  have hwd := hbk.2.2.2.2.2
  have hD : ∀ i, i < n → D i ≤ 64 := fun i hi => (hwd i hi).2.1
  have hn4 : n < 4000 := by omega
  refine lv_aload_n hx hb dL_law_332 rfl (lv_at hl 1 rfl) ?_
  refine lv_aload_n hx hb dL_law_333 rfl (lv_at hl 0 rfl) ?_
  refine lv_iload hx hb dL_law_334 (lv_at hl 4 rfl) ?_
  refine lv_iconst (v := nI 1) hx hb dL_law_336 (by decide) ?_
  refine n_iadd hx hb dL_law_337 ?_
  refine s_ld (i := ((4 * t) + 1)) hx hb hX hbl hbA hW (by omega) (by omega) dL_law_338 ?_
  refine lv_aload_n hx hb dL_law_339 rfl (lv_at hl 0 rfl) ?_
  refine lv_iload hx hb dL_law_340 (lv_at hl 4 rfl) ?_
  refine lv_iconst (v := nI 2) hx hb dL_law_342 (by decide) ?_
  refine n_iadd hx hb dL_law_343 ?_
  refine s_ld (i := ((4 * t) + 2)) hx hb hX hbl hbA hW (by omega) (by omega) dL_law_344 ?_
  refine lv_aload_n hx hb dL_law_345 rfl (lv_at hl 0 rfl) ?_
  refine lv_iload hx hb dL_law_346 (lv_at hl 4 rfl) ?_
  refine lv_iconst (v := nI 3) hx hb dL_law_348 (by decide) ?_
  refine n_iadd hx hb dL_law_349 ?_
  refine s_ld (i := ((4 * t) + 3)) hx hb hX hbl hbA hW (by omega) (by omega) dL_law_350 ?_
  refine lv_aload_n hx hb dL_law_351 rfl (lv_at hl 3 rfl) ?_
  by_cases hgd : ∃ k i j, k ≤ 12 ∧ xs ((4 * t) + 1) = nI k ∧ i < n ∧ j < n ∧ xs ((4 * t) + 2) = nI i ∧ xs ((4 * t) + 3) = nI j ∧ D i = D j ∧ wt2 k (D i) + wg ≤ 100000
  · obtain ⟨k, i, j, hk1, e0, hi, hj, e1, e2, hij, hg⟩ := hgd
    have hDi := hD i hi
    have hDj := hD j hj
    have c0 : (xs ((4 * t) + 1)).toNatClampNeg = k := by rw [e0]; exact nI_clamp (by omega)
    have c1 : (xs ((4 * t) + 2)).toNatClampNeg = i := by rw [e1]; exact nI_clamp (by omega)
    have hGg : G2 k (D i) ≤ wt2 k (D i) := G2_wt k (by omega) (D i) (by have := hD i hi; omega) (hwd i hi).1
    have hsw : sl2 k (D i) ≤ 17 * wt2 k (D i) + 10 := sl2_wt k (by omega) (D i) (by have := hD i hi; omega) (hwd i hi).1
    have hM := k_two l hst Z hb0 hk hc hm x σ mo n wg o vd vb stb D rw (xs ((4 * t) + 1)) (xs ((4 * t) + 2)) (xs ((4 * t) + 3)) hbk
    simp only [c0, c1] at hM
    have hU1 := capU_le (xu x) (xn x + (G2 k (D i)))
    have hU2 := capU_bd (xu x) (xn x + (G2 k (D i)))
    obtain ⟨U, hU⟩ : ∃ U, capU (xu x) (xn x + (G2 k (D i))) = U := ⟨_, rfl⟩
    rw [hU] at hM hU1 hU2
    refine h_stat (As := [.ref hb0, .int (xs ((4 * t) + 1)), .int (xs ((4 * t) + 2)), .int (xs ((4 * t) + 3)), .ref out]) (rest := []) (wc := el Z out 1 r :: (cw Z hc x ++ bl Z hb0 hk hc hm wg mo n o)) (wr := mw Z hq ad cd n wg K F S T D V ++ (eo hk 1 [.ref hc] :: vs)) hx hb hml hown hts hnc hK hG rfl hA hl (w_two l Z hb0 hk hc hm x mo n wg o vd vb stb D rw (xs ((4 * t) + 1)) (xs ((4 * t) + 2)) (xs ((4 * t) + 3)) out n _ _ r hM (fun v w1 h => by obtain ⟨k', i', j', hk1', e0', hi', hj', e1', e2', hij', hg', ⟨y, nv, q, f, o2, hv, -⟩⟩ := h; exact hv) (by omega) (fun E h => h.elim (fun h => Or.inl h.1) (fun h => Or.inr h.1))) hW (bro_of hW hvs) tb_389 tb_390 tb_0 tb_391 (nA := 5) (by decide +kernel) rfl ⟨by omega, by omega⟩ ⟨by omega, by omega⟩ rfl (Nat.le_of_ble_eq_true rfl) dL_law_352 (fun v w1 H1 L1 hp hW hzz hkk hdd => ?_)
    rcases hp with ⟨rfl, v0, w0, hp, rfl⟩ | ⟨rfl, hp, rfl⟩ | ⟨rfl, hp, rfl⟩
    · obtain ⟨k', i', j', hk1', e0', hi', hj', e1', e2', hij', hg', y, nv, q, f, o2, -, rfl, hs, hfb, hadd, hS⟩ := hp
      have i_k : k = k' := (nI_eq (by omega) (by omega)).mp (e0.symm.trans e0')
      have i_i : i = i' := (nI_eq (by omega) (by omega)).mp (e1.symm.trans e1')
      have i_j : j = j' := (nI_eq (by omega) (by omega)).mp (e2.symm.trans e2')
      subst i_k
      subst i_i
      subst i_j
      clear hzz hkk hdd
      generalize H1 = H at hW ⊢
      generalize L1 = locs at hW ⊢
      refine W.eq (g2 := F0 m 355 ls [.int (nI 0)]) rfl ?_
      have hM2 := k_mtwo1 l Z hq ad cd n wg K F S T D V k i j hk1 hi hj hij hD hn4 hwg hg
      rw [← e0, ← e1, ← e2] at hM2
      refine lv_istore (lv' := [(5, .int (nI 0)), (0, .ref b), (1, .ref hb0), (2, .ref hq), (3, .ref out), (4, .int (nI (4 * t)))]) hx hb dL_law_355 hl (by decide) rfl (fun ls hl => ?_)
      have hW : Wd Z A s.heap (mw Z hq ad cd n wg K F S T D V ++ ((el Z out 1 (up r 0 n) :: (cw Z hc y ++ [eo nv 2 [.ref q, .int (nI 0)], ea Z q (D i) f] ++ bl Z hb0 hk hc hm (wg + (wt2 k (D i))) (mo + nI 1) (n + 1) o2)) ++ (eo hk 1 [.ref hc] :: vs))) _ _ := Wd.rot hW
      refine lv_aload_n hx hb dL_law_357 rfl (lv_at hl 3 rfl) ?_
      refine lv_aload_n hx hb dL_law_358 rfl (lv_at hl 1 rfl) ?_
      refine lv_iload hx hb dL_law_359 (lv_at hl 5 rfl) ?_
      refine lv_iconst (v := nI 1) hx hb dL_law_361 (by decide) ?_
      refine n_iadd hx hb dL_law_362 ?_
      refine s_ld (i := ((4 * t) + 1)) hx hb hX hbl hbA hW (by omega) (by omega) dL_law_363 ?_
      refine lv_aload_n hx hb dL_law_364 rfl (lv_at hl 1 rfl) ?_
      refine lv_iload hx hb dL_law_365 (lv_at hl 5 rfl) ?_
      refine lv_iconst (v := nI 2) hx hb dL_law_367 (by decide) ?_
      refine n_iadd hx hb dL_law_368 ?_
      refine s_ld (i := ((4 * t) + 2)) hx hb hX hbl hbA hW (by omega) (by omega) dL_law_369 ?_
      refine lv_aload_n hx hb dL_law_370 rfl (lv_at hl 1 rfl) ?_
      refine lv_iload hx hb dL_law_371 (lv_at hl 5 rfl) ?_
      refine lv_iconst (v := nI 3) hx hb dL_law_373 (by decide) ?_
      refine n_iadd hx hb dL_law_374 ?_
      refine s_ld (i := ((4 * t) + 3)) hx hb hX hbl hbA hW (by omega) (by omega) dL_law_375 ?_
      refine c_virt (As := [.int (xs ((4 * t) + 1)), .int (xs ((4 * t) + 2)), .int (xs ((4 * t) + 3))]) (rest := []) (wc := mw Z hq ad cd n wg K F S T D V) (wr := (el Z out 1 (up r 0 n) :: (cw Z hc y ++ [eo nv 2 [.ref q, .int (nI 0)], ea Z q (D i) f] ++ bl Z hb0 hk hc hm (wg + (wt2 k (D i))) (mo + nI 1) (n + 1) o2)) ++ (eo hk 1 [.ref hc] :: vs)) (nl := 0) hx hb hml hown hts hK hG rfl hA hl (hM2) hW trivial (hW.at 0 rfl) rfl rfl tb_837 tb_838 tb_839 tb_7 tb_840 (nA := 3) (by decide +kernel) rfl ⟨by omega, by omega⟩ ⟨by omega, by omega⟩ rfl (Nat.le_of_ble_eq_true rfl) dL_law_376 (fun v w1 H1 L1 hp hW hzz hkk hdd => ?_)
      obtain ⟨rfl, rfl⟩ := hp
      clear hzz hkk hdd
      generalize H1 = H at hW ⊢
      generalize L1 = locs at hW ⊢
      refine W.eq (g2 := F0 m 379 ls [.int (nI n)]) rfl ?_
      refine lv_istore (lv' := [(6, .int (nI n)), (5, .int (nI 0)), (0, .ref b), (1, .ref hb0), (2, .ref hq), (3, .ref out), (4, .int (nI (4 * t)))]) hx hb dL_law_379 hl (by decide) rfl (fun ls hl => ?_)
      refine lv_aload_n hx hb dL_law_381 rfl (lv_at hl 4 rfl) ?_
      refine c_virt (As := []) (rest := []) (wc := mw Z hq ad 0 (n + 1) (wg + (wt2 k (D i))) (up K n (20 + k)) (up F n i) (up S n j) (up T n 0) (up D n (D i)) (up V n 0)) (wr := (el Z out 1 (up r 0 n) :: (cw Z hc y ++ [eo nv 2 [.ref q, .int (nI 0)], ea Z q (D i) f] ++ bl Z hb0 hk hc hm (wg + (wt2 k (D i))) (mo + nI 1) (n + 1) o2)) ++ (eo hk 1 [.ref hc] :: vs)) (nl := 0) hx hb hml hown hts hK hG rfl hA hl (k_thrown l Z hq ad 0 (n + 1) (wg + (wt2 k (D i))) (up K n (20 + k)) (up F n i) (up S n j) (up T n 0) (up D n (D i)) (up V n 0)) hW trivial (hW.at 0 rfl) rfl rfl tb_808 tb_809 tb_810 tb_7 tb_811 (nA := 0) (by decide +kernel) rfl ⟨by omega, by omega⟩ ⟨by omega, by omega⟩ rfl (Nat.le_of_ble_eq_true rfl) dL_law_382 (fun v w1 H1 L1 hp hW hzz hkk hdd => ?_)
      obtain ⟨rfl, rfl⟩ := hp
      clear hzz hkk hdd
      generalize H1 = H at hW ⊢
      generalize L1 = locs at hW ⊢
      refine W.eq (g2 := F0 m 385 ls [.int (nI 0)]) rfl ?_
      refine lv_iload hx hb dL_law_385 (lv_at hl 1 rfl) ?_
      refine n_eq_t (tgt := 392) hx hb rfl dL_law_387 (by decide) ?_
      refine lv_iload hx hb dL_law_392 (lv_at hl 1 rfl) ?_
      refine n_zne_f (tgt := 409) hx hb rfl dL_law_394 (by decide) ?_
      refine lv_aload_n hx hb dL_law_397 rfl (lv_at hl 5 rfl) ?_
      refine lv_iconst (v := nI 0) hx hb dL_law_398 (by decide) ?_
      refine r_lald (i := 0) hx hb hK (hW.at 7 rfl) (by omega) (by omega) dL_law_399 ?_
      refine lv_iload hx hb dL_law_400 (lv_at hl 0 rfl) ?_
      refine lv_i2l (v := (nI n).toInt64) hx hb dL_law_402 rfl ?_
      refine W.lcmp hx hb dL_law_403 ?_
      refine lv_if_eq (tgt := 409) hx hb dL_law_404 (by decide) (fun _ => ?_) (fun q => absurd ((lg_cmp_eq _ _).mpr (by rw [up_s, nI_long (by omega)])) q)
      refine lv_goto (tgt := 1052) hx hb dL_law_409 (by decide) ?_
      have hW : Wd Z A s.heap ((el Z out 1 (up r 0 n) :: (cw Z hc y ++ [eo nv 2 [.ref q, .int (nI 0)], ea Z q (D i) f] ++ bl Z hb0 hk hc hm (wg + (wt2 k (D i))) (mo + nI 1) (n + 1) o2)) ++ (mw Z hq ad 0 (n + 1) (wg + (wt2 k (D i))) (up K n (20 + k)) (up F n i) (up S n j) (up T n 0) (up D n (D i)) (up V n 0) ++ (eo hk 1 [.ref hc] :: vs))) _ _ := Wd.rot (w1 := mw Z hq ad 0 (n + 1) (wg + (wt2 k (D i))) (up K n (20 + k)) (up F n i) (up S n j) (up T n 0) (up D n (D i)) (up V n 0)) (wc := el Z out 1 (up r 0 n) :: (cw Z hc y ++ [eo nv 2 [.ref q, .int (nI 0)], ea Z q (D i) f] ++ bl Z hb0 hk hc hm (wg + (wt2 k (D i))) (mo + nI 1) (n + 1) o2)) hW
      have hW := Wd.pull hW
      have hsu : xu y = U := hs.2.2.2.trans hU
      have hJ2 := J_two hJ hk1 hi hj hij hg hs hfb hadd hS
      exact kk _ _ _ _ ls ⟨y, σ, mo + nI 1, n + 1, wg + (wt2 k (D i)), o2, up vd n nv, up vb n q, up stb n 0, up rw n f, up r 0 n, 0, up K n (20 + k), up F n i, up S n j, up T n 0, up D n (D i), up V n 0, [eo nv 2 [.ref q, .int (nI 0)], ea Z q (D i) f] ++ vs, ⟨vs_new hvs nv q 0 (D i) f, hJ2, by omega, by omega, by omega, by omega, by omega⟩, hW⟩ (lv_sub hl [2, 3, 4, 5, 6] rfl)
    · exact (hp.elim (fun h => h.2 ⟨⟨k, hk1, e0⟩, i, j, hi, hj, e1, e2, hij⟩) (fun h => absurd h.1 (by decide))).elim
    · rcases hp with h | ⟨-, h⟩
      · exact absurd h.1 (by decide)
      · obtain ⟨k', i', j', hk1', e0', hi', hj', e1', e2', hij', hg'⟩ := h
        have i_k : k = k' := (nI_eq (by omega) (by omega)).mp (e0.symm.trans e0')
        have i_i : i = i' := (nI_eq (by omega) (by omega)).mp (e1.symm.trans e1')
        have i_j : j = j' := (nI_eq (by omega) (by omega)).mp (e2.symm.trans e2')
        subst i_k
        subst i_i
        subst i_j
        exact absurd hg hg'
  · have hM := k_twoN l hst Z hb0 hk hc hm x σ mo n wg o vd vb stb D rw (xs ((4 * t) + 1)) (xs ((4 * t) + 2)) (xs ((4 * t) + 3)) hbk hgd
    refine h_stat (As := [.ref hb0, .int (xs ((4 * t) + 1)), .int (xs ((4 * t) + 2)), .int (xs ((4 * t) + 3)), .ref out]) (rest := []) (wc := el Z out 1 r :: (cw Z hc x ++ bl Z hb0 hk hc hm wg mo n o)) (wr := mw Z hq ad cd n wg K F S T D V ++ (eo hk 1 [.ref hc] :: vs)) hx hb hml hown hts hnc hK hG rfl hA hl (w_two l Z hb0 hk hc hm x mo n wg o vd vb stb D rw (xs ((4 * t) + 1)) (xs ((4 * t) + 2)) (xs ((4 * t) + 3)) out 0 _ _ r hM (fun v w1 h => h.elim) (by omega) (fun E h => h.elim (fun h => Or.inl h.1) (fun h => Or.inr h.1))) hW (bro_of hW hvs) tb_389 tb_390 tb_0 tb_391 (nA := 5) (by decide +kernel) rfl ⟨by omega, by omega⟩ ⟨by omega, by omega⟩ rfl (Nat.le_of_ble_eq_true rfl) dL_law_352 (fun v w1 H1 L1 hp hW hzz hkk hdd => ?_)
    rcases hp with ⟨rfl, v0, w0, hp, rfl⟩ | ⟨rfl, hp, rfl⟩ | ⟨rfl, hp, rfl⟩
    · exact hp.elim
    · rcases hp with ⟨-, hng⟩ | h9
      · clear hzz hkk hdd
        generalize H1 = H at hW ⊢
        generalize L1 = locs at hW ⊢
        refine W.eq (g2 := F0 m 355 ls [.int (nI 1)]) rfl ?_
        have hM2 := k_mtwo0 l Z hq ad cd n wg K F S T D V (xs ((4 * t) + 1)) (xs ((4 * t) + 2)) (xs ((4 * t) + 3)) hng hD hn4
        refine lv_istore (lv' := [(5, .int (nI 1)), (0, .ref b), (1, .ref hb0), (2, .ref hq), (3, .ref out), (4, .int (nI (4 * t)))]) hx hb dL_law_355 hl (by decide) rfl (fun ls hl => ?_)
        have hW : Wd Z A s.heap (mw Z hq ad cd n wg K F S T D V ++ ((el Z out 1 r :: (cw Z hc x ++ bl Z hb0 hk hc hm wg mo n o)) ++ (eo hk 1 [.ref hc] :: vs))) _ _ := Wd.rot hW
        refine lv_aload_n hx hb dL_law_357 rfl (lv_at hl 3 rfl) ?_
        refine lv_aload_n hx hb dL_law_358 rfl (lv_at hl 1 rfl) ?_
        refine lv_iload hx hb dL_law_359 (lv_at hl 5 rfl) ?_
        refine lv_iconst (v := nI 1) hx hb dL_law_361 (by decide) ?_
        refine n_iadd hx hb dL_law_362 ?_
        refine s_ld (i := ((4 * t) + 1)) hx hb hX hbl hbA hW (by omega) (by omega) dL_law_363 ?_
        refine lv_aload_n hx hb dL_law_364 rfl (lv_at hl 1 rfl) ?_
        refine lv_iload hx hb dL_law_365 (lv_at hl 5 rfl) ?_
        refine lv_iconst (v := nI 2) hx hb dL_law_367 (by decide) ?_
        refine n_iadd hx hb dL_law_368 ?_
        refine s_ld (i := ((4 * t) + 2)) hx hb hX hbl hbA hW (by omega) (by omega) dL_law_369 ?_
        refine lv_aload_n hx hb dL_law_370 rfl (lv_at hl 1 rfl) ?_
        refine lv_iload hx hb dL_law_371 (lv_at hl 5 rfl) ?_
        refine lv_iconst (v := nI 3) hx hb dL_law_373 (by decide) ?_
        refine n_iadd hx hb dL_law_374 ?_
        refine s_ld (i := ((4 * t) + 3)) hx hb hX hbl hbA hW (by omega) (by omega) dL_law_375 ?_
        refine c_virt (As := [.int (xs ((4 * t) + 1)), .int (xs ((4 * t) + 2)), .int (xs ((4 * t) + 3))]) (rest := []) (wc := mw Z hq ad cd n wg K F S T D V) (wr := (el Z out 1 r :: (cw Z hc x ++ bl Z hb0 hk hc hm wg mo n o)) ++ (eo hk 1 [.ref hc] :: vs)) (nl := 0) hx hb hml hown hts hK hG rfl hA hl (hM2) hW trivial (hW.at 0 rfl) rfl rfl tb_837 tb_838 tb_839 tb_7 tb_840 (nA := 3) (by decide +kernel) rfl ⟨by omega, by omega⟩ ⟨by omega, by omega⟩ rfl (Nat.le_of_ble_eq_true rfl) dL_law_376 (fun v w1 H1 L1 hp hW hzz hkk hdd => ?_)
        obtain ⟨⟨r0, rfl⟩, rfl⟩ := hp
        clear hzz hkk hdd
        generalize H1 = H at hW ⊢
        generalize L1 = locs at hW ⊢
        refine W.eq (g2 := F0 m 379 ls [.int r0]) rfl ?_
        refine lv_istore (lv' := [(6, .int r0), (5, .int (nI 1)), (0, .ref b), (1, .ref hb0), (2, .ref hq), (3, .ref out), (4, .int (nI (4 * t)))]) hx hb dL_law_379 hl (by decide) rfl (fun ls hl => ?_)
        refine lv_aload_n hx hb dL_law_381 rfl (lv_at hl 4 rfl) ?_
        refine c_virt (As := []) (rest := []) (wc := mw Z hq ad 1 n wg K F S T D V) (wr := (el Z out 1 r :: (cw Z hc x ++ bl Z hb0 hk hc hm wg mo n o)) ++ (eo hk 1 [.ref hc] :: vs)) (nl := 0) hx hb hml hown hts hK hG rfl hA hl (k_thrown l Z hq ad 1 n wg K F S T D V) hW trivial (hW.at 0 rfl) rfl rfl tb_808 tb_809 tb_810 tb_7 tb_811 (nA := 0) (by decide +kernel) rfl ⟨by omega, by omega⟩ ⟨by omega, by omega⟩ rfl (Nat.le_of_ble_eq_true rfl) dL_law_382 (fun v w1 H1 L1 hp hW hzz hkk hdd => ?_)
        obtain ⟨rfl, rfl⟩ := hp
        clear hzz hkk hdd
        generalize H1 = H at hW ⊢
        generalize L1 = locs at hW ⊢
        refine W.eq (g2 := F0 m 385 ls [.int (nI 1)]) rfl ?_
        refine lv_iload hx hb dL_law_385 (lv_at hl 1 rfl) ?_
        refine n_eq_t (tgt := 392) hx hb rfl dL_law_387 (by decide) ?_
        refine lv_iload hx hb dL_law_392 (lv_at hl 1 rfl) ?_
        refine n_zne_t (tgt := 409) hx hb (by decide) (by omega) dL_law_394 (by decide) ?_
        refine lv_goto (tgt := 1052) hx hb dL_law_409 (by decide) ?_
        have hW : Wd Z A s.heap ((el Z out 1 r :: (cw Z hc x ++ bl Z hb0 hk hc hm wg mo n o)) ++ (mw Z hq ad 1 n wg K F S T D V ++ (eo hk 1 [.ref hc] :: vs))) _ _ := Wd.rot (w1 := mw Z hq ad 1 n wg K F S T D V) (wc := el Z out 1 r :: (cw Z hc x ++ bl Z hb0 hk hc hm wg mo n o)) hW
        exact kk _ _ _ _ ls ⟨x, σ, mo, n, wg, o, vd, vb, stb, rw, r, 1, K, F, S, T, D, V, vs, ⟨hvs, fun _ => hJ, by omega, by omega, by omega, by omega, by omega⟩, hW⟩ (lv_sub hl [2, 3, 4, 5, 6] rfl)
      · exact absurd h9.1 (by decide)
    · rcases hp with h9 | ⟨-, hng⟩
      · exact absurd h9.1 (by decide)
      · obtain ⟨k, i, j, hk1, e0, hi, hj, e1, e2, hij, hg⟩ := hng
        clear hzz hkk hdd
        generalize H1 = H at hW ⊢
        generalize L1 = locs at hW ⊢
        refine W.eq (g2 := F0 m 355 ls [.int (nI 2)]) rfl ?_
        have hM2 := k_mtwo2 l Z hq ad cd n wg K F S T D V k i j hk1 hi hj hij hD hn4 hwg hg
        rw [← e0, ← e1, ← e2] at hM2
        refine lv_istore (lv' := [(5, .int (nI 2)), (0, .ref b), (1, .ref hb0), (2, .ref hq), (3, .ref out), (4, .int (nI (4 * t)))]) hx hb dL_law_355 hl (by decide) rfl (fun ls hl => ?_)
        have hW : Wd Z A s.heap (mw Z hq ad cd n wg K F S T D V ++ ((el Z out 1 r :: (cw Z hc x ++ bl Z hb0 hk hc hm wg mo n o)) ++ (eo hk 1 [.ref hc] :: vs))) _ _ := Wd.rot hW
        refine lv_aload_n hx hb dL_law_357 rfl (lv_at hl 3 rfl) ?_
        refine lv_aload_n hx hb dL_law_358 rfl (lv_at hl 1 rfl) ?_
        refine lv_iload hx hb dL_law_359 (lv_at hl 5 rfl) ?_
        refine lv_iconst (v := nI 1) hx hb dL_law_361 (by decide) ?_
        refine n_iadd hx hb dL_law_362 ?_
        refine s_ld (i := ((4 * t) + 1)) hx hb hX hbl hbA hW (by omega) (by omega) dL_law_363 ?_
        refine lv_aload_n hx hb dL_law_364 rfl (lv_at hl 1 rfl) ?_
        refine lv_iload hx hb dL_law_365 (lv_at hl 5 rfl) ?_
        refine lv_iconst (v := nI 2) hx hb dL_law_367 (by decide) ?_
        refine n_iadd hx hb dL_law_368 ?_
        refine s_ld (i := ((4 * t) + 2)) hx hb hX hbl hbA hW (by omega) (by omega) dL_law_369 ?_
        refine lv_aload_n hx hb dL_law_370 rfl (lv_at hl 1 rfl) ?_
        refine lv_iload hx hb dL_law_371 (lv_at hl 5 rfl) ?_
        refine lv_iconst (v := nI 3) hx hb dL_law_373 (by decide) ?_
        refine n_iadd hx hb dL_law_374 ?_
        refine s_ld (i := ((4 * t) + 3)) hx hb hX hbl hbA hW (by omega) (by omega) dL_law_375 ?_
        refine c_virt (As := [.int (xs ((4 * t) + 1)), .int (xs ((4 * t) + 2)), .int (xs ((4 * t) + 3))]) (rest := []) (wc := mw Z hq ad cd n wg K F S T D V) (wr := (el Z out 1 r :: (cw Z hc x ++ bl Z hb0 hk hc hm wg mo n o)) ++ (eo hk 1 [.ref hc] :: vs)) (nl := 0) hx hb hml hown hts hK hG rfl hA hl (hM2) hW trivial (hW.at 0 rfl) rfl rfl tb_837 tb_838 tb_839 tb_7 tb_840 (nA := 3) (by decide +kernel) rfl ⟨by omega, by omega⟩ ⟨by omega, by omega⟩ rfl (Nat.le_of_ble_eq_true rfl) dL_law_376 (fun v w1 H1 L1 hp hW hzz hkk hdd => ?_)
        obtain ⟨⟨r0, rfl⟩, rfl⟩ := hp
        clear hzz hkk hdd
        generalize H1 = H at hW ⊢
        generalize L1 = locs at hW ⊢
        refine W.eq (g2 := F0 m 379 ls [.int r0]) rfl ?_
        refine lv_istore (lv' := [(6, .int r0), (5, .int (nI 2)), (0, .ref b), (1, .ref hb0), (2, .ref hq), (3, .ref out), (4, .int (nI (4 * t)))]) hx hb dL_law_379 hl (by decide) rfl (fun ls hl => ?_)
        refine lv_aload_n hx hb dL_law_381 rfl (lv_at hl 4 rfl) ?_
        refine c_virt (As := []) (rest := []) (wc := mw Z hq ad 2 n wg K F S T D V) (wr := (el Z out 1 r :: (cw Z hc x ++ bl Z hb0 hk hc hm wg mo n o)) ++ (eo hk 1 [.ref hc] :: vs)) (nl := 0) hx hb hml hown hts hK hG rfl hA hl (k_thrown l Z hq ad 2 n wg K F S T D V) hW trivial (hW.at 0 rfl) rfl rfl tb_808 tb_809 tb_810 tb_7 tb_811 (nA := 0) (by decide +kernel) rfl ⟨by omega, by omega⟩ ⟨by omega, by omega⟩ rfl (Nat.le_of_ble_eq_true rfl) dL_law_382 (fun v w1 H1 L1 hp hW hzz hkk hdd => ?_)
        obtain ⟨rfl, rfl⟩ := hp
        clear hzz hkk hdd
        generalize H1 = H at hW ⊢
        generalize L1 = locs at hW ⊢
        refine W.eq (g2 := F0 m 385 ls [.int (nI 2)]) rfl ?_
        refine lv_iload hx hb dL_law_385 (lv_at hl 1 rfl) ?_
        refine n_eq_t (tgt := 392) hx hb rfl dL_law_387 (by decide) ?_
        refine lv_iload hx hb dL_law_392 (lv_at hl 1 rfl) ?_
        refine n_zne_t (tgt := 409) hx hb (by decide) (by omega) dL_law_394 (by decide) ?_
        refine lv_goto (tgt := 1052) hx hb dL_law_409 (by decide) ?_
        have hW : Wd Z A s.heap ((el Z out 1 r :: (cw Z hc x ++ bl Z hb0 hk hc hm wg mo n o)) ++ (mw Z hq ad 2 n wg K F S T D V ++ (eo hk 1 [.ref hc] :: vs))) _ _ := Wd.rot (w1 := mw Z hq ad 2 n wg K F S T D V) (wc := el Z out 1 r :: (cw Z hc x ++ bl Z hb0 hk hc hm wg mo n o)) hW
        exact kk _ _ _ _ ls ⟨x, σ, mo, n, wg, o, vd, vb, stb, rw, r, 2, K, F, S, T, D, V, vs, ⟨hvs, fun _ => hJ, by omega, by omega, by omega, by omega, by omega⟩, hW⟩ (lv_sub hl [2, 3, 4, 5, 6] rfl)
set_option maxHeartbeats 4000000 in
set_option maxRecDepth 100000 in
theorem c_compare {p : Program} (l : Launch) (hst : l.stackTraces = false) {e : Env} {R : Room} {s : State} {m : MethodId} {below : List Frame} {meth : Method} {c : Code} {b L : Nat} {xs : Nat → Int32} {Z : Zt} {A : Nat → Prop} (C : LC p R s m meth c b L xs Z A) (hL : L ≤ 2048) {Q : State → Prop} {t hb0 hk hc hm out hq : Nat} {ad : MA} (ht : 4 * t + 4 ≤ L)
    (kk : ∀ (H : Heap) (locs : List Loc) (cells slots : Nat) (ls : Array Slot), LE Z A s.heap H locs (t + 1) cells slots hb0 hk hc hm out hq ad → lv_has ls 8 [(0, .ref b), (1, .ref hb0), (2, .ref hq), (3, .ref out), (4, .int (nI (4 * t)))] → W p l e R s m #[Value.ref b] below meth c H locs cells slots Q (F0 m 1052 ls []))
    {H : Heap} {locs : List Loc} {cells slots : Nat} {ls : Array Slot} (hE : LE Z A s.heap H locs t cells slots hb0 hk hc hm out hq ad) (hl : lv_has ls 8 [(0, .ref b), (1, .ref hb0), (2, .ref hq), (3, .ref out), (4, .int (nI (4 * t)))]) : W p l e R s m #[Value.ref b] below meth c H locs cells slots Q (F0 m 412 ls []) := by
  obtain ⟨hx, hb, hml, hown, hts, hX, hbl, hlk, hnc, hK, hG, hA, hbA, hRf, hRc, hRs, hRl⟩ := C
  obtain ⟨x, σ, mo, n, wg, o, vd, vb, stb, rw, r, cd, K, F, S, T, D, V, vs, ⟨hvs, hJ, hnt, hwg, hu, hcl, hsl⟩, hW⟩ := hE
  have hJ := hJ (by omega)
  have hbk := hJ.1
  have hxn := hbk.2.2.2.1
  have hwd := hbk.2.2.2.2.2
  have hD : ∀ i, i < n → D i ≤ 64 := fun i hi => (hwd i hi).2.1
  have hn4 : n < 4000 := by omega
  refine lv_aload_n hx hb dL_law_412 rfl (lv_at hl 1 rfl) ?_
  refine lv_aload_n hx hb dL_law_413 rfl (lv_at hl 0 rfl) ?_
  refine lv_iload hx hb dL_law_414 (lv_at hl 4 rfl) ?_
  refine lv_iconst (v := nI 1) hx hb dL_law_416 (by decide) ?_
  refine n_iadd hx hb dL_law_417 ?_
  refine s_ld (i := ((4 * t) + 1)) hx hb hX hbl hbA hW (by omega) (by omega) dL_law_418 ?_
  refine lv_aload_n hx hb dL_law_419 rfl (lv_at hl 0 rfl) ?_
  refine lv_iload hx hb dL_law_420 (lv_at hl 4 rfl) ?_
  refine lv_iconst (v := nI 2) hx hb dL_law_422 (by decide) ?_
  refine n_iadd hx hb dL_law_423 ?_
  refine s_ld (i := ((4 * t) + 2)) hx hb hX hbl hbA hW (by omega) (by omega) dL_law_424 ?_
  refine lv_aload_n hx hb dL_law_425 rfl (lv_at hl 0 rfl) ?_
  refine lv_iload hx hb dL_law_426 (lv_at hl 4 rfl) ?_
  refine lv_iconst (v := nI 3) hx hb dL_law_428 (by decide) ?_
  refine n_iadd hx hb dL_law_429 ?_
  refine s_ld (i := ((4 * t) + 3)) hx hb hX hbl hbA hW (by omega) (by omega) dL_law_430 ?_
  refine lv_aload_n hx hb dL_law_431 rfl (lv_at hl 3 rfl) ?_
  by_cases hgd : ∃ k i j, k ≤ 4 ∧ xs ((4 * t) + 1) = nI k ∧ i < n ∧ j < n ∧ xs ((4 * t) + 2) = nI i ∧ xs ((4 * t) + 3) = nI j ∧ D i = D j ∧ 10 * D i + wg ≤ 100000
  · obtain ⟨k, i, j, hk1, e0, hi, hj, e1, e2, hij, hg⟩ := hgd
    have hDi := hD i hi
    have hDj := hD j hj
    have c0 : (xs ((4 * t) + 1)).toNatClampNeg = k := by rw [e0]; exact nI_clamp (by omega)
    have c1 : (xs ((4 * t) + 2)).toNatClampNeg = i := by rw [e1]; exact nI_clamp (by omega)
    have hGg : GC k (D i) ≤ 10 * D i := GC_le k (by omega) (D i) (by have := hD i hi; omega) (hwd i hi).1
    have hM := k_compare l hst Z hb0 hk hc hm x σ mo n wg o vd vb stb D rw (xs ((4 * t) + 1)) (xs ((4 * t) + 2)) (xs ((4 * t) + 3)) hbk
    simp only [c0, c1] at hM
    have hU1 := capU_le (xu x) (xn x + (GC k (D i)))
    have hU2 := capU_bd (xu x) (xn x + (GC k (D i)))
    obtain ⟨U, hU⟩ : ∃ U, capU (xu x) (xn x + (GC k (D i))) = U := ⟨_, rfl⟩
    rw [hU] at hM hU1 hU2
    refine h_stat (As := [.ref hb0, .int (xs ((4 * t) + 1)), .int (xs ((4 * t) + 2)), .int (xs ((4 * t) + 3)), .ref out]) (rest := []) (wc := el Z out 1 r :: (cw Z hc x ++ bl Z hb0 hk hc hm wg mo n o)) (wr := mw Z hq ad cd n wg K F S T D V ++ (eo hk 1 [.ref hc] :: vs)) hx hb hml hown hts hnc hK hG rfl hA hl (w_compare l Z hb0 hk hc hm x mo n wg o vd vb stb D rw (xs ((4 * t) + 1)) (xs ((4 * t) + 2)) (xs ((4 * t) + 3)) out n _ _ r hM (fun v w1 h => by obtain ⟨k', i', j', hk1', e0', hi', hj', e1', e2', hij', hg', ⟨y, nv, q, f, o2, hv, -⟩⟩ := h; exact hv) (by omega) (fun E h => h.elim (fun h => Or.inl h.1) (fun h => Or.inr h.1))) hW (bro_of hW hvs) tb_669 tb_670 tb_0 tb_671 (nA := 5) (by decide +kernel) rfl ⟨by omega, by omega⟩ ⟨by omega, by omega⟩ rfl (Nat.le_of_ble_eq_true rfl) dL_law_432 (fun v w1 H1 L1 hp hW hzz hkk hdd => ?_)
    rcases hp with ⟨rfl, v0, w0, hp, rfl⟩ | ⟨rfl, hp, rfl⟩ | ⟨rfl, hp, rfl⟩
    · obtain ⟨k', i', j', hk1', e0', hi', hj', e1', e2', hij', hg', y, nv, q, f, o2, -, rfl, hs, hfb, hadd, hS⟩ := hp
      have i_k : k = k' := (nI_eq (by omega) (by omega)).mp (e0.symm.trans e0')
      have i_i : i = i' := (nI_eq (by omega) (by omega)).mp (e1.symm.trans e1')
      have i_j : j = j' := (nI_eq (by omega) (by omega)).mp (e2.symm.trans e2')
      subst i_k
      subst i_i
      subst i_j
      clear hzz hkk hdd
      generalize H1 = H at hW ⊢
      generalize L1 = locs at hW ⊢
      refine W.eq (g2 := F0 m 435 ls [.int (nI 0)]) rfl ?_
      have hM2 := k_mcompare1 l Z hq ad cd n wg K F S T D V k i j hk1 hi hj hij hD hn4 hwg hg
      rw [← e0, ← e1, ← e2] at hM2
      refine lv_istore (lv' := [(5, .int (nI 0)), (0, .ref b), (1, .ref hb0), (2, .ref hq), (3, .ref out), (4, .int (nI (4 * t)))]) hx hb dL_law_435 hl (by decide) rfl (fun ls hl => ?_)
      have hW : Wd Z A s.heap (mw Z hq ad cd n wg K F S T D V ++ ((el Z out 1 (up r 0 n) :: (cw Z hc y ++ [eo nv 2 [.ref q, .int (nI 0)], ea Z q (1) f] ++ bl Z hb0 hk hc hm (wg + (10 * D i)) (mo + nI 1) (n + 1) o2)) ++ (eo hk 1 [.ref hc] :: vs))) _ _ := Wd.rot hW
      refine lv_aload_n hx hb dL_law_437 rfl (lv_at hl 3 rfl) ?_
      refine lv_aload_n hx hb dL_law_438 rfl (lv_at hl 1 rfl) ?_
      refine lv_iload hx hb dL_law_439 (lv_at hl 5 rfl) ?_
      refine lv_iconst (v := nI 1) hx hb dL_law_441 (by decide) ?_
      refine n_iadd hx hb dL_law_442 ?_
      refine s_ld (i := ((4 * t) + 1)) hx hb hX hbl hbA hW (by omega) (by omega) dL_law_443 ?_
      refine lv_aload_n hx hb dL_law_444 rfl (lv_at hl 1 rfl) ?_
      refine lv_iload hx hb dL_law_445 (lv_at hl 5 rfl) ?_
      refine lv_iconst (v := nI 2) hx hb dL_law_447 (by decide) ?_
      refine n_iadd hx hb dL_law_448 ?_
      refine s_ld (i := ((4 * t) + 2)) hx hb hX hbl hbA hW (by omega) (by omega) dL_law_449 ?_
      refine lv_aload_n hx hb dL_law_450 rfl (lv_at hl 1 rfl) ?_
      refine lv_iload hx hb dL_law_451 (lv_at hl 5 rfl) ?_
      refine lv_iconst (v := nI 3) hx hb dL_law_453 (by decide) ?_
      refine n_iadd hx hb dL_law_454 ?_
      refine s_ld (i := ((4 * t) + 3)) hx hb hX hbl hbA hW (by omega) (by omega) dL_law_455 ?_
      refine c_virt (As := [.int (xs ((4 * t) + 1)), .int (xs ((4 * t) + 2)), .int (xs ((4 * t) + 3))]) (rest := []) (wc := mw Z hq ad cd n wg K F S T D V) (wr := (el Z out 1 (up r 0 n) :: (cw Z hc y ++ [eo nv 2 [.ref q, .int (nI 0)], ea Z q (1) f] ++ bl Z hb0 hk hc hm (wg + (10 * D i)) (mo + nI 1) (n + 1) o2)) ++ (eo hk 1 [.ref hc] :: vs)) (nl := 0) hx hb hml hown hts hK hG rfl hA hl (hM2) hW trivial (hW.at 0 rfl) rfl rfl tb_848 tb_849 tb_850 tb_7 tb_851 (nA := 3) (by decide +kernel) rfl ⟨by omega, by omega⟩ ⟨by omega, by omega⟩ rfl (Nat.le_of_ble_eq_true rfl) dL_law_456 (fun v w1 H1 L1 hp hW hzz hkk hdd => ?_)
      obtain ⟨rfl, rfl⟩ := hp
      clear hzz hkk hdd
      generalize H1 = H at hW ⊢
      generalize L1 = locs at hW ⊢
      refine W.eq (g2 := F0 m 459 ls [.int (nI n)]) rfl ?_
      refine lv_istore (lv' := [(6, .int (nI n)), (5, .int (nI 0)), (0, .ref b), (1, .ref hb0), (2, .ref hq), (3, .ref out), (4, .int (nI (4 * t)))]) hx hb dL_law_459 hl (by decide) rfl (fun ls hl => ?_)
      refine lv_aload_n hx hb dL_law_461 rfl (lv_at hl 4 rfl) ?_
      refine c_virt (As := []) (rest := []) (wc := mw Z hq ad 0 (n + 1) (wg + (10 * D i)) (up K n (40 + k)) (up F n i) (up S n j) (up T n 0) (up D n 1) (up V n 0)) (wr := (el Z out 1 (up r 0 n) :: (cw Z hc y ++ [eo nv 2 [.ref q, .int (nI 0)], ea Z q (1) f] ++ bl Z hb0 hk hc hm (wg + (10 * D i)) (mo + nI 1) (n + 1) o2)) ++ (eo hk 1 [.ref hc] :: vs)) (nl := 0) hx hb hml hown hts hK hG rfl hA hl (k_thrown l Z hq ad 0 (n + 1) (wg + (10 * D i)) (up K n (40 + k)) (up F n i) (up S n j) (up T n 0) (up D n 1) (up V n 0)) hW trivial (hW.at 0 rfl) rfl rfl tb_808 tb_809 tb_810 tb_7 tb_811 (nA := 0) (by decide +kernel) rfl ⟨by omega, by omega⟩ ⟨by omega, by omega⟩ rfl (Nat.le_of_ble_eq_true rfl) dL_law_462 (fun v w1 H1 L1 hp hW hzz hkk hdd => ?_)
      obtain ⟨rfl, rfl⟩ := hp
      clear hzz hkk hdd
      generalize H1 = H at hW ⊢
      generalize L1 = locs at hW ⊢
      refine W.eq (g2 := F0 m 465 ls [.int (nI 0)]) rfl ?_
      refine lv_iload hx hb dL_law_465 (lv_at hl 1 rfl) ?_
      refine n_eq_t (tgt := 472) hx hb rfl dL_law_467 (by decide) ?_
      refine lv_iload hx hb dL_law_472 (lv_at hl 1 rfl) ?_
      refine n_zne_f (tgt := 489) hx hb rfl dL_law_474 (by decide) ?_
      refine lv_aload_n hx hb dL_law_477 rfl (lv_at hl 5 rfl) ?_
      refine lv_iconst (v := nI 0) hx hb dL_law_478 (by decide) ?_
      refine r_lald (i := 0) hx hb hK (hW.at 7 rfl) (by omega) (by omega) dL_law_479 ?_
      refine lv_iload hx hb dL_law_480 (lv_at hl 0 rfl) ?_
      refine lv_i2l (v := (nI n).toInt64) hx hb dL_law_482 rfl ?_
      refine W.lcmp hx hb dL_law_483 ?_
      refine lv_if_eq (tgt := 489) hx hb dL_law_484 (by decide) (fun _ => ?_) (fun q => absurd ((lg_cmp_eq _ _).mpr (by rw [up_s, nI_long (by omega)])) q)
      refine lv_goto (tgt := 1052) hx hb dL_law_489 (by decide) ?_
      have hW : Wd Z A s.heap ((el Z out 1 (up r 0 n) :: (cw Z hc y ++ [eo nv 2 [.ref q, .int (nI 0)], ea Z q (1) f] ++ bl Z hb0 hk hc hm (wg + (10 * D i)) (mo + nI 1) (n + 1) o2)) ++ (mw Z hq ad 0 (n + 1) (wg + (10 * D i)) (up K n (40 + k)) (up F n i) (up S n j) (up T n 0) (up D n 1) (up V n 0) ++ (eo hk 1 [.ref hc] :: vs))) _ _ := Wd.rot (w1 := mw Z hq ad 0 (n + 1) (wg + (10 * D i)) (up K n (40 + k)) (up F n i) (up S n j) (up T n 0) (up D n 1) (up V n 0)) (wc := el Z out 1 (up r 0 n) :: (cw Z hc y ++ [eo nv 2 [.ref q, .int (nI 0)], ea Z q (1) f] ++ bl Z hb0 hk hc hm (wg + (10 * D i)) (mo + nI 1) (n + 1) o2)) hW
      have hW := Wd.pull hW
      have hsu : xu y = U := hs.2.2.2.trans hU
      have hJ2 := J_compare hJ hk1 hi hj hij hg hs hfb hadd hS
      exact kk _ _ _ _ ls ⟨y, σ, mo + nI 1, n + 1, wg + (10 * D i), o2, up vd n nv, up vb n q, up stb n 0, up rw n f, up r 0 n, 0, up K n (40 + k), up F n i, up S n j, up T n 0, up D n 1, up V n 0, [eo nv 2 [.ref q, .int (nI 0)], ea Z q (1) f] ++ vs, ⟨vs_new hvs nv q 0 1 f, hJ2, by omega, by omega, by omega, by omega, by omega⟩, hW⟩ (lv_sub hl [2, 3, 4, 5, 6] rfl)
    · exact (hp.elim (fun h => h.2 ⟨⟨k, hk1, e0⟩, i, j, hi, hj, e1, e2, hij⟩) (fun h => absurd h.1 (by decide))).elim
    · rcases hp with h | ⟨-, h⟩
      · exact absurd h.1 (by decide)
      · obtain ⟨k', i', j', hk1', e0', hi', hj', e1', e2', hij', hg'⟩ := h
        have i_k : k = k' := (nI_eq (by omega) (by omega)).mp (e0.symm.trans e0')
        have i_i : i = i' := (nI_eq (by omega) (by omega)).mp (e1.symm.trans e1')
        have i_j : j = j' := (nI_eq (by omega) (by omega)).mp (e2.symm.trans e2')
        subst i_k
        subst i_i
        subst i_j
        exact absurd hg hg'
  · have hM := k_compareN l hst Z hb0 hk hc hm x σ mo n wg o vd vb stb D rw (xs ((4 * t) + 1)) (xs ((4 * t) + 2)) (xs ((4 * t) + 3)) hbk hgd
    refine h_stat (As := [.ref hb0, .int (xs ((4 * t) + 1)), .int (xs ((4 * t) + 2)), .int (xs ((4 * t) + 3)), .ref out]) (rest := []) (wc := el Z out 1 r :: (cw Z hc x ++ bl Z hb0 hk hc hm wg mo n o)) (wr := mw Z hq ad cd n wg K F S T D V ++ (eo hk 1 [.ref hc] :: vs)) hx hb hml hown hts hnc hK hG rfl hA hl (w_compare l Z hb0 hk hc hm x mo n wg o vd vb stb D rw (xs ((4 * t) + 1)) (xs ((4 * t) + 2)) (xs ((4 * t) + 3)) out 0 _ _ r hM (fun v w1 h => h.elim) (by omega) (fun E h => h.elim (fun h => Or.inl h.1) (fun h => Or.inr h.1))) hW (bro_of hW hvs) tb_669 tb_670 tb_0 tb_671 (nA := 5) (by decide +kernel) rfl ⟨by omega, by omega⟩ ⟨by omega, by omega⟩ rfl (Nat.le_of_ble_eq_true rfl) dL_law_432 (fun v w1 H1 L1 hp hW hzz hkk hdd => ?_)
    rcases hp with ⟨rfl, v0, w0, hp, rfl⟩ | ⟨rfl, hp, rfl⟩ | ⟨rfl, hp, rfl⟩
    · exact hp.elim
    · rcases hp with ⟨-, hng⟩ | h9
      · clear hzz hkk hdd
        generalize H1 = H at hW ⊢
        generalize L1 = locs at hW ⊢
        refine W.eq (g2 := F0 m 435 ls [.int (nI 1)]) rfl ?_
        have hM2 := k_mcompare0 l Z hq ad cd n wg K F S T D V (xs ((4 * t) + 1)) (xs ((4 * t) + 2)) (xs ((4 * t) + 3)) hng hD hn4
        refine lv_istore (lv' := [(5, .int (nI 1)), (0, .ref b), (1, .ref hb0), (2, .ref hq), (3, .ref out), (4, .int (nI (4 * t)))]) hx hb dL_law_435 hl (by decide) rfl (fun ls hl => ?_)
        have hW : Wd Z A s.heap (mw Z hq ad cd n wg K F S T D V ++ ((el Z out 1 r :: (cw Z hc x ++ bl Z hb0 hk hc hm wg mo n o)) ++ (eo hk 1 [.ref hc] :: vs))) _ _ := Wd.rot hW
        refine lv_aload_n hx hb dL_law_437 rfl (lv_at hl 3 rfl) ?_
        refine lv_aload_n hx hb dL_law_438 rfl (lv_at hl 1 rfl) ?_
        refine lv_iload hx hb dL_law_439 (lv_at hl 5 rfl) ?_
        refine lv_iconst (v := nI 1) hx hb dL_law_441 (by decide) ?_
        refine n_iadd hx hb dL_law_442 ?_
        refine s_ld (i := ((4 * t) + 1)) hx hb hX hbl hbA hW (by omega) (by omega) dL_law_443 ?_
        refine lv_aload_n hx hb dL_law_444 rfl (lv_at hl 1 rfl) ?_
        refine lv_iload hx hb dL_law_445 (lv_at hl 5 rfl) ?_
        refine lv_iconst (v := nI 2) hx hb dL_law_447 (by decide) ?_
        refine n_iadd hx hb dL_law_448 ?_
        refine s_ld (i := ((4 * t) + 2)) hx hb hX hbl hbA hW (by omega) (by omega) dL_law_449 ?_
        refine lv_aload_n hx hb dL_law_450 rfl (lv_at hl 1 rfl) ?_
        refine lv_iload hx hb dL_law_451 (lv_at hl 5 rfl) ?_
        refine lv_iconst (v := nI 3) hx hb dL_law_453 (by decide) ?_
        refine n_iadd hx hb dL_law_454 ?_
        refine s_ld (i := ((4 * t) + 3)) hx hb hX hbl hbA hW (by omega) (by omega) dL_law_455 ?_
        refine c_virt (As := [.int (xs ((4 * t) + 1)), .int (xs ((4 * t) + 2)), .int (xs ((4 * t) + 3))]) (rest := []) (wc := mw Z hq ad cd n wg K F S T D V) (wr := (el Z out 1 r :: (cw Z hc x ++ bl Z hb0 hk hc hm wg mo n o)) ++ (eo hk 1 [.ref hc] :: vs)) (nl := 0) hx hb hml hown hts hK hG rfl hA hl (hM2) hW trivial (hW.at 0 rfl) rfl rfl tb_848 tb_849 tb_850 tb_7 tb_851 (nA := 3) (by decide +kernel) rfl ⟨by omega, by omega⟩ ⟨by omega, by omega⟩ rfl (Nat.le_of_ble_eq_true rfl) dL_law_456 (fun v w1 H1 L1 hp hW hzz hkk hdd => ?_)
        obtain ⟨⟨r0, rfl⟩, rfl⟩ := hp
        clear hzz hkk hdd
        generalize H1 = H at hW ⊢
        generalize L1 = locs at hW ⊢
        refine W.eq (g2 := F0 m 459 ls [.int r0]) rfl ?_
        refine lv_istore (lv' := [(6, .int r0), (5, .int (nI 1)), (0, .ref b), (1, .ref hb0), (2, .ref hq), (3, .ref out), (4, .int (nI (4 * t)))]) hx hb dL_law_459 hl (by decide) rfl (fun ls hl => ?_)
        refine lv_aload_n hx hb dL_law_461 rfl (lv_at hl 4 rfl) ?_
        refine c_virt (As := []) (rest := []) (wc := mw Z hq ad 1 n wg K F S T D V) (wr := (el Z out 1 r :: (cw Z hc x ++ bl Z hb0 hk hc hm wg mo n o)) ++ (eo hk 1 [.ref hc] :: vs)) (nl := 0) hx hb hml hown hts hK hG rfl hA hl (k_thrown l Z hq ad 1 n wg K F S T D V) hW trivial (hW.at 0 rfl) rfl rfl tb_808 tb_809 tb_810 tb_7 tb_811 (nA := 0) (by decide +kernel) rfl ⟨by omega, by omega⟩ ⟨by omega, by omega⟩ rfl (Nat.le_of_ble_eq_true rfl) dL_law_462 (fun v w1 H1 L1 hp hW hzz hkk hdd => ?_)
        obtain ⟨rfl, rfl⟩ := hp
        clear hzz hkk hdd
        generalize H1 = H at hW ⊢
        generalize L1 = locs at hW ⊢
        refine W.eq (g2 := F0 m 465 ls [.int (nI 1)]) rfl ?_
        refine lv_iload hx hb dL_law_465 (lv_at hl 1 rfl) ?_
        refine n_eq_t (tgt := 472) hx hb rfl dL_law_467 (by decide) ?_
        refine lv_iload hx hb dL_law_472 (lv_at hl 1 rfl) ?_
        refine n_zne_t (tgt := 489) hx hb (by decide) (by omega) dL_law_474 (by decide) ?_
        refine lv_goto (tgt := 1052) hx hb dL_law_489 (by decide) ?_
        have hW : Wd Z A s.heap ((el Z out 1 r :: (cw Z hc x ++ bl Z hb0 hk hc hm wg mo n o)) ++ (mw Z hq ad 1 n wg K F S T D V ++ (eo hk 1 [.ref hc] :: vs))) _ _ := Wd.rot (w1 := mw Z hq ad 1 n wg K F S T D V) (wc := el Z out 1 r :: (cw Z hc x ++ bl Z hb0 hk hc hm wg mo n o)) hW
        exact kk _ _ _ _ ls ⟨x, σ, mo, n, wg, o, vd, vb, stb, rw, r, 1, K, F, S, T, D, V, vs, ⟨hvs, fun _ => hJ, by omega, by omega, by omega, by omega, by omega⟩, hW⟩ (lv_sub hl [2, 3, 4, 5, 6] rfl)
      · exact absurd h9.1 (by decide)
    · rcases hp with h9 | ⟨-, hng⟩
      · exact absurd h9.1 (by decide)
      · obtain ⟨k, i, j, hk1, e0, hi, hj, e1, e2, hij, hg⟩ := hng
        clear hzz hkk hdd
        generalize H1 = H at hW ⊢
        generalize L1 = locs at hW ⊢
        refine W.eq (g2 := F0 m 435 ls [.int (nI 2)]) rfl ?_
        have hM2 := k_mcompare2 l Z hq ad cd n wg K F S T D V k i j hk1 hi hj hij hD hn4 hwg hg
        rw [← e0, ← e1, ← e2] at hM2
        refine lv_istore (lv' := [(5, .int (nI 2)), (0, .ref b), (1, .ref hb0), (2, .ref hq), (3, .ref out), (4, .int (nI (4 * t)))]) hx hb dL_law_435 hl (by decide) rfl (fun ls hl => ?_)
        have hW : Wd Z A s.heap (mw Z hq ad cd n wg K F S T D V ++ ((el Z out 1 r :: (cw Z hc x ++ bl Z hb0 hk hc hm wg mo n o)) ++ (eo hk 1 [.ref hc] :: vs))) _ _ := Wd.rot hW
        refine lv_aload_n hx hb dL_law_437 rfl (lv_at hl 3 rfl) ?_
        refine lv_aload_n hx hb dL_law_438 rfl (lv_at hl 1 rfl) ?_
        refine lv_iload hx hb dL_law_439 (lv_at hl 5 rfl) ?_
        refine lv_iconst (v := nI 1) hx hb dL_law_441 (by decide) ?_
        refine n_iadd hx hb dL_law_442 ?_
        refine s_ld (i := ((4 * t) + 1)) hx hb hX hbl hbA hW (by omega) (by omega) dL_law_443 ?_
        refine lv_aload_n hx hb dL_law_444 rfl (lv_at hl 1 rfl) ?_
        refine lv_iload hx hb dL_law_445 (lv_at hl 5 rfl) ?_
        refine lv_iconst (v := nI 2) hx hb dL_law_447 (by decide) ?_
        refine n_iadd hx hb dL_law_448 ?_
        refine s_ld (i := ((4 * t) + 2)) hx hb hX hbl hbA hW (by omega) (by omega) dL_law_449 ?_
        refine lv_aload_n hx hb dL_law_450 rfl (lv_at hl 1 rfl) ?_
        refine lv_iload hx hb dL_law_451 (lv_at hl 5 rfl) ?_
        refine lv_iconst (v := nI 3) hx hb dL_law_453 (by decide) ?_
        refine n_iadd hx hb dL_law_454 ?_
        refine s_ld (i := ((4 * t) + 3)) hx hb hX hbl hbA hW (by omega) (by omega) dL_law_455 ?_
        refine c_virt (As := [.int (xs ((4 * t) + 1)), .int (xs ((4 * t) + 2)), .int (xs ((4 * t) + 3))]) (rest := []) (wc := mw Z hq ad cd n wg K F S T D V) (wr := (el Z out 1 r :: (cw Z hc x ++ bl Z hb0 hk hc hm wg mo n o)) ++ (eo hk 1 [.ref hc] :: vs)) (nl := 0) hx hb hml hown hts hK hG rfl hA hl (hM2) hW trivial (hW.at 0 rfl) rfl rfl tb_848 tb_849 tb_850 tb_7 tb_851 (nA := 3) (by decide +kernel) rfl ⟨by omega, by omega⟩ ⟨by omega, by omega⟩ rfl (Nat.le_of_ble_eq_true rfl) dL_law_456 (fun v w1 H1 L1 hp hW hzz hkk hdd => ?_)
        obtain ⟨⟨r0, rfl⟩, rfl⟩ := hp
        clear hzz hkk hdd
        generalize H1 = H at hW ⊢
        generalize L1 = locs at hW ⊢
        refine W.eq (g2 := F0 m 459 ls [.int r0]) rfl ?_
        refine lv_istore (lv' := [(6, .int r0), (5, .int (nI 2)), (0, .ref b), (1, .ref hb0), (2, .ref hq), (3, .ref out), (4, .int (nI (4 * t)))]) hx hb dL_law_459 hl (by decide) rfl (fun ls hl => ?_)
        refine lv_aload_n hx hb dL_law_461 rfl (lv_at hl 4 rfl) ?_
        refine c_virt (As := []) (rest := []) (wc := mw Z hq ad 2 n wg K F S T D V) (wr := (el Z out 1 r :: (cw Z hc x ++ bl Z hb0 hk hc hm wg mo n o)) ++ (eo hk 1 [.ref hc] :: vs)) (nl := 0) hx hb hml hown hts hK hG rfl hA hl (k_thrown l Z hq ad 2 n wg K F S T D V) hW trivial (hW.at 0 rfl) rfl rfl tb_808 tb_809 tb_810 tb_7 tb_811 (nA := 0) (by decide +kernel) rfl ⟨by omega, by omega⟩ ⟨by omega, by omega⟩ rfl (Nat.le_of_ble_eq_true rfl) dL_law_462 (fun v w1 H1 L1 hp hW hzz hkk hdd => ?_)
        obtain ⟨rfl, rfl⟩ := hp
        clear hzz hkk hdd
        generalize H1 = H at hW ⊢
        generalize L1 = locs at hW ⊢
        refine W.eq (g2 := F0 m 465 ls [.int (nI 2)]) rfl ?_
        refine lv_iload hx hb dL_law_465 (lv_at hl 1 rfl) ?_
        refine n_eq_t (tgt := 472) hx hb rfl dL_law_467 (by decide) ?_
        refine lv_iload hx hb dL_law_472 (lv_at hl 1 rfl) ?_
        refine n_zne_t (tgt := 489) hx hb (by decide) (by omega) dL_law_474 (by decide) ?_
        refine lv_goto (tgt := 1052) hx hb dL_law_489 (by decide) ?_
        have hW : Wd Z A s.heap ((el Z out 1 r :: (cw Z hc x ++ bl Z hb0 hk hc hm wg mo n o)) ++ (mw Z hq ad 2 n wg K F S T D V ++ (eo hk 1 [.ref hc] :: vs))) _ _ := Wd.rot (w1 := mw Z hq ad 2 n wg K F S T D V) (wc := el Z out 1 r :: (cw Z hc x ++ bl Z hb0 hk hc hm wg mo n o)) hW
        exact kk _ _ _ _ ls ⟨x, σ, mo, n, wg, o, vd, vb, stb, rw, r, 2, K, F, S, T, D, V, vs, ⟨hvs, fun _ => hJ, by omega, by omega, by omega, by omega, by omega⟩, hW⟩ (lv_sub hl [2, 3, 4, 5, 6] rfl)
set_option maxHeartbeats 4000000 in
set_option maxRecDepth 100000 in
theorem c_choose {p : Program} (l : Launch) (hst : l.stackTraces = false) {e : Env} {R : Room} {s : State} {m : MethodId} {below : List Frame} {meth : Method} {c : Code} {b L : Nat} {xs : Nat → Int32} {Z : Zt} {A : Nat → Prop} (C : LC p R s m meth c b L xs Z A) (hL : L ≤ 2048) {Q : State → Prop} {t hb0 hk hc hm out hq : Nat} {ad : MA} (ht : 4 * t + 4 ≤ L)
    (kk : ∀ (H : Heap) (locs : List Loc) (cells slots : Nat) (ls : Array Slot), LE Z A s.heap H locs (t + 1) cells slots hb0 hk hc hm out hq ad → lv_has ls 8 [(0, .ref b), (1, .ref hb0), (2, .ref hq), (3, .ref out), (4, .int (nI (4 * t)))] → W p l e R s m #[Value.ref b] below meth c H locs cells slots Q (F0 m 1052 ls []))
    {H : Heap} {locs : List Loc} {cells slots : Nat} {ls : Array Slot} (hE : LE Z A s.heap H locs t cells slots hb0 hk hc hm out hq ad) (hl : lv_has ls 8 [(0, .ref b), (1, .ref hb0), (2, .ref hq), (3, .ref out), (4, .int (nI (4 * t)))]) : W p l e R s m #[Value.ref b] below meth c H locs cells slots Q (F0 m 492 ls []) := by
  obtain ⟨hx, hb, hml, hown, hts, hX, hbl, hlk, hnc, hK, hG, hA, hbA, hRf, hRc, hRs, hRl⟩ := C
  obtain ⟨x, σ, mo, n, wg, o, vd, vb, stb, rw, r, cd, K, F, S, T, D, V, vs, ⟨hvs, hJ, hnt, hwg, hu, hcl, hsl⟩, hW⟩ := hE
  have hJ := hJ (by omega)
  have hbk := hJ.1
  have hxn := hbk.2.2.2.1
  have hwd := hbk.2.2.2.2.2
  have hD : ∀ i, i < n → D i ≤ 64 := fun i hi => (hwd i hi).2.1
  have hn4 : n < 4000 := by omega
  refine lv_aload_n hx hb dL_law_492 rfl (lv_at hl 1 rfl) ?_
  refine lv_aload_n hx hb dL_law_493 rfl (lv_at hl 0 rfl) ?_
  refine lv_iload hx hb dL_law_494 (lv_at hl 4 rfl) ?_
  refine lv_iconst (v := nI 1) hx hb dL_law_496 (by decide) ?_
  refine n_iadd hx hb dL_law_497 ?_
  refine s_ld (i := ((4 * t) + 1)) hx hb hX hbl hbA hW (by omega) (by omega) dL_law_498 ?_
  refine lv_aload_n hx hb dL_law_499 rfl (lv_at hl 0 rfl) ?_
  refine lv_iload hx hb dL_law_500 (lv_at hl 4 rfl) ?_
  refine lv_iconst (v := nI 2) hx hb dL_law_502 (by decide) ?_
  refine n_iadd hx hb dL_law_503 ?_
  refine s_ld (i := ((4 * t) + 2)) hx hb hX hbl hbA hW (by omega) (by omega) dL_law_504 ?_
  refine lv_aload_n hx hb dL_law_505 rfl (lv_at hl 0 rfl) ?_
  refine lv_iload hx hb dL_law_506 (lv_at hl 4 rfl) ?_
  refine lv_iconst (v := nI 3) hx hb dL_law_508 (by decide) ?_
  refine n_iadd hx hb dL_law_509 ?_
  refine s_ld (i := ((4 * t) + 3)) hx hb hX hbl hbA hW (by omega) (by omega) dL_law_510 ?_
  refine lv_aload_n hx hb dL_law_511 rfl (lv_at hl 3 rfl) ?_
  by_cases hgd : ∃ h i j, (h < n ∧ i < n ∧ j < n ∧ xs ((4 * t) + 1) = nI h ∧ xs ((4 * t) + 2) = nI i ∧ xs ((4 * t) + 3) = nI j ∧ D i = D j ∧ D h = 1) ∧ 4 * D i + wg ≤ 100000
  · obtain ⟨z, i, j, ⟨hz, hi, hj, e0, e1, e2, hij, hz1⟩, hg⟩ := hgd
    have hDi := hD i hi
    have hDj := hD j hj
    have c1 : (xs ((4 * t) + 2)).toNatClampNeg = i := by rw [e1]; exact nI_clamp (by omega)
    have hM := k_choose l hst Z hb0 hk hc hm x σ mo n wg o vd vb stb D rw (xs ((4 * t) + 1)) (xs ((4 * t) + 2)) (xs ((4 * t) + 3)) hbk
    simp only [c1] at hM
    have hU1 := capU_le (xu x) (xn x + (3 * D i))
    have hU2 := capU_bd (xu x) (xn x + (3 * D i))
    obtain ⟨U, hU⟩ : ∃ U, capU (xu x) (xn x + (3 * D i)) = U := ⟨_, rfl⟩
    rw [hU] at hM hU1 hU2
    refine h_stat (As := [.ref hb0, .int (xs ((4 * t) + 1)), .int (xs ((4 * t) + 2)), .int (xs ((4 * t) + 3)), .ref out]) (rest := []) (wc := el Z out 1 r :: (cw Z hc x ++ bl Z hb0 hk hc hm wg mo n o)) (wr := mw Z hq ad cd n wg K F S T D V ++ (eo hk 1 [.ref hc] :: vs)) hx hb hml hown hts hnc hK hG rfl hA hl (w_choose l Z hb0 hk hc hm x mo n wg o vd vb stb D rw (xs ((4 * t) + 1)) (xs ((4 * t) + 2)) (xs ((4 * t) + 3)) out n _ _ r hM (fun v w1 h => by obtain ⟨z', i', j', ⟨hz', hi', hj', e0', e1', e2', hij', hz1'⟩, hg', ⟨y, nv, q, f, o2, hv, -⟩⟩ := h; exact hv) (by omega) (fun E h => h.elim (fun h => Or.inl h.1) (fun h => Or.inr h.1))) hW (bro_of hW hvs) tb_693 tb_694 tb_0 tb_695 (nA := 5) (by decide +kernel) rfl ⟨by omega, by omega⟩ ⟨by omega, by omega⟩ rfl (Nat.le_of_ble_eq_true rfl) dL_law_512 (fun v w1 H1 L1 hp hW hzz hkk hdd => ?_)
    rcases hp with ⟨rfl, v0, w0, hp, rfl⟩ | ⟨rfl, hp, rfl⟩ | ⟨rfl, hp, rfl⟩
    · obtain ⟨z', i', j', ⟨hz', hi', hj', e0', e1', e2', hij', hz1'⟩, hg', y, nv, q, f, o2, -, rfl, hs, hfb, hadd, hS⟩ := hp
      have i_z : z = z' := (nI_eq (by omega) (by omega)).mp (e0.symm.trans e0')
      have i_i : i = i' := (nI_eq (by omega) (by omega)).mp (e1.symm.trans e1')
      have i_j : j = j' := (nI_eq (by omega) (by omega)).mp (e2.symm.trans e2')
      subst i_z
      subst i_i
      subst i_j
      clear hzz hkk hdd
      generalize H1 = H at hW ⊢
      generalize L1 = locs at hW ⊢
      refine W.eq (g2 := F0 m 515 ls [.int (nI 0)]) rfl ?_
      have hM2 := k_mchoose1 l Z hq ad cd n wg K F S T D V z i j hz hi hj hij hz1 hD hn4 hwg hg
      rw [← e0, ← e1, ← e2] at hM2
      refine lv_istore (lv' := [(5, .int (nI 0)), (0, .ref b), (1, .ref hb0), (2, .ref hq), (3, .ref out), (4, .int (nI (4 * t)))]) hx hb dL_law_515 hl (by decide) rfl (fun ls hl => ?_)
      have hW : Wd Z A s.heap (mw Z hq ad cd n wg K F S T D V ++ ((el Z out 1 (up r 0 n) :: (cw Z hc y ++ [eo nv 2 [.ref q, .int (nI 0)], ea Z q (D i) f] ++ bl Z hb0 hk hc hm (wg + (4 * D i)) (mo + nI 1) (n + 1) o2)) ++ (eo hk 1 [.ref hc] :: vs))) _ _ := Wd.rot hW
      refine lv_aload_n hx hb dL_law_517 rfl (lv_at hl 3 rfl) ?_
      refine lv_aload_n hx hb dL_law_518 rfl (lv_at hl 1 rfl) ?_
      refine lv_iload hx hb dL_law_519 (lv_at hl 5 rfl) ?_
      refine lv_iconst (v := nI 1) hx hb dL_law_521 (by decide) ?_
      refine n_iadd hx hb dL_law_522 ?_
      refine s_ld (i := ((4 * t) + 1)) hx hb hX hbl hbA hW (by omega) (by omega) dL_law_523 ?_
      refine lv_aload_n hx hb dL_law_524 rfl (lv_at hl 1 rfl) ?_
      refine lv_iload hx hb dL_law_525 (lv_at hl 5 rfl) ?_
      refine lv_iconst (v := nI 2) hx hb dL_law_527 (by decide) ?_
      refine n_iadd hx hb dL_law_528 ?_
      refine s_ld (i := ((4 * t) + 2)) hx hb hX hbl hbA hW (by omega) (by omega) dL_law_529 ?_
      refine lv_aload_n hx hb dL_law_530 rfl (lv_at hl 1 rfl) ?_
      refine lv_iload hx hb dL_law_531 (lv_at hl 5 rfl) ?_
      refine lv_iconst (v := nI 3) hx hb dL_law_533 (by decide) ?_
      refine n_iadd hx hb dL_law_534 ?_
      refine s_ld (i := ((4 * t) + 3)) hx hb hX hbl hbA hW (by omega) (by omega) dL_law_535 ?_
      refine c_virt (As := [.int (xs ((4 * t) + 1)), .int (xs ((4 * t) + 2)), .int (xs ((4 * t) + 3))]) (rest := []) (wc := mw Z hq ad cd n wg K F S T D V) (wr := (el Z out 1 (up r 0 n) :: (cw Z hc y ++ [eo nv 2 [.ref q, .int (nI 0)], ea Z q (D i) f] ++ bl Z hb0 hk hc hm (wg + (4 * D i)) (mo + nI 1) (n + 1) o2)) ++ (eo hk 1 [.ref hc] :: vs)) (nl := 0) hx hb hml hown hts hK hG rfl hA hl (hM2) hW trivial (hW.at 0 rfl) rfl rfl tb_852 tb_853 tb_854 tb_7 tb_855 (nA := 3) (by decide +kernel) rfl ⟨by omega, by omega⟩ ⟨by omega, by omega⟩ rfl (Nat.le_of_ble_eq_true rfl) dL_law_536 (fun v w1 H1 L1 hp hW hzz hkk hdd => ?_)
      obtain ⟨rfl, rfl⟩ := hp
      clear hzz hkk hdd
      generalize H1 = H at hW ⊢
      generalize L1 = locs at hW ⊢
      refine W.eq (g2 := F0 m 539 ls [.int (nI n)]) rfl ?_
      refine lv_istore (lv' := [(6, .int (nI n)), (5, .int (nI 0)), (0, .ref b), (1, .ref hb0), (2, .ref hq), (3, .ref out), (4, .int (nI (4 * t)))]) hx hb dL_law_539 hl (by decide) rfl (fun ls hl => ?_)
      refine lv_aload_n hx hb dL_law_541 rfl (lv_at hl 4 rfl) ?_
      refine c_virt (As := []) (rest := []) (wc := mw Z hq ad 0 (n + 1) (wg + (4 * D i)) (up K n 50) (up F n i) (up S n j) (up T n z) (up D n (D i)) (up V n 0)) (wr := (el Z out 1 (up r 0 n) :: (cw Z hc y ++ [eo nv 2 [.ref q, .int (nI 0)], ea Z q (D i) f] ++ bl Z hb0 hk hc hm (wg + (4 * D i)) (mo + nI 1) (n + 1) o2)) ++ (eo hk 1 [.ref hc] :: vs)) (nl := 0) hx hb hml hown hts hK hG rfl hA hl (k_thrown l Z hq ad 0 (n + 1) (wg + (4 * D i)) (up K n 50) (up F n i) (up S n j) (up T n z) (up D n (D i)) (up V n 0)) hW trivial (hW.at 0 rfl) rfl rfl tb_808 tb_809 tb_810 tb_7 tb_811 (nA := 0) (by decide +kernel) rfl ⟨by omega, by omega⟩ ⟨by omega, by omega⟩ rfl (Nat.le_of_ble_eq_true rfl) dL_law_542 (fun v w1 H1 L1 hp hW hzz hkk hdd => ?_)
      obtain ⟨rfl, rfl⟩ := hp
      clear hzz hkk hdd
      generalize H1 = H at hW ⊢
      generalize L1 = locs at hW ⊢
      refine W.eq (g2 := F0 m 545 ls [.int (nI 0)]) rfl ?_
      refine lv_iload hx hb dL_law_545 (lv_at hl 1 rfl) ?_
      refine n_eq_t (tgt := 552) hx hb rfl dL_law_547 (by decide) ?_
      refine lv_iload hx hb dL_law_552 (lv_at hl 1 rfl) ?_
      refine n_zne_f (tgt := 569) hx hb rfl dL_law_554 (by decide) ?_
      refine lv_aload_n hx hb dL_law_557 rfl (lv_at hl 5 rfl) ?_
      refine lv_iconst (v := nI 0) hx hb dL_law_558 (by decide) ?_
      refine r_lald (i := 0) hx hb hK (hW.at 7 rfl) (by omega) (by omega) dL_law_559 ?_
      refine lv_iload hx hb dL_law_560 (lv_at hl 0 rfl) ?_
      refine lv_i2l (v := (nI n).toInt64) hx hb dL_law_562 rfl ?_
      refine W.lcmp hx hb dL_law_563 ?_
      refine lv_if_eq (tgt := 569) hx hb dL_law_564 (by decide) (fun _ => ?_) (fun q => absurd ((lg_cmp_eq _ _).mpr (by rw [up_s, nI_long (by omega)])) q)
      refine lv_goto (tgt := 1052) hx hb dL_law_569 (by decide) ?_
      have hW : Wd Z A s.heap ((el Z out 1 (up r 0 n) :: (cw Z hc y ++ [eo nv 2 [.ref q, .int (nI 0)], ea Z q (D i) f] ++ bl Z hb0 hk hc hm (wg + (4 * D i)) (mo + nI 1) (n + 1) o2)) ++ (mw Z hq ad 0 (n + 1) (wg + (4 * D i)) (up K n 50) (up F n i) (up S n j) (up T n z) (up D n (D i)) (up V n 0) ++ (eo hk 1 [.ref hc] :: vs))) _ _ := Wd.rot (w1 := mw Z hq ad 0 (n + 1) (wg + (4 * D i)) (up K n 50) (up F n i) (up S n j) (up T n z) (up D n (D i)) (up V n 0)) (wc := el Z out 1 (up r 0 n) :: (cw Z hc y ++ [eo nv 2 [.ref q, .int (nI 0)], ea Z q (D i) f] ++ bl Z hb0 hk hc hm (wg + (4 * D i)) (mo + nI 1) (n + 1) o2)) hW
      have hW := Wd.pull hW
      have hsu : xu y = U := hs.2.2.2.trans hU
      have hJ2 := J_choose hJ hz hi hj hij hz1 hg hs hfb hadd hS
      exact kk _ _ _ _ ls ⟨y, σ, mo + nI 1, n + 1, wg + (4 * D i), o2, up vd n nv, up vb n q, up stb n 0, up rw n f, up r 0 n, 0, up K n 50, up F n i, up S n j, up T n z, up D n (D i), up V n 0, [eo nv 2 [.ref q, .int (nI 0)], ea Z q (D i) f] ++ vs, ⟨vs_new hvs nv q 0 (D i) f, hJ2, by omega, by omega, by omega, by omega, by omega⟩, hW⟩ (lv_sub hl [2, 3, 4, 5, 6] rfl)
    · exact (hp.elim (fun h => h.2 ⟨z, i, j, hz, hi, hj, e0, e1, e2, hij, hz1⟩) (fun h => absurd h.1 (by decide))).elim
    · rcases hp with h | ⟨-, h⟩
      · exact absurd h.1 (by decide)
      · obtain ⟨z', i', j', ⟨hz', hi', hj', e0', e1', e2', hij', hz1'⟩, hg'⟩ := h
        have i_z : z = z' := (nI_eq (by omega) (by omega)).mp (e0.symm.trans e0')
        have i_i : i = i' := (nI_eq (by omega) (by omega)).mp (e1.symm.trans e1')
        have i_j : j = j' := (nI_eq (by omega) (by omega)).mp (e2.symm.trans e2')
        subst i_z
        subst i_i
        subst i_j
        exact absurd hg hg'
  · have hM := k_chooseN l hst Z hb0 hk hc hm x σ mo n wg o vd vb stb D rw (xs ((4 * t) + 1)) (xs ((4 * t) + 2)) (xs ((4 * t) + 3)) hbk hgd
    refine h_stat (As := [.ref hb0, .int (xs ((4 * t) + 1)), .int (xs ((4 * t) + 2)), .int (xs ((4 * t) + 3)), .ref out]) (rest := []) (wc := el Z out 1 r :: (cw Z hc x ++ bl Z hb0 hk hc hm wg mo n o)) (wr := mw Z hq ad cd n wg K F S T D V ++ (eo hk 1 [.ref hc] :: vs)) hx hb hml hown hts hnc hK hG rfl hA hl (w_choose l Z hb0 hk hc hm x mo n wg o vd vb stb D rw (xs ((4 * t) + 1)) (xs ((4 * t) + 2)) (xs ((4 * t) + 3)) out 0 _ _ r hM (fun v w1 h => h.elim) (by omega) (fun E h => h.elim (fun h => Or.inl h.1) (fun h => Or.inr h.1))) hW (bro_of hW hvs) tb_693 tb_694 tb_0 tb_695 (nA := 5) (by decide +kernel) rfl ⟨by omega, by omega⟩ ⟨by omega, by omega⟩ rfl (Nat.le_of_ble_eq_true rfl) dL_law_512 (fun v w1 H1 L1 hp hW hzz hkk hdd => ?_)
    rcases hp with ⟨rfl, v0, w0, hp, rfl⟩ | ⟨rfl, hp, rfl⟩ | ⟨rfl, hp, rfl⟩
    · exact hp.elim
    · rcases hp with ⟨-, hng⟩ | h9
      · clear hzz hkk hdd
        generalize H1 = H at hW ⊢
        generalize L1 = locs at hW ⊢
        refine W.eq (g2 := F0 m 515 ls [.int (nI 1)]) rfl ?_
        have hM2 := k_mchoose0 l Z hq ad cd n wg K F S T D V (xs ((4 * t) + 1)) (xs ((4 * t) + 2)) (xs ((4 * t) + 3)) hng hD hn4
        refine lv_istore (lv' := [(5, .int (nI 1)), (0, .ref b), (1, .ref hb0), (2, .ref hq), (3, .ref out), (4, .int (nI (4 * t)))]) hx hb dL_law_515 hl (by decide) rfl (fun ls hl => ?_)
        have hW : Wd Z A s.heap (mw Z hq ad cd n wg K F S T D V ++ ((el Z out 1 r :: (cw Z hc x ++ bl Z hb0 hk hc hm wg mo n o)) ++ (eo hk 1 [.ref hc] :: vs))) _ _ := Wd.rot hW
        refine lv_aload_n hx hb dL_law_517 rfl (lv_at hl 3 rfl) ?_
        refine lv_aload_n hx hb dL_law_518 rfl (lv_at hl 1 rfl) ?_
        refine lv_iload hx hb dL_law_519 (lv_at hl 5 rfl) ?_
        refine lv_iconst (v := nI 1) hx hb dL_law_521 (by decide) ?_
        refine n_iadd hx hb dL_law_522 ?_
        refine s_ld (i := ((4 * t) + 1)) hx hb hX hbl hbA hW (by omega) (by omega) dL_law_523 ?_
        refine lv_aload_n hx hb dL_law_524 rfl (lv_at hl 1 rfl) ?_
        refine lv_iload hx hb dL_law_525 (lv_at hl 5 rfl) ?_
        refine lv_iconst (v := nI 2) hx hb dL_law_527 (by decide) ?_
        refine n_iadd hx hb dL_law_528 ?_
        refine s_ld (i := ((4 * t) + 2)) hx hb hX hbl hbA hW (by omega) (by omega) dL_law_529 ?_
        refine lv_aload_n hx hb dL_law_530 rfl (lv_at hl 1 rfl) ?_
        refine lv_iload hx hb dL_law_531 (lv_at hl 5 rfl) ?_
        refine lv_iconst (v := nI 3) hx hb dL_law_533 (by decide) ?_
        refine n_iadd hx hb dL_law_534 ?_
        refine s_ld (i := ((4 * t) + 3)) hx hb hX hbl hbA hW (by omega) (by omega) dL_law_535 ?_
        refine c_virt (As := [.int (xs ((4 * t) + 1)), .int (xs ((4 * t) + 2)), .int (xs ((4 * t) + 3))]) (rest := []) (wc := mw Z hq ad cd n wg K F S T D V) (wr := (el Z out 1 r :: (cw Z hc x ++ bl Z hb0 hk hc hm wg mo n o)) ++ (eo hk 1 [.ref hc] :: vs)) (nl := 0) hx hb hml hown hts hK hG rfl hA hl (hM2) hW trivial (hW.at 0 rfl) rfl rfl tb_852 tb_853 tb_854 tb_7 tb_855 (nA := 3) (by decide +kernel) rfl ⟨by omega, by omega⟩ ⟨by omega, by omega⟩ rfl (Nat.le_of_ble_eq_true rfl) dL_law_536 (fun v w1 H1 L1 hp hW hzz hkk hdd => ?_)
        obtain ⟨⟨r0, rfl⟩, rfl⟩ := hp
        clear hzz hkk hdd
        generalize H1 = H at hW ⊢
        generalize L1 = locs at hW ⊢
        refine W.eq (g2 := F0 m 539 ls [.int r0]) rfl ?_
        refine lv_istore (lv' := [(6, .int r0), (5, .int (nI 1)), (0, .ref b), (1, .ref hb0), (2, .ref hq), (3, .ref out), (4, .int (nI (4 * t)))]) hx hb dL_law_539 hl (by decide) rfl (fun ls hl => ?_)
        refine lv_aload_n hx hb dL_law_541 rfl (lv_at hl 4 rfl) ?_
        refine c_virt (As := []) (rest := []) (wc := mw Z hq ad 1 n wg K F S T D V) (wr := (el Z out 1 r :: (cw Z hc x ++ bl Z hb0 hk hc hm wg mo n o)) ++ (eo hk 1 [.ref hc] :: vs)) (nl := 0) hx hb hml hown hts hK hG rfl hA hl (k_thrown l Z hq ad 1 n wg K F S T D V) hW trivial (hW.at 0 rfl) rfl rfl tb_808 tb_809 tb_810 tb_7 tb_811 (nA := 0) (by decide +kernel) rfl ⟨by omega, by omega⟩ ⟨by omega, by omega⟩ rfl (Nat.le_of_ble_eq_true rfl) dL_law_542 (fun v w1 H1 L1 hp hW hzz hkk hdd => ?_)
        obtain ⟨rfl, rfl⟩ := hp
        clear hzz hkk hdd
        generalize H1 = H at hW ⊢
        generalize L1 = locs at hW ⊢
        refine W.eq (g2 := F0 m 545 ls [.int (nI 1)]) rfl ?_
        refine lv_iload hx hb dL_law_545 (lv_at hl 1 rfl) ?_
        refine n_eq_t (tgt := 552) hx hb rfl dL_law_547 (by decide) ?_
        refine lv_iload hx hb dL_law_552 (lv_at hl 1 rfl) ?_
        refine n_zne_t (tgt := 569) hx hb (by decide) (by omega) dL_law_554 (by decide) ?_
        refine lv_goto (tgt := 1052) hx hb dL_law_569 (by decide) ?_
        have hW : Wd Z A s.heap ((el Z out 1 r :: (cw Z hc x ++ bl Z hb0 hk hc hm wg mo n o)) ++ (mw Z hq ad 1 n wg K F S T D V ++ (eo hk 1 [.ref hc] :: vs))) _ _ := Wd.rot (w1 := mw Z hq ad 1 n wg K F S T D V) (wc := el Z out 1 r :: (cw Z hc x ++ bl Z hb0 hk hc hm wg mo n o)) hW
        exact kk _ _ _ _ ls ⟨x, σ, mo, n, wg, o, vd, vb, stb, rw, r, 1, K, F, S, T, D, V, vs, ⟨hvs, fun _ => hJ, by omega, by omega, by omega, by omega, by omega⟩, hW⟩ (lv_sub hl [2, 3, 4, 5, 6] rfl)
      · exact absurd h9.1 (by decide)
    · rcases hp with h9 | ⟨-, hng⟩
      · exact absurd h9.1 (by decide)
      · obtain ⟨z, i, j, ⟨hz, hi, hj, e0, e1, e2, hij, hz1⟩, hg⟩ := hng
        clear hzz hkk hdd
        generalize H1 = H at hW ⊢
        generalize L1 = locs at hW ⊢
        refine W.eq (g2 := F0 m 515 ls [.int (nI 2)]) rfl ?_
        have hM2 := k_mchoose2 l Z hq ad cd n wg K F S T D V z i j hz hi hj hij hz1 hD hn4 hwg hg
        rw [← e0, ← e1, ← e2] at hM2
        refine lv_istore (lv' := [(5, .int (nI 2)), (0, .ref b), (1, .ref hb0), (2, .ref hq), (3, .ref out), (4, .int (nI (4 * t)))]) hx hb dL_law_515 hl (by decide) rfl (fun ls hl => ?_)
        have hW : Wd Z A s.heap (mw Z hq ad cd n wg K F S T D V ++ ((el Z out 1 r :: (cw Z hc x ++ bl Z hb0 hk hc hm wg mo n o)) ++ (eo hk 1 [.ref hc] :: vs))) _ _ := Wd.rot hW
        refine lv_aload_n hx hb dL_law_517 rfl (lv_at hl 3 rfl) ?_
        refine lv_aload_n hx hb dL_law_518 rfl (lv_at hl 1 rfl) ?_
        refine lv_iload hx hb dL_law_519 (lv_at hl 5 rfl) ?_
        refine lv_iconst (v := nI 1) hx hb dL_law_521 (by decide) ?_
        refine n_iadd hx hb dL_law_522 ?_
        refine s_ld (i := ((4 * t) + 1)) hx hb hX hbl hbA hW (by omega) (by omega) dL_law_523 ?_
        refine lv_aload_n hx hb dL_law_524 rfl (lv_at hl 1 rfl) ?_
        refine lv_iload hx hb dL_law_525 (lv_at hl 5 rfl) ?_
        refine lv_iconst (v := nI 2) hx hb dL_law_527 (by decide) ?_
        refine n_iadd hx hb dL_law_528 ?_
        refine s_ld (i := ((4 * t) + 2)) hx hb hX hbl hbA hW (by omega) (by omega) dL_law_529 ?_
        refine lv_aload_n hx hb dL_law_530 rfl (lv_at hl 1 rfl) ?_
        refine lv_iload hx hb dL_law_531 (lv_at hl 5 rfl) ?_
        refine lv_iconst (v := nI 3) hx hb dL_law_533 (by decide) ?_
        refine n_iadd hx hb dL_law_534 ?_
        refine s_ld (i := ((4 * t) + 3)) hx hb hX hbl hbA hW (by omega) (by omega) dL_law_535 ?_
        refine c_virt (As := [.int (xs ((4 * t) + 1)), .int (xs ((4 * t) + 2)), .int (xs ((4 * t) + 3))]) (rest := []) (wc := mw Z hq ad cd n wg K F S T D V) (wr := (el Z out 1 r :: (cw Z hc x ++ bl Z hb0 hk hc hm wg mo n o)) ++ (eo hk 1 [.ref hc] :: vs)) (nl := 0) hx hb hml hown hts hK hG rfl hA hl (hM2) hW trivial (hW.at 0 rfl) rfl rfl tb_852 tb_853 tb_854 tb_7 tb_855 (nA := 3) (by decide +kernel) rfl ⟨by omega, by omega⟩ ⟨by omega, by omega⟩ rfl (Nat.le_of_ble_eq_true rfl) dL_law_536 (fun v w1 H1 L1 hp hW hzz hkk hdd => ?_)
        obtain ⟨⟨r0, rfl⟩, rfl⟩ := hp
        clear hzz hkk hdd
        generalize H1 = H at hW ⊢
        generalize L1 = locs at hW ⊢
        refine W.eq (g2 := F0 m 539 ls [.int r0]) rfl ?_
        refine lv_istore (lv' := [(6, .int r0), (5, .int (nI 2)), (0, .ref b), (1, .ref hb0), (2, .ref hq), (3, .ref out), (4, .int (nI (4 * t)))]) hx hb dL_law_539 hl (by decide) rfl (fun ls hl => ?_)
        refine lv_aload_n hx hb dL_law_541 rfl (lv_at hl 4 rfl) ?_
        refine c_virt (As := []) (rest := []) (wc := mw Z hq ad 2 n wg K F S T D V) (wr := (el Z out 1 r :: (cw Z hc x ++ bl Z hb0 hk hc hm wg mo n o)) ++ (eo hk 1 [.ref hc] :: vs)) (nl := 0) hx hb hml hown hts hK hG rfl hA hl (k_thrown l Z hq ad 2 n wg K F S T D V) hW trivial (hW.at 0 rfl) rfl rfl tb_808 tb_809 tb_810 tb_7 tb_811 (nA := 0) (by decide +kernel) rfl ⟨by omega, by omega⟩ ⟨by omega, by omega⟩ rfl (Nat.le_of_ble_eq_true rfl) dL_law_542 (fun v w1 H1 L1 hp hW hzz hkk hdd => ?_)
        obtain ⟨rfl, rfl⟩ := hp
        clear hzz hkk hdd
        generalize H1 = H at hW ⊢
        generalize L1 = locs at hW ⊢
        refine W.eq (g2 := F0 m 545 ls [.int (nI 2)]) rfl ?_
        refine lv_iload hx hb dL_law_545 (lv_at hl 1 rfl) ?_
        refine n_eq_t (tgt := 552) hx hb rfl dL_law_547 (by decide) ?_
        refine lv_iload hx hb dL_law_552 (lv_at hl 1 rfl) ?_
        refine n_zne_t (tgt := 569) hx hb (by decide) (by omega) dL_law_554 (by decide) ?_
        refine lv_goto (tgt := 1052) hx hb dL_law_569 (by decide) ?_
        have hW : Wd Z A s.heap ((el Z out 1 r :: (cw Z hc x ++ bl Z hb0 hk hc hm wg mo n o)) ++ (mw Z hq ad 2 n wg K F S T D V ++ (eo hk 1 [.ref hc] :: vs))) _ _ := Wd.rot (w1 := mw Z hq ad 2 n wg K F S T D V) (wc := el Z out 1 r :: (cw Z hc x ++ bl Z hb0 hk hc hm wg mo n o)) hW
        exact kk _ _ _ _ ls ⟨x, σ, mo, n, wg, o, vd, vb, stb, rw, r, 2, K, F, S, T, D, V, vs, ⟨hvs, fun _ => hJ, by omega, by omega, by omega, by omega, by omega⟩, hW⟩ (lv_sub hl [2, 3, 4, 5, 6] rfl)
set_option maxHeartbeats 4000000 in
set_option maxRecDepth 100000 in
theorem c_concat {p : Program} (l : Launch) (hst : l.stackTraces = false) {e : Env} {R : Room} {s : State} {m : MethodId} {below : List Frame} {meth : Method} {c : Code} {b L : Nat} {xs : Nat → Int32} {Z : Zt} {A : Nat → Prop} (C : LC p R s m meth c b L xs Z A) (hL : L ≤ 2048) {Q : State → Prop} {t hb0 hk hc hm out hq : Nat} {ad : MA} (ht : 4 * t + 4 ≤ L)
    (kk : ∀ (H : Heap) (locs : List Loc) (cells slots : Nat) (ls : Array Slot), LE Z A s.heap H locs (t + 1) cells slots hb0 hk hc hm out hq ad → lv_has ls 8 [(0, .ref b), (1, .ref hb0), (2, .ref hq), (3, .ref out), (4, .int (nI (4 * t)))] → W p l e R s m #[Value.ref b] below meth c H locs cells slots Q (F0 m 1052 ls []))
    {H : Heap} {locs : List Loc} {cells slots : Nat} {ls : Array Slot} (hE : LE Z A s.heap H locs t cells slots hb0 hk hc hm out hq ad) (hl : lv_has ls 8 [(0, .ref b), (1, .ref hb0), (2, .ref hq), (3, .ref out), (4, .int (nI (4 * t)))]) : W p l e R s m #[Value.ref b] below meth c H locs cells slots Q (F0 m 572 ls []) := by
  obtain ⟨hx, hb, hml, hown, hts, hX, hbl, hlk, hnc, hK, hG, hA, hbA, hRf, hRc, hRs, hRl⟩ := C
  obtain ⟨x, σ, mo, n, wg, o, vd, vb, stb, rw, r, cd, K, F, S, T, D, V, vs, ⟨hvs, hJ, hnt, hwg, hu, hcl, hsl⟩, hW⟩ := hE
  have hJ := hJ (by omega)
  have hbk := hJ.1
  have hxn := hbk.2.2.2.1
  have hwd := hbk.2.2.2.2.2
  have hD : ∀ i, i < n → D i ≤ 64 := fun i hi => (hwd i hi).2.1
  have hn4 : n < 4000 := by omega
  refine lv_aload_n hx hb dL_law_572 rfl (lv_at hl 1 rfl) ?_
  refine lv_aload_n hx hb dL_law_573 rfl (lv_at hl 0 rfl) ?_
  refine lv_iload hx hb dL_law_574 (lv_at hl 4 rfl) ?_
  refine lv_iconst (v := nI 1) hx hb dL_law_576 (by decide) ?_
  refine n_iadd hx hb dL_law_577 ?_
  refine s_ld (i := ((4 * t) + 1)) hx hb hX hbl hbA hW (by omega) (by omega) dL_law_578 ?_
  refine lv_aload_n hx hb dL_law_579 rfl (lv_at hl 0 rfl) ?_
  refine lv_iload hx hb dL_law_580 (lv_at hl 4 rfl) ?_
  refine lv_iconst (v := nI 2) hx hb dL_law_582 (by decide) ?_
  refine n_iadd hx hb dL_law_583 ?_
  refine s_ld (i := ((4 * t) + 2)) hx hb hX hbl hbA hW (by omega) (by omega) dL_law_584 ?_
  refine lv_aload_n hx hb dL_law_585 rfl (lv_at hl 3 rfl) ?_
  by_cases hgd : ∃ i j, (i < n ∧ j < n ∧ xs ((4 * t) + 1) = nI i ∧ xs ((4 * t) + 2) = nI j ∧ D i + D j ≤ 64) ∧ D i + D j + wg ≤ 100000
  · obtain ⟨i, j, ⟨hi, hj, e0, e1, hij⟩, hg⟩ := hgd
    have hDi := hD i hi
    have hDj := hD j hj
    have hM := k_concat l hst Z hb0 hk hc hm x σ mo n wg o vd vb stb D rw (xs ((4 * t) + 1)) (xs ((4 * t) + 2)) hbk
    refine h_stat (As := [.ref hb0, .int (xs ((4 * t) + 1)), .int (xs ((4 * t) + 2)), .ref out]) (rest := []) (wc := el Z out 1 r :: (cw Z hc x ++ bl Z hb0 hk hc hm wg mo n o)) (wr := mw Z hq ad cd n wg K F S T D V ++ (eo hk 1 [.ref hc] :: vs)) hx hb hml hown hts hnc hK hG rfl hA hl (w_concat l Z hb0 hk hc hm x mo n wg o vd vb stb D rw (xs ((4 * t) + 1)) (xs ((4 * t) + 2)) out n _ _ r hM (fun v w1 h => by obtain ⟨i', j', ⟨hi', hj', e0', e1', hij'⟩, hg', ⟨y, nv, q, f, o2, hv, -⟩⟩ := h; exact hv) (by omega) (fun E h => h.elim (fun h => Or.inl h.1) (fun h => Or.inr h.1))) hW (bro_of hW hvs) tb_702 tb_703 tb_0 tb_704 (nA := 4) (by decide +kernel) rfl ⟨by omega, by omega⟩ ⟨by omega, by omega⟩ rfl (Nat.le_of_ble_eq_true rfl) dL_law_586 (fun v w1 H1 L1 hp hW hzz hkk hdd => ?_)
    rcases hp with ⟨rfl, v0, w0, hp, rfl⟩ | ⟨rfl, hp, rfl⟩ | ⟨rfl, hp, rfl⟩
    · obtain ⟨i', j', ⟨hi', hj', e0', e1', hij'⟩, hg', y, nv, q, f, o2, -, rfl, hs, hfb, hadd, hS⟩ := hp
      have i_i : i = i' := (nI_eq (by omega) (by omega)).mp (e0.symm.trans e0')
      have i_j : j = j' := (nI_eq (by omega) (by omega)).mp (e1.symm.trans e1')
      subst i_i
      subst i_j
      clear hzz hkk hdd
      generalize H1 = H at hW ⊢
      generalize L1 = locs at hW ⊢
      refine W.eq (g2 := F0 m 589 ls [.int (nI 0)]) rfl ?_
      have hM2 := k_mconcat1 l Z hq ad cd n wg K F S T D V i j hi hj hij hD hn4 hwg hg
      rw [← e0, ← e1] at hM2
      refine lv_istore (lv' := [(5, .int (nI 0)), (0, .ref b), (1, .ref hb0), (2, .ref hq), (3, .ref out), (4, .int (nI (4 * t)))]) hx hb dL_law_589 hl (by decide) rfl (fun ls hl => ?_)
      have hW : Wd Z A s.heap (mw Z hq ad cd n wg K F S T D V ++ ((el Z out 1 (up r 0 n) :: (cw Z hc y ++ [eo nv 2 [.ref q, .int (nI 0)], ea Z q (D i + D j) f] ++ bl Z hb0 hk hc hm (wg + (D i + D j)) (mo + nI 1) (n + 1) o2)) ++ (eo hk 1 [.ref hc] :: vs))) _ _ := Wd.rot hW
      refine lv_aload_n hx hb dL_law_591 rfl (lv_at hl 3 rfl) ?_
      refine lv_aload_n hx hb dL_law_592 rfl (lv_at hl 1 rfl) ?_
      refine lv_iload hx hb dL_law_593 (lv_at hl 5 rfl) ?_
      refine lv_iconst (v := nI 1) hx hb dL_law_595 (by decide) ?_
      refine n_iadd hx hb dL_law_596 ?_
      refine s_ld (i := ((4 * t) + 1)) hx hb hX hbl hbA hW (by omega) (by omega) dL_law_597 ?_
      refine lv_aload_n hx hb dL_law_598 rfl (lv_at hl 1 rfl) ?_
      refine lv_iload hx hb dL_law_599 (lv_at hl 5 rfl) ?_
      refine lv_iconst (v := nI 2) hx hb dL_law_601 (by decide) ?_
      refine n_iadd hx hb dL_law_602 ?_
      refine s_ld (i := ((4 * t) + 2)) hx hb hX hbl hbA hW (by omega) (by omega) dL_law_603 ?_
      refine c_virt (As := [.int (xs ((4 * t) + 1)), .int (xs ((4 * t) + 2))]) (rest := []) (wc := mw Z hq ad cd n wg K F S T D V) (wr := (el Z out 1 (up r 0 n) :: (cw Z hc y ++ [eo nv 2 [.ref q, .int (nI 0)], ea Z q (D i + D j) f] ++ bl Z hb0 hk hc hm (wg + (D i + D j)) (mo + nI 1) (n + 1) o2)) ++ (eo hk 1 [.ref hc] :: vs)) (nl := 0) hx hb hml hown hts hK hG rfl hA hl (hM2) hW trivial (hW.at 0 rfl) rfl rfl tb_856 tb_857 tb_858 tb_7 tb_859 (nA := 2) (by decide +kernel) rfl ⟨by omega, by omega⟩ ⟨by omega, by omega⟩ rfl (Nat.le_of_ble_eq_true rfl) dL_law_604 (fun v w1 H1 L1 hp hW hzz hkk hdd => ?_)
      obtain ⟨rfl, rfl⟩ := hp
      clear hzz hkk hdd
      generalize H1 = H at hW ⊢
      generalize L1 = locs at hW ⊢
      refine W.eq (g2 := F0 m 607 ls [.int (nI n)]) rfl ?_
      refine lv_istore (lv' := [(6, .int (nI n)), (5, .int (nI 0)), (0, .ref b), (1, .ref hb0), (2, .ref hq), (3, .ref out), (4, .int (nI (4 * t)))]) hx hb dL_law_607 hl (by decide) rfl (fun ls hl => ?_)
      refine lv_aload_n hx hb dL_law_609 rfl (lv_at hl 4 rfl) ?_
      refine c_virt (As := []) (rest := []) (wc := mw Z hq ad 0 (n + 1) (wg + (D i + D j)) (up K n 51) (up F n i) (up S n j) (up T n 0) (up D n (D i + D j)) (up V n 0)) (wr := (el Z out 1 (up r 0 n) :: (cw Z hc y ++ [eo nv 2 [.ref q, .int (nI 0)], ea Z q (D i + D j) f] ++ bl Z hb0 hk hc hm (wg + (D i + D j)) (mo + nI 1) (n + 1) o2)) ++ (eo hk 1 [.ref hc] :: vs)) (nl := 0) hx hb hml hown hts hK hG rfl hA hl (k_thrown l Z hq ad 0 (n + 1) (wg + (D i + D j)) (up K n 51) (up F n i) (up S n j) (up T n 0) (up D n (D i + D j)) (up V n 0)) hW trivial (hW.at 0 rfl) rfl rfl tb_808 tb_809 tb_810 tb_7 tb_811 (nA := 0) (by decide +kernel) rfl ⟨by omega, by omega⟩ ⟨by omega, by omega⟩ rfl (Nat.le_of_ble_eq_true rfl) dL_law_610 (fun v w1 H1 L1 hp hW hzz hkk hdd => ?_)
      obtain ⟨rfl, rfl⟩ := hp
      clear hzz hkk hdd
      generalize H1 = H at hW ⊢
      generalize L1 = locs at hW ⊢
      refine W.eq (g2 := F0 m 613 ls [.int (nI 0)]) rfl ?_
      refine lv_iload hx hb dL_law_613 (lv_at hl 1 rfl) ?_
      refine n_eq_t (tgt := 620) hx hb rfl dL_law_615 (by decide) ?_
      refine lv_iload hx hb dL_law_620 (lv_at hl 1 rfl) ?_
      refine n_zne_f (tgt := 637) hx hb rfl dL_law_622 (by decide) ?_
      refine lv_aload_n hx hb dL_law_625 rfl (lv_at hl 5 rfl) ?_
      refine lv_iconst (v := nI 0) hx hb dL_law_626 (by decide) ?_
      refine r_lald (i := 0) hx hb hK (hW.at 7 rfl) (by omega) (by omega) dL_law_627 ?_
      refine lv_iload hx hb dL_law_628 (lv_at hl 0 rfl) ?_
      refine lv_i2l (v := (nI n).toInt64) hx hb dL_law_630 rfl ?_
      refine W.lcmp hx hb dL_law_631 ?_
      refine lv_if_eq (tgt := 637) hx hb dL_law_632 (by decide) (fun _ => ?_) (fun q => absurd ((lg_cmp_eq _ _).mpr (by rw [up_s, nI_long (by omega)])) q)
      refine lv_goto (tgt := 1052) hx hb dL_law_637 (by decide) ?_
      have hW : Wd Z A s.heap ((el Z out 1 (up r 0 n) :: (cw Z hc y ++ [eo nv 2 [.ref q, .int (nI 0)], ea Z q (D i + D j) f] ++ bl Z hb0 hk hc hm (wg + (D i + D j)) (mo + nI 1) (n + 1) o2)) ++ (mw Z hq ad 0 (n + 1) (wg + (D i + D j)) (up K n 51) (up F n i) (up S n j) (up T n 0) (up D n (D i + D j)) (up V n 0) ++ (eo hk 1 [.ref hc] :: vs))) _ _ := Wd.rot (w1 := mw Z hq ad 0 (n + 1) (wg + (D i + D j)) (up K n 51) (up F n i) (up S n j) (up T n 0) (up D n (D i + D j)) (up V n 0)) (wc := el Z out 1 (up r 0 n) :: (cw Z hc y ++ [eo nv 2 [.ref q, .int (nI 0)], ea Z q (D i + D j) f] ++ bl Z hb0 hk hc hm (wg + (D i + D j)) (mo + nI 1) (n + 1) o2)) hW
      have hW := Wd.pull hW
      have hsu : xu y = xu x := by rw [hS.1]
      have hJ2 := J_concat hJ hi hj hij hg hs hfb hadd hS
      exact kk _ _ _ _ ls ⟨y, σ, mo + nI 1, n + 1, wg + (D i + D j), o2, up vd n nv, up vb n q, up stb n 0, up rw n f, up r 0 n, 0, up K n 51, up F n i, up S n j, up T n 0, up D n (D i + D j), up V n 0, [eo nv 2 [.ref q, .int (nI 0)], ea Z q (D i + D j) f] ++ vs, ⟨vs_new hvs nv q 0 (D i + D j) f, hJ2, by omega, by omega, by omega, by omega, by omega⟩, hW⟩ (lv_sub hl [2, 3, 4, 5, 6] rfl)
    · exact (hp.elim (fun h => h.2 ⟨i, j, hi, hj, e0, e1, hij⟩) (fun h => absurd h.1 (by decide))).elim
    · rcases hp with h | ⟨-, h⟩
      · exact absurd h.1 (by decide)
      · obtain ⟨i', j', ⟨hi', hj', e0', e1', hij'⟩, hg'⟩ := h
        have i_i : i = i' := (nI_eq (by omega) (by omega)).mp (e0.symm.trans e0')
        have i_j : j = j' := (nI_eq (by omega) (by omega)).mp (e1.symm.trans e1')
        subst i_i
        subst i_j
        exact absurd hg hg'
  · have hM := k_concat l hst Z hb0 hk hc hm x σ mo n wg o vd vb stb D rw (xs ((4 * t) + 1)) (xs ((4 * t) + 2)) hbk
    refine h_stat (As := [.ref hb0, .int (xs ((4 * t) + 1)), .int (xs ((4 * t) + 2)), .ref out]) (rest := []) (wc := el Z out 1 r :: (cw Z hc x ++ bl Z hb0 hk hc hm wg mo n o)) (wr := mw Z hq ad cd n wg K F S T D V ++ (eo hk 1 [.ref hc] :: vs)) hx hb hml hown hts hnc hK hG rfl hA hl (w_concat l Z hb0 hk hc hm x mo n wg o vd vb stb D rw (xs ((4 * t) + 1)) (xs ((4 * t) + 2)) out n _ _ r hM (fun v w1 h => by obtain ⟨i', j', ⟨hi', hj', e0', e1', hij'⟩, hg', ⟨y, nv, q, f, o2, hv, -⟩⟩ := h; exact hv) (by omega) (fun E h => h.elim (fun h => Or.inl h.1) (fun h => Or.inr h.1))) hW (bro_of hW hvs) tb_702 tb_703 tb_0 tb_704 (nA := 4) (by decide +kernel) rfl ⟨by omega, by omega⟩ ⟨by omega, by omega⟩ rfl (Nat.le_of_ble_eq_true rfl) dL_law_586 (fun v w1 H1 L1 hp hW hzz hkk hdd => ?_)
    rcases hp with ⟨rfl, v0, w0, hp, rfl⟩ | ⟨rfl, hp, rfl⟩ | ⟨rfl, hp, rfl⟩
    · obtain ⟨i, j, ⟨hi, hj, e0, e1, hij⟩, hg, -⟩ := hp
      exact absurd ⟨i, j, ⟨hi, hj, e0, e1, hij⟩, hg⟩ hgd
    · rcases hp with ⟨-, hng⟩ | h9
      · clear hzz hkk hdd
        generalize H1 = H at hW ⊢
        generalize L1 = locs at hW ⊢
        refine W.eq (g2 := F0 m 589 ls [.int (nI 1)]) rfl ?_
        have hM2 := k_mconcat0 l Z hq ad cd n wg K F S T D V (xs ((4 * t) + 1)) (xs ((4 * t) + 2)) hng hD hn4
        refine lv_istore (lv' := [(5, .int (nI 1)), (0, .ref b), (1, .ref hb0), (2, .ref hq), (3, .ref out), (4, .int (nI (4 * t)))]) hx hb dL_law_589 hl (by decide) rfl (fun ls hl => ?_)
        have hW : Wd Z A s.heap (mw Z hq ad cd n wg K F S T D V ++ ((el Z out 1 r :: (cw Z hc x ++ bl Z hb0 hk hc hm wg mo n o)) ++ (eo hk 1 [.ref hc] :: vs))) _ _ := Wd.rot hW
        refine lv_aload_n hx hb dL_law_591 rfl (lv_at hl 3 rfl) ?_
        refine lv_aload_n hx hb dL_law_592 rfl (lv_at hl 1 rfl) ?_
        refine lv_iload hx hb dL_law_593 (lv_at hl 5 rfl) ?_
        refine lv_iconst (v := nI 1) hx hb dL_law_595 (by decide) ?_
        refine n_iadd hx hb dL_law_596 ?_
        refine s_ld (i := ((4 * t) + 1)) hx hb hX hbl hbA hW (by omega) (by omega) dL_law_597 ?_
        refine lv_aload_n hx hb dL_law_598 rfl (lv_at hl 1 rfl) ?_
        refine lv_iload hx hb dL_law_599 (lv_at hl 5 rfl) ?_
        refine lv_iconst (v := nI 2) hx hb dL_law_601 (by decide) ?_
        refine n_iadd hx hb dL_law_602 ?_
        refine s_ld (i := ((4 * t) + 2)) hx hb hX hbl hbA hW (by omega) (by omega) dL_law_603 ?_
        refine c_virt (As := [.int (xs ((4 * t) + 1)), .int (xs ((4 * t) + 2))]) (rest := []) (wc := mw Z hq ad cd n wg K F S T D V) (wr := (el Z out 1 r :: (cw Z hc x ++ bl Z hb0 hk hc hm wg mo n o)) ++ (eo hk 1 [.ref hc] :: vs)) (nl := 0) hx hb hml hown hts hK hG rfl hA hl (hM2) hW trivial (hW.at 0 rfl) rfl rfl tb_856 tb_857 tb_858 tb_7 tb_859 (nA := 2) (by decide +kernel) rfl ⟨by omega, by omega⟩ ⟨by omega, by omega⟩ rfl (Nat.le_of_ble_eq_true rfl) dL_law_604 (fun v w1 H1 L1 hp hW hzz hkk hdd => ?_)
        obtain ⟨⟨r0, rfl⟩, rfl⟩ := hp
        clear hzz hkk hdd
        generalize H1 = H at hW ⊢
        generalize L1 = locs at hW ⊢
        refine W.eq (g2 := F0 m 607 ls [.int r0]) rfl ?_
        refine lv_istore (lv' := [(6, .int r0), (5, .int (nI 1)), (0, .ref b), (1, .ref hb0), (2, .ref hq), (3, .ref out), (4, .int (nI (4 * t)))]) hx hb dL_law_607 hl (by decide) rfl (fun ls hl => ?_)
        refine lv_aload_n hx hb dL_law_609 rfl (lv_at hl 4 rfl) ?_
        refine c_virt (As := []) (rest := []) (wc := mw Z hq ad 1 n wg K F S T D V) (wr := (el Z out 1 r :: (cw Z hc x ++ bl Z hb0 hk hc hm wg mo n o)) ++ (eo hk 1 [.ref hc] :: vs)) (nl := 0) hx hb hml hown hts hK hG rfl hA hl (k_thrown l Z hq ad 1 n wg K F S T D V) hW trivial (hW.at 0 rfl) rfl rfl tb_808 tb_809 tb_810 tb_7 tb_811 (nA := 0) (by decide +kernel) rfl ⟨by omega, by omega⟩ ⟨by omega, by omega⟩ rfl (Nat.le_of_ble_eq_true rfl) dL_law_610 (fun v w1 H1 L1 hp hW hzz hkk hdd => ?_)
        obtain ⟨rfl, rfl⟩ := hp
        clear hzz hkk hdd
        generalize H1 = H at hW ⊢
        generalize L1 = locs at hW ⊢
        refine W.eq (g2 := F0 m 613 ls [.int (nI 1)]) rfl ?_
        refine lv_iload hx hb dL_law_613 (lv_at hl 1 rfl) ?_
        refine n_eq_t (tgt := 620) hx hb rfl dL_law_615 (by decide) ?_
        refine lv_iload hx hb dL_law_620 (lv_at hl 1 rfl) ?_
        refine n_zne_t (tgt := 637) hx hb (by decide) (by omega) dL_law_622 (by decide) ?_
        refine lv_goto (tgt := 1052) hx hb dL_law_637 (by decide) ?_
        have hW : Wd Z A s.heap ((el Z out 1 r :: (cw Z hc x ++ bl Z hb0 hk hc hm wg mo n o)) ++ (mw Z hq ad 1 n wg K F S T D V ++ (eo hk 1 [.ref hc] :: vs))) _ _ := Wd.rot (w1 := mw Z hq ad 1 n wg K F S T D V) (wc := el Z out 1 r :: (cw Z hc x ++ bl Z hb0 hk hc hm wg mo n o)) hW
        exact kk _ _ _ _ ls ⟨x, σ, mo, n, wg, o, vd, vb, stb, rw, r, 1, K, F, S, T, D, V, vs, ⟨hvs, fun _ => hJ, by omega, by omega, by omega, by omega, by omega⟩, hW⟩ (lv_sub hl [2, 3, 4, 5, 6] rfl)
      · exact absurd h9.1 (by decide)
    · rcases hp with h9 | ⟨-, hng⟩
      · exact absurd h9.1 (by decide)
      · obtain ⟨i, j, ⟨hi, hj, e0, e1, hij⟩, hg⟩ := hng
        clear hzz hkk hdd
        generalize H1 = H at hW ⊢
        generalize L1 = locs at hW ⊢
        refine W.eq (g2 := F0 m 589 ls [.int (nI 2)]) rfl ?_
        have hM2 := k_mconcat2 l Z hq ad cd n wg K F S T D V i j hi hj hij hD hn4 hwg hg
        rw [← e0, ← e1] at hM2
        refine lv_istore (lv' := [(5, .int (nI 2)), (0, .ref b), (1, .ref hb0), (2, .ref hq), (3, .ref out), (4, .int (nI (4 * t)))]) hx hb dL_law_589 hl (by decide) rfl (fun ls hl => ?_)
        have hW : Wd Z A s.heap (mw Z hq ad cd n wg K F S T D V ++ ((el Z out 1 r :: (cw Z hc x ++ bl Z hb0 hk hc hm wg mo n o)) ++ (eo hk 1 [.ref hc] :: vs))) _ _ := Wd.rot hW
        refine lv_aload_n hx hb dL_law_591 rfl (lv_at hl 3 rfl) ?_
        refine lv_aload_n hx hb dL_law_592 rfl (lv_at hl 1 rfl) ?_
        refine lv_iload hx hb dL_law_593 (lv_at hl 5 rfl) ?_
        refine lv_iconst (v := nI 1) hx hb dL_law_595 (by decide) ?_
        refine n_iadd hx hb dL_law_596 ?_
        refine s_ld (i := ((4 * t) + 1)) hx hb hX hbl hbA hW (by omega) (by omega) dL_law_597 ?_
        refine lv_aload_n hx hb dL_law_598 rfl (lv_at hl 1 rfl) ?_
        refine lv_iload hx hb dL_law_599 (lv_at hl 5 rfl) ?_
        refine lv_iconst (v := nI 2) hx hb dL_law_601 (by decide) ?_
        refine n_iadd hx hb dL_law_602 ?_
        refine s_ld (i := ((4 * t) + 2)) hx hb hX hbl hbA hW (by omega) (by omega) dL_law_603 ?_
        refine c_virt (As := [.int (xs ((4 * t) + 1)), .int (xs ((4 * t) + 2))]) (rest := []) (wc := mw Z hq ad cd n wg K F S T D V) (wr := (el Z out 1 r :: (cw Z hc x ++ bl Z hb0 hk hc hm wg mo n o)) ++ (eo hk 1 [.ref hc] :: vs)) (nl := 0) hx hb hml hown hts hK hG rfl hA hl (hM2) hW trivial (hW.at 0 rfl) rfl rfl tb_856 tb_857 tb_858 tb_7 tb_859 (nA := 2) (by decide +kernel) rfl ⟨by omega, by omega⟩ ⟨by omega, by omega⟩ rfl (Nat.le_of_ble_eq_true rfl) dL_law_604 (fun v w1 H1 L1 hp hW hzz hkk hdd => ?_)
        obtain ⟨⟨r0, rfl⟩, rfl⟩ := hp
        clear hzz hkk hdd
        generalize H1 = H at hW ⊢
        generalize L1 = locs at hW ⊢
        refine W.eq (g2 := F0 m 607 ls [.int r0]) rfl ?_
        refine lv_istore (lv' := [(6, .int r0), (5, .int (nI 2)), (0, .ref b), (1, .ref hb0), (2, .ref hq), (3, .ref out), (4, .int (nI (4 * t)))]) hx hb dL_law_607 hl (by decide) rfl (fun ls hl => ?_)
        refine lv_aload_n hx hb dL_law_609 rfl (lv_at hl 4 rfl) ?_
        refine c_virt (As := []) (rest := []) (wc := mw Z hq ad 2 n wg K F S T D V) (wr := (el Z out 1 r :: (cw Z hc x ++ bl Z hb0 hk hc hm wg mo n o)) ++ (eo hk 1 [.ref hc] :: vs)) (nl := 0) hx hb hml hown hts hK hG rfl hA hl (k_thrown l Z hq ad 2 n wg K F S T D V) hW trivial (hW.at 0 rfl) rfl rfl tb_808 tb_809 tb_810 tb_7 tb_811 (nA := 0) (by decide +kernel) rfl ⟨by omega, by omega⟩ ⟨by omega, by omega⟩ rfl (Nat.le_of_ble_eq_true rfl) dL_law_610 (fun v w1 H1 L1 hp hW hzz hkk hdd => ?_)
        obtain ⟨rfl, rfl⟩ := hp
        clear hzz hkk hdd
        generalize H1 = H at hW ⊢
        generalize L1 = locs at hW ⊢
        refine W.eq (g2 := F0 m 613 ls [.int (nI 2)]) rfl ?_
        refine lv_iload hx hb dL_law_613 (lv_at hl 1 rfl) ?_
        refine n_eq_t (tgt := 620) hx hb rfl dL_law_615 (by decide) ?_
        refine lv_iload hx hb dL_law_620 (lv_at hl 1 rfl) ?_
        refine n_zne_t (tgt := 637) hx hb (by decide) (by omega) dL_law_622 (by decide) ?_
        refine lv_goto (tgt := 1052) hx hb dL_law_637 (by decide) ?_
        have hW : Wd Z A s.heap ((el Z out 1 r :: (cw Z hc x ++ bl Z hb0 hk hc hm wg mo n o)) ++ (mw Z hq ad 2 n wg K F S T D V ++ (eo hk 1 [.ref hc] :: vs))) _ _ := Wd.rot (w1 := mw Z hq ad 2 n wg K F S T D V) (wc := el Z out 1 r :: (cw Z hc x ++ bl Z hb0 hk hc hm wg mo n o)) hW
        exact kk _ _ _ _ ls ⟨x, σ, mo, n, wg, o, vd, vb, stb, rw, r, 2, K, F, S, T, D, V, vs, ⟨hvs, fun _ => hJ, by omega, by omega, by omega, by omega, by omega⟩, hW⟩ (lv_sub hl [2, 3, 4, 5, 6] rfl)
set_option maxHeartbeats 4000000 in
set_option maxRecDepth 100000 in
theorem c_extract {p : Program} (l : Launch) (hst : l.stackTraces = false) {e : Env} {R : Room} {s : State} {m : MethodId} {below : List Frame} {meth : Method} {c : Code} {b L : Nat} {xs : Nat → Int32} {Z : Zt} {A : Nat → Prop} (C : LC p R s m meth c b L xs Z A) (hL : L ≤ 2048) {Q : State → Prop} {t hb0 hk hc hm out hq : Nat} {ad : MA} (ht : 4 * t + 4 ≤ L)
    (kk : ∀ (H : Heap) (locs : List Loc) (cells slots : Nat) (ls : Array Slot), LE Z A s.heap H locs (t + 1) cells slots hb0 hk hc hm out hq ad → lv_has ls 8 [(0, .ref b), (1, .ref hb0), (2, .ref hq), (3, .ref out), (4, .int (nI (4 * t)))] → W p l e R s m #[Value.ref b] below meth c H locs cells slots Q (F0 m 1052 ls []))
    {H : Heap} {locs : List Loc} {cells slots : Nat} {ls : Array Slot} (hE : LE Z A s.heap H locs t cells slots hb0 hk hc hm out hq ad) (hl : lv_has ls 8 [(0, .ref b), (1, .ref hb0), (2, .ref hq), (3, .ref out), (4, .int (nI (4 * t)))]) : W p l e R s m #[Value.ref b] below meth c H locs cells slots Q (F0 m 640 ls []) := by
  obtain ⟨hx, hb, hml, hown, hts, hX, hbl, hlk, hnc, hK, hG, hA, hbA, hRf, hRc, hRs, hRl⟩ := C
  obtain ⟨x, σ, mo, n, wg, o, vd, vb, stb, rw, r, cd, K, F, S, T, D, V, vs, ⟨hvs, hJ, hnt, hwg, hu, hcl, hsl⟩, hW⟩ := hE
  have hJ := hJ (by omega)
  have hbk := hJ.1
  have hxn := hbk.2.2.2.1
  have hwd := hbk.2.2.2.2.2
  have hD : ∀ i, i < n → D i ≤ 64 := fun i hi => (hwd i hi).2.1
  have hn4 : n < 4000 := by omega
  refine lv_aload_n hx hb dL_law_640 rfl (lv_at hl 1 rfl) ?_
  refine lv_aload_n hx hb dL_law_641 rfl (lv_at hl 0 rfl) ?_
  refine lv_iload hx hb dL_law_642 (lv_at hl 4 rfl) ?_
  refine lv_iconst (v := nI 1) hx hb dL_law_644 (by decide) ?_
  refine n_iadd hx hb dL_law_645 ?_
  refine s_ld (i := ((4 * t) + 1)) hx hb hX hbl hbA hW (by omega) (by omega) dL_law_646 ?_
  refine lv_aload_n hx hb dL_law_647 rfl (lv_at hl 0 rfl) ?_
  refine lv_iload hx hb dL_law_648 (lv_at hl 4 rfl) ?_
  refine lv_iconst (v := nI 2) hx hb dL_law_650 (by decide) ?_
  refine n_iadd hx hb dL_law_651 ?_
  refine s_ld (i := ((4 * t) + 2)) hx hb hX hbl hbA hW (by omega) (by omega) dL_law_652 ?_
  refine lv_aload_n hx hb dL_law_653 rfl (lv_at hl 0 rfl) ?_
  refine lv_iload hx hb dL_law_654 (lv_at hl 4 rfl) ?_
  refine lv_iconst (v := nI 3) hx hb dL_law_656 (by decide) ?_
  refine n_iadd hx hb dL_law_657 ?_
  refine s_ld (i := ((4 * t) + 3)) hx hb hX hbl hbA hW (by omega) (by omega) dL_law_658 ?_
  refine lv_aload_n hx hb dL_law_659 rfl (lv_at hl 3 rfl) ?_
  by_cases hgd : ∃ i lo hi, (i < n ∧ xs ((4 * t) + 1) = nI i ∧ xs ((4 * t) + 3) = nI lo ∧ xs ((4 * t) + 2) = nI hi ∧ lo ≤ hi ∧ hi < D i) ∧ hi - lo + 1 + wg ≤ 100000
  · obtain ⟨i, lo, hh, ⟨hi, e0, e2, e1, hlo, hhi⟩, hg⟩ := hgd
    have hDi := hD i hi
    have hM := k_extract l hst Z hb0 hk hc hm x σ mo n wg o vd vb stb D rw (xs ((4 * t) + 1)) (xs ((4 * t) + 2)) (xs ((4 * t) + 3)) hbk
    refine h_stat (As := [.ref hb0, .int (xs ((4 * t) + 1)), .int (xs ((4 * t) + 2)), .int (xs ((4 * t) + 3)), .ref out]) (rest := []) (wc := el Z out 1 r :: (cw Z hc x ++ bl Z hb0 hk hc hm wg mo n o)) (wr := mw Z hq ad cd n wg K F S T D V ++ (eo hk 1 [.ref hc] :: vs)) hx hb hml hown hts hnc hK hG rfl hA hl (w_extract l Z hb0 hk hc hm x mo n wg o vd vb stb D rw (xs ((4 * t) + 1)) (xs ((4 * t) + 2)) (xs ((4 * t) + 3)) out n _ _ r hM (fun v w1 h => by obtain ⟨i', lo', hh', ⟨hi', e0', e2', e1', hlo', hhi'⟩, hg', ⟨y, nv, q, f, o2, hv, -⟩⟩ := h; exact hv) (by omega) (fun E h => h.elim (fun h => Or.inl h.1) (fun h => Or.inr h.1))) hW (bro_of hW hvs) tb_711 tb_712 tb_0 tb_713 (nA := 5) (by decide +kernel) rfl ⟨by omega, by omega⟩ ⟨by omega, by omega⟩ rfl (Nat.le_of_ble_eq_true rfl) dL_law_660 (fun v w1 H1 L1 hp hW hzz hkk hdd => ?_)
    rcases hp with ⟨rfl, v0, w0, hp, rfl⟩ | ⟨rfl, hp, rfl⟩ | ⟨rfl, hp, rfl⟩
    · obtain ⟨i', lo', hh', ⟨hi', e0', e2', e1', hlo', hhi'⟩, hg', y, nv, q, f, o2, -, rfl, hs, hfb, hadd, hS⟩ := hp
      have i_i : i = i' := (nI_eq (by omega) (by have := hD _ hi'; omega)).mp (e0.symm.trans e0')
      have i_hh : hh = hh' := (nI_eq (by omega) (by have := hD _ hi'; omega)).mp (e1.symm.trans e1')
      have i_lo : lo = lo' := (nI_eq (by omega) (by have := hD _ hi'; omega)).mp (e2.symm.trans e2')
      subst i_i
      subst i_hh
      subst i_lo
      clear hzz hkk hdd
      generalize H1 = H at hW ⊢
      generalize L1 = locs at hW ⊢
      refine W.eq (g2 := F0 m 663 ls [.int (nI 0)]) rfl ?_
      have hM2 := k_mextract1 l Z hq ad cd n wg K F S T D V i lo hh hi hlo hhi hD hn4 hwg hg
      rw [← e0, ← e1, ← e2] at hM2
      refine lv_istore (lv' := [(5, .int (nI 0)), (0, .ref b), (1, .ref hb0), (2, .ref hq), (3, .ref out), (4, .int (nI (4 * t)))]) hx hb dL_law_663 hl (by decide) rfl (fun ls hl => ?_)
      have hW : Wd Z A s.heap (mw Z hq ad cd n wg K F S T D V ++ ((el Z out 1 (up r 0 n) :: (cw Z hc y ++ [eo nv 2 [.ref q, .int (nI 0)], ea Z q (hh - lo + 1) f] ++ bl Z hb0 hk hc hm (wg + (hh - lo + 1)) (mo + nI 1) (n + 1) o2)) ++ (eo hk 1 [.ref hc] :: vs))) _ _ := Wd.rot hW
      refine lv_aload_n hx hb dL_law_665 rfl (lv_at hl 3 rfl) ?_
      refine lv_aload_n hx hb dL_law_666 rfl (lv_at hl 1 rfl) ?_
      refine lv_iload hx hb dL_law_667 (lv_at hl 5 rfl) ?_
      refine lv_iconst (v := nI 1) hx hb dL_law_669 (by decide) ?_
      refine n_iadd hx hb dL_law_670 ?_
      refine s_ld (i := ((4 * t) + 1)) hx hb hX hbl hbA hW (by omega) (by omega) dL_law_671 ?_
      refine lv_aload_n hx hb dL_law_672 rfl (lv_at hl 1 rfl) ?_
      refine lv_iload hx hb dL_law_673 (lv_at hl 5 rfl) ?_
      refine lv_iconst (v := nI 2) hx hb dL_law_675 (by decide) ?_
      refine n_iadd hx hb dL_law_676 ?_
      refine s_ld (i := ((4 * t) + 2)) hx hb hX hbl hbA hW (by omega) (by omega) dL_law_677 ?_
      refine lv_aload_n hx hb dL_law_678 rfl (lv_at hl 1 rfl) ?_
      refine lv_iload hx hb dL_law_679 (lv_at hl 5 rfl) ?_
      refine lv_iconst (v := nI 3) hx hb dL_law_681 (by decide) ?_
      refine n_iadd hx hb dL_law_682 ?_
      refine s_ld (i := ((4 * t) + 3)) hx hb hX hbl hbA hW (by omega) (by omega) dL_law_683 ?_
      refine c_virt (As := [.int (xs ((4 * t) + 1)), .int (xs ((4 * t) + 2)), .int (xs ((4 * t) + 3))]) (rest := []) (wc := mw Z hq ad cd n wg K F S T D V) (wr := (el Z out 1 (up r 0 n) :: (cw Z hc y ++ [eo nv 2 [.ref q, .int (nI 0)], ea Z q (hh - lo + 1) f] ++ bl Z hb0 hk hc hm (wg + (hh - lo + 1)) (mo + nI 1) (n + 1) o2)) ++ (eo hk 1 [.ref hc] :: vs)) (nl := 0) hx hb hml hown hts hK hG rfl hA hl (hM2) hW trivial (hW.at 0 rfl) rfl rfl tb_860 tb_861 tb_862 tb_7 tb_863 (nA := 3) (by decide +kernel) rfl ⟨by omega, by omega⟩ ⟨by omega, by omega⟩ rfl (Nat.le_of_ble_eq_true rfl) dL_law_684 (fun v w1 H1 L1 hp hW hzz hkk hdd => ?_)
      obtain ⟨rfl, rfl⟩ := hp
      clear hzz hkk hdd
      generalize H1 = H at hW ⊢
      generalize L1 = locs at hW ⊢
      refine W.eq (g2 := F0 m 687 ls [.int (nI n)]) rfl ?_
      refine lv_istore (lv' := [(6, .int (nI n)), (5, .int (nI 0)), (0, .ref b), (1, .ref hb0), (2, .ref hq), (3, .ref out), (4, .int (nI (4 * t)))]) hx hb dL_law_687 hl (by decide) rfl (fun ls hl => ?_)
      refine lv_aload_n hx hb dL_law_689 rfl (lv_at hl 4 rfl) ?_
      refine c_virt (As := []) (rest := []) (wc := mw Z hq ad 0 (n + 1) (wg + (hh - lo + 1)) (up K n 52) (up F n i) (up S n lo) (up T n 0) (up D n (hh - lo + 1)) (up V n 0)) (wr := (el Z out 1 (up r 0 n) :: (cw Z hc y ++ [eo nv 2 [.ref q, .int (nI 0)], ea Z q (hh - lo + 1) f] ++ bl Z hb0 hk hc hm (wg + (hh - lo + 1)) (mo + nI 1) (n + 1) o2)) ++ (eo hk 1 [.ref hc] :: vs)) (nl := 0) hx hb hml hown hts hK hG rfl hA hl (k_thrown l Z hq ad 0 (n + 1) (wg + (hh - lo + 1)) (up K n 52) (up F n i) (up S n lo) (up T n 0) (up D n (hh - lo + 1)) (up V n 0)) hW trivial (hW.at 0 rfl) rfl rfl tb_808 tb_809 tb_810 tb_7 tb_811 (nA := 0) (by decide +kernel) rfl ⟨by omega, by omega⟩ ⟨by omega, by omega⟩ rfl (Nat.le_of_ble_eq_true rfl) dL_law_690 (fun v w1 H1 L1 hp hW hzz hkk hdd => ?_)
      obtain ⟨rfl, rfl⟩ := hp
      clear hzz hkk hdd
      generalize H1 = H at hW ⊢
      generalize L1 = locs at hW ⊢
      refine W.eq (g2 := F0 m 693 ls [.int (nI 0)]) rfl ?_
      refine lv_iload hx hb dL_law_693 (lv_at hl 1 rfl) ?_
      refine n_eq_t (tgt := 700) hx hb rfl dL_law_695 (by decide) ?_
      refine lv_iload hx hb dL_law_700 (lv_at hl 1 rfl) ?_
      refine n_zne_f (tgt := 717) hx hb rfl dL_law_702 (by decide) ?_
      refine lv_aload_n hx hb dL_law_705 rfl (lv_at hl 5 rfl) ?_
      refine lv_iconst (v := nI 0) hx hb dL_law_706 (by decide) ?_
      refine r_lald (i := 0) hx hb hK (hW.at 7 rfl) (by omega) (by omega) dL_law_707 ?_
      refine lv_iload hx hb dL_law_708 (lv_at hl 0 rfl) ?_
      refine lv_i2l (v := (nI n).toInt64) hx hb dL_law_710 rfl ?_
      refine W.lcmp hx hb dL_law_711 ?_
      refine lv_if_eq (tgt := 717) hx hb dL_law_712 (by decide) (fun _ => ?_) (fun q => absurd ((lg_cmp_eq _ _).mpr (by rw [up_s, nI_long (by omega)])) q)
      refine lv_goto (tgt := 1052) hx hb dL_law_717 (by decide) ?_
      have hW : Wd Z A s.heap ((el Z out 1 (up r 0 n) :: (cw Z hc y ++ [eo nv 2 [.ref q, .int (nI 0)], ea Z q (hh - lo + 1) f] ++ bl Z hb0 hk hc hm (wg + (hh - lo + 1)) (mo + nI 1) (n + 1) o2)) ++ (mw Z hq ad 0 (n + 1) (wg + (hh - lo + 1)) (up K n 52) (up F n i) (up S n lo) (up T n 0) (up D n (hh - lo + 1)) (up V n 0) ++ (eo hk 1 [.ref hc] :: vs))) _ _ := Wd.rot (w1 := mw Z hq ad 0 (n + 1) (wg + (hh - lo + 1)) (up K n 52) (up F n i) (up S n lo) (up T n 0) (up D n (hh - lo + 1)) (up V n 0)) (wc := el Z out 1 (up r 0 n) :: (cw Z hc y ++ [eo nv 2 [.ref q, .int (nI 0)], ea Z q (hh - lo + 1) f] ++ bl Z hb0 hk hc hm (wg + (hh - lo + 1)) (mo + nI 1) (n + 1) o2)) hW
      have hW := Wd.pull hW
      have hsu : xu y = xu x := by rw [hS.1]
      have hJ2 := J_extract hJ hi hlo hhi hg hs hfb hadd hS
      exact kk _ _ _ _ ls ⟨y, σ, mo + nI 1, n + 1, wg + (hh - lo + 1), o2, up vd n nv, up vb n q, up stb n 0, up rw n f, up r 0 n, 0, up K n 52, up F n i, up S n lo, up T n 0, up D n (hh - lo + 1), up V n 0, [eo nv 2 [.ref q, .int (nI 0)], ea Z q (hh - lo + 1) f] ++ vs, ⟨vs_new hvs nv q 0 (hh - lo + 1) f, hJ2, by omega, by omega, by omega, by omega, by omega⟩, hW⟩ (lv_sub hl [2, 3, 4, 5, 6] rfl)
    · exact (hp.elim (fun h => h.2 ⟨i, lo, hh, hi, e0, e2, e1, hlo, hhi⟩) (fun h => absurd h.1 (by decide))).elim
    · rcases hp with h | ⟨-, h⟩
      · exact absurd h.1 (by decide)
      · obtain ⟨i', lo', hh', ⟨hi', e0', e2', e1', hlo', hhi'⟩, hg'⟩ := h
        have i_i : i = i' := (nI_eq (by omega) (by have := hD _ hi'; omega)).mp (e0.symm.trans e0')
        have i_hh : hh = hh' := (nI_eq (by omega) (by have := hD _ hi'; omega)).mp (e1.symm.trans e1')
        have i_lo : lo = lo' := (nI_eq (by omega) (by have := hD _ hi'; omega)).mp (e2.symm.trans e2')
        subst i_i
        subst i_hh
        subst i_lo
        exact absurd hg hg'
  · have hM := k_extract l hst Z hb0 hk hc hm x σ mo n wg o vd vb stb D rw (xs ((4 * t) + 1)) (xs ((4 * t) + 2)) (xs ((4 * t) + 3)) hbk
    refine h_stat (As := [.ref hb0, .int (xs ((4 * t) + 1)), .int (xs ((4 * t) + 2)), .int (xs ((4 * t) + 3)), .ref out]) (rest := []) (wc := el Z out 1 r :: (cw Z hc x ++ bl Z hb0 hk hc hm wg mo n o)) (wr := mw Z hq ad cd n wg K F S T D V ++ (eo hk 1 [.ref hc] :: vs)) hx hb hml hown hts hnc hK hG rfl hA hl (w_extract l Z hb0 hk hc hm x mo n wg o vd vb stb D rw (xs ((4 * t) + 1)) (xs ((4 * t) + 2)) (xs ((4 * t) + 3)) out n _ _ r hM (fun v w1 h => by obtain ⟨i', lo', hh', ⟨hi', e0', e2', e1', hlo', hhi'⟩, hg', ⟨y, nv, q, f, o2, hv, -⟩⟩ := h; exact hv) (by omega) (fun E h => h.elim (fun h => Or.inl h.1) (fun h => Or.inr h.1))) hW (bro_of hW hvs) tb_711 tb_712 tb_0 tb_713 (nA := 5) (by decide +kernel) rfl ⟨by omega, by omega⟩ ⟨by omega, by omega⟩ rfl (Nat.le_of_ble_eq_true rfl) dL_law_660 (fun v w1 H1 L1 hp hW hzz hkk hdd => ?_)
    rcases hp with ⟨rfl, v0, w0, hp, rfl⟩ | ⟨rfl, hp, rfl⟩ | ⟨rfl, hp, rfl⟩
    · obtain ⟨i, lo, hh, ⟨hi, e0, e2, e1, hlo, hhi⟩, hg, -⟩ := hp
      exact absurd ⟨i, lo, hh, ⟨hi, e0, e2, e1, hlo, hhi⟩, hg⟩ hgd
    · rcases hp with ⟨-, hng⟩ | h9
      · clear hzz hkk hdd
        generalize H1 = H at hW ⊢
        generalize L1 = locs at hW ⊢
        refine W.eq (g2 := F0 m 663 ls [.int (nI 1)]) rfl ?_
        have hM2 := k_mextract0 l Z hq ad cd n wg K F S T D V (xs ((4 * t) + 1)) (xs ((4 * t) + 2)) (xs ((4 * t) + 3)) hng hD hn4
        refine lv_istore (lv' := [(5, .int (nI 1)), (0, .ref b), (1, .ref hb0), (2, .ref hq), (3, .ref out), (4, .int (nI (4 * t)))]) hx hb dL_law_663 hl (by decide) rfl (fun ls hl => ?_)
        have hW : Wd Z A s.heap (mw Z hq ad cd n wg K F S T D V ++ ((el Z out 1 r :: (cw Z hc x ++ bl Z hb0 hk hc hm wg mo n o)) ++ (eo hk 1 [.ref hc] :: vs))) _ _ := Wd.rot hW
        refine lv_aload_n hx hb dL_law_665 rfl (lv_at hl 3 rfl) ?_
        refine lv_aload_n hx hb dL_law_666 rfl (lv_at hl 1 rfl) ?_
        refine lv_iload hx hb dL_law_667 (lv_at hl 5 rfl) ?_
        refine lv_iconst (v := nI 1) hx hb dL_law_669 (by decide) ?_
        refine n_iadd hx hb dL_law_670 ?_
        refine s_ld (i := ((4 * t) + 1)) hx hb hX hbl hbA hW (by omega) (by omega) dL_law_671 ?_
        refine lv_aload_n hx hb dL_law_672 rfl (lv_at hl 1 rfl) ?_
        refine lv_iload hx hb dL_law_673 (lv_at hl 5 rfl) ?_
        refine lv_iconst (v := nI 2) hx hb dL_law_675 (by decide) ?_
        refine n_iadd hx hb dL_law_676 ?_
        refine s_ld (i := ((4 * t) + 2)) hx hb hX hbl hbA hW (by omega) (by omega) dL_law_677 ?_
        refine lv_aload_n hx hb dL_law_678 rfl (lv_at hl 1 rfl) ?_
        refine lv_iload hx hb dL_law_679 (lv_at hl 5 rfl) ?_
        refine lv_iconst (v := nI 3) hx hb dL_law_681 (by decide) ?_
        refine n_iadd hx hb dL_law_682 ?_
        refine s_ld (i := ((4 * t) + 3)) hx hb hX hbl hbA hW (by omega) (by omega) dL_law_683 ?_
        refine c_virt (As := [.int (xs ((4 * t) + 1)), .int (xs ((4 * t) + 2)), .int (xs ((4 * t) + 3))]) (rest := []) (wc := mw Z hq ad cd n wg K F S T D V) (wr := (el Z out 1 r :: (cw Z hc x ++ bl Z hb0 hk hc hm wg mo n o)) ++ (eo hk 1 [.ref hc] :: vs)) (nl := 0) hx hb hml hown hts hK hG rfl hA hl (hM2) hW trivial (hW.at 0 rfl) rfl rfl tb_860 tb_861 tb_862 tb_7 tb_863 (nA := 3) (by decide +kernel) rfl ⟨by omega, by omega⟩ ⟨by omega, by omega⟩ rfl (Nat.le_of_ble_eq_true rfl) dL_law_684 (fun v w1 H1 L1 hp hW hzz hkk hdd => ?_)
        obtain ⟨⟨r0, rfl⟩, rfl⟩ := hp
        clear hzz hkk hdd
        generalize H1 = H at hW ⊢
        generalize L1 = locs at hW ⊢
        refine W.eq (g2 := F0 m 687 ls [.int r0]) rfl ?_
        refine lv_istore (lv' := [(6, .int r0), (5, .int (nI 1)), (0, .ref b), (1, .ref hb0), (2, .ref hq), (3, .ref out), (4, .int (nI (4 * t)))]) hx hb dL_law_687 hl (by decide) rfl (fun ls hl => ?_)
        refine lv_aload_n hx hb dL_law_689 rfl (lv_at hl 4 rfl) ?_
        refine c_virt (As := []) (rest := []) (wc := mw Z hq ad 1 n wg K F S T D V) (wr := (el Z out 1 r :: (cw Z hc x ++ bl Z hb0 hk hc hm wg mo n o)) ++ (eo hk 1 [.ref hc] :: vs)) (nl := 0) hx hb hml hown hts hK hG rfl hA hl (k_thrown l Z hq ad 1 n wg K F S T D V) hW trivial (hW.at 0 rfl) rfl rfl tb_808 tb_809 tb_810 tb_7 tb_811 (nA := 0) (by decide +kernel) rfl ⟨by omega, by omega⟩ ⟨by omega, by omega⟩ rfl (Nat.le_of_ble_eq_true rfl) dL_law_690 (fun v w1 H1 L1 hp hW hzz hkk hdd => ?_)
        obtain ⟨rfl, rfl⟩ := hp
        clear hzz hkk hdd
        generalize H1 = H at hW ⊢
        generalize L1 = locs at hW ⊢
        refine W.eq (g2 := F0 m 693 ls [.int (nI 1)]) rfl ?_
        refine lv_iload hx hb dL_law_693 (lv_at hl 1 rfl) ?_
        refine n_eq_t (tgt := 700) hx hb rfl dL_law_695 (by decide) ?_
        refine lv_iload hx hb dL_law_700 (lv_at hl 1 rfl) ?_
        refine n_zne_t (tgt := 717) hx hb (by decide) (by omega) dL_law_702 (by decide) ?_
        refine lv_goto (tgt := 1052) hx hb dL_law_717 (by decide) ?_
        have hW : Wd Z A s.heap ((el Z out 1 r :: (cw Z hc x ++ bl Z hb0 hk hc hm wg mo n o)) ++ (mw Z hq ad 1 n wg K F S T D V ++ (eo hk 1 [.ref hc] :: vs))) _ _ := Wd.rot (w1 := mw Z hq ad 1 n wg K F S T D V) (wc := el Z out 1 r :: (cw Z hc x ++ bl Z hb0 hk hc hm wg mo n o)) hW
        exact kk _ _ _ _ ls ⟨x, σ, mo, n, wg, o, vd, vb, stb, rw, r, 1, K, F, S, T, D, V, vs, ⟨hvs, fun _ => hJ, by omega, by omega, by omega, by omega, by omega⟩, hW⟩ (lv_sub hl [2, 3, 4, 5, 6] rfl)
      · exact absurd h9.1 (by decide)
    · rcases hp with h9 | ⟨-, hng⟩
      · exact absurd h9.1 (by decide)
      · obtain ⟨i, lo, hh, ⟨hi, e0, e2, e1, hlo, hhi⟩, hg⟩ := hng
        clear hzz hkk hdd
        generalize H1 = H at hW ⊢
        generalize L1 = locs at hW ⊢
        refine W.eq (g2 := F0 m 663 ls [.int (nI 2)]) rfl ?_
        have hM2 := k_mextract2 l Z hq ad cd n wg K F S T D V i lo hh hi hlo hhi hD hn4 hwg hg
        rw [← e0, ← e1, ← e2] at hM2
        refine lv_istore (lv' := [(5, .int (nI 2)), (0, .ref b), (1, .ref hb0), (2, .ref hq), (3, .ref out), (4, .int (nI (4 * t)))]) hx hb dL_law_663 hl (by decide) rfl (fun ls hl => ?_)
        have hW : Wd Z A s.heap (mw Z hq ad cd n wg K F S T D V ++ ((el Z out 1 r :: (cw Z hc x ++ bl Z hb0 hk hc hm wg mo n o)) ++ (eo hk 1 [.ref hc] :: vs))) _ _ := Wd.rot hW
        refine lv_aload_n hx hb dL_law_665 rfl (lv_at hl 3 rfl) ?_
        refine lv_aload_n hx hb dL_law_666 rfl (lv_at hl 1 rfl) ?_
        refine lv_iload hx hb dL_law_667 (lv_at hl 5 rfl) ?_
        refine lv_iconst (v := nI 1) hx hb dL_law_669 (by decide) ?_
        refine n_iadd hx hb dL_law_670 ?_
        refine s_ld (i := ((4 * t) + 1)) hx hb hX hbl hbA hW (by omega) (by omega) dL_law_671 ?_
        refine lv_aload_n hx hb dL_law_672 rfl (lv_at hl 1 rfl) ?_
        refine lv_iload hx hb dL_law_673 (lv_at hl 5 rfl) ?_
        refine lv_iconst (v := nI 2) hx hb dL_law_675 (by decide) ?_
        refine n_iadd hx hb dL_law_676 ?_
        refine s_ld (i := ((4 * t) + 2)) hx hb hX hbl hbA hW (by omega) (by omega) dL_law_677 ?_
        refine lv_aload_n hx hb dL_law_678 rfl (lv_at hl 1 rfl) ?_
        refine lv_iload hx hb dL_law_679 (lv_at hl 5 rfl) ?_
        refine lv_iconst (v := nI 3) hx hb dL_law_681 (by decide) ?_
        refine n_iadd hx hb dL_law_682 ?_
        refine s_ld (i := ((4 * t) + 3)) hx hb hX hbl hbA hW (by omega) (by omega) dL_law_683 ?_
        refine c_virt (As := [.int (xs ((4 * t) + 1)), .int (xs ((4 * t) + 2)), .int (xs ((4 * t) + 3))]) (rest := []) (wc := mw Z hq ad cd n wg K F S T D V) (wr := (el Z out 1 r :: (cw Z hc x ++ bl Z hb0 hk hc hm wg mo n o)) ++ (eo hk 1 [.ref hc] :: vs)) (nl := 0) hx hb hml hown hts hK hG rfl hA hl (hM2) hW trivial (hW.at 0 rfl) rfl rfl tb_860 tb_861 tb_862 tb_7 tb_863 (nA := 3) (by decide +kernel) rfl ⟨by omega, by omega⟩ ⟨by omega, by omega⟩ rfl (Nat.le_of_ble_eq_true rfl) dL_law_684 (fun v w1 H1 L1 hp hW hzz hkk hdd => ?_)
        obtain ⟨⟨r0, rfl⟩, rfl⟩ := hp
        clear hzz hkk hdd
        generalize H1 = H at hW ⊢
        generalize L1 = locs at hW ⊢
        refine W.eq (g2 := F0 m 687 ls [.int r0]) rfl ?_
        refine lv_istore (lv' := [(6, .int r0), (5, .int (nI 2)), (0, .ref b), (1, .ref hb0), (2, .ref hq), (3, .ref out), (4, .int (nI (4 * t)))]) hx hb dL_law_687 hl (by decide) rfl (fun ls hl => ?_)
        refine lv_aload_n hx hb dL_law_689 rfl (lv_at hl 4 rfl) ?_
        refine c_virt (As := []) (rest := []) (wc := mw Z hq ad 2 n wg K F S T D V) (wr := (el Z out 1 r :: (cw Z hc x ++ bl Z hb0 hk hc hm wg mo n o)) ++ (eo hk 1 [.ref hc] :: vs)) (nl := 0) hx hb hml hown hts hK hG rfl hA hl (k_thrown l Z hq ad 2 n wg K F S T D V) hW trivial (hW.at 0 rfl) rfl rfl tb_808 tb_809 tb_810 tb_7 tb_811 (nA := 0) (by decide +kernel) rfl ⟨by omega, by omega⟩ ⟨by omega, by omega⟩ rfl (Nat.le_of_ble_eq_true rfl) dL_law_690 (fun v w1 H1 L1 hp hW hzz hkk hdd => ?_)
        obtain ⟨rfl, rfl⟩ := hp
        clear hzz hkk hdd
        generalize H1 = H at hW ⊢
        generalize L1 = locs at hW ⊢
        refine W.eq (g2 := F0 m 693 ls [.int (nI 2)]) rfl ?_
        refine lv_iload hx hb dL_law_693 (lv_at hl 1 rfl) ?_
        refine n_eq_t (tgt := 700) hx hb rfl dL_law_695 (by decide) ?_
        refine lv_iload hx hb dL_law_700 (lv_at hl 1 rfl) ?_
        refine n_zne_t (tgt := 717) hx hb (by decide) (by omega) dL_law_702 (by decide) ?_
        refine lv_goto (tgt := 1052) hx hb dL_law_717 (by decide) ?_
        have hW : Wd Z A s.heap ((el Z out 1 r :: (cw Z hc x ++ bl Z hb0 hk hc hm wg mo n o)) ++ (mw Z hq ad 2 n wg K F S T D V ++ (eo hk 1 [.ref hc] :: vs))) _ _ := Wd.rot (w1 := mw Z hq ad 2 n wg K F S T D V) (wc := el Z out 1 r :: (cw Z hc x ++ bl Z hb0 hk hc hm wg mo n o)) hW
        exact kk _ _ _ _ ls ⟨x, σ, mo, n, wg, o, vd, vb, stb, rw, r, 2, K, F, S, T, D, V, vs, ⟨hvs, fun _ => hJ, by omega, by omega, by omega, by omega, by omega⟩, hW⟩ (lv_sub hl [2, 3, 4, 5, 6] rfl)
set_option maxHeartbeats 4000000 in
set_option maxRecDepth 100000 in
theorem c_extend0 {p : Program} (l : Launch) (hst : l.stackTraces = false) {e : Env} {R : Room} {s : State} {m : MethodId} {below : List Frame} {meth : Method} {c : Code} {b L : Nat} {xs : Nat → Int32} {Z : Zt} {A : Nat → Prop} (C : LC p R s m meth c b L xs Z A) (hL : L ≤ 2048) {Q : State → Prop} {t hb0 hk hc hm out hq : Nat} {ad : MA} (ht : 4 * t + 4 ≤ L) (hz : xs ((4 * t) + 3) = 0)
    (kk : ∀ (H : Heap) (locs : List Loc) (cells slots : Nat) (ls : Array Slot), LE Z A s.heap H locs (t + 1) cells slots hb0 hk hc hm out hq ad → lv_has ls 8 [(0, .ref b), (1, .ref hb0), (2, .ref hq), (3, .ref out), (4, .int (nI (4 * t)))] → W p l e R s m #[Value.ref b] below meth c H locs cells slots Q (F0 m 1052 ls []))
    {H : Heap} {locs : List Loc} {cells slots : Nat} {ls : Array Slot} (hE : LE Z A s.heap H locs t cells slots hb0 hk hc hm out hq ad) (hl : lv_has ls 8 [(0, .ref b), (1, .ref hb0), (2, .ref hq), (3, .ref out), (4, .int (nI (4 * t)))]) : W p l e R s m #[Value.ref b] below meth c H locs cells slots Q (F0 m 720 ls []) := by
  obtain ⟨hx, hb, hml, hown, hts, hX, hbl, hlk, hnc, hK, hG, hA, hbA, hRf, hRc, hRs, hRl⟩ := C
  obtain ⟨x, σ, mo, n, wg, o, vd, vb, stb, rw, r, cd, K, F, S, T, D, V, vs, ⟨hvs, hJ, hnt, hwg, hu, hcl, hsl⟩, hW⟩ := hE
  have hJ := hJ (by omega)
  have hbk := hJ.1
  have hxn := hbk.2.2.2.1
  have hwd := hbk.2.2.2.2.2
  have hD : ∀ i, i < n → D i ≤ 64 := fun i hi => (hwd i hi).2.1
  have hn4 : n < 4000 := by omega
  refine lv_aload_n hx hb dL_law_720 rfl (lv_at hl 1 rfl) ?_
  refine lv_aload_n hx hb dL_law_721 rfl (lv_at hl 0 rfl) ?_
  refine lv_iload hx hb dL_law_722 (lv_at hl 4 rfl) ?_
  refine lv_iconst (v := nI 1) hx hb dL_law_724 (by decide) ?_
  refine n_iadd hx hb dL_law_725 ?_
  refine s_ld (i := ((4 * t) + 1)) hx hb hX hbl hbA hW (by omega) (by omega) dL_law_726 ?_
  refine lv_aload_n hx hb dL_law_727 rfl (lv_at hl 0 rfl) ?_
  refine lv_iload hx hb dL_law_728 (lv_at hl 4 rfl) ?_
  refine lv_iconst (v := nI 2) hx hb dL_law_730 (by decide) ?_
  refine n_iadd hx hb dL_law_731 ?_
  refine s_ld (i := ((4 * t) + 2)) hx hb hX hbl hbA hW (by omega) (by omega) dL_law_732 ?_
  refine lv_aload_n hx hb dL_law_733 rfl (lv_at hl 0 rfl) ?_
  refine lv_iload hx hb dL_law_734 (lv_at hl 4 rfl) ?_
  refine lv_iconst (v := nI 3) hx hb dL_law_736 (by decide) ?_
  refine n_iadd hx hb dL_law_737 ?_
  refine s_ld (i := ((4 * t) + 3)) hx hb hX hbl hbA hW (by omega) (by omega) dL_law_738 ?_
  refine lv_if_eq (tgt := 746) hx hb dL_law_739 (by decide) (fun _ => ?_) (fun q => absurd hz q)
  refine lv_iconst (v := nI 0) hx hb dL_law_746 (by decide) ?_
  refine lv_aload_n hx hb dL_law_747 rfl (lv_at hl 3 rfl) ?_
  by_cases hgd : ∃ i b, (i < n ∧ xs ((4 * t) + 1) = nI i ∧ xs ((4 * t) + 2) = nI b ∧ D i + b ≤ 64) ∧ D i + b + wg ≤ 100000
  · obtain ⟨i, bb, ⟨hi, e0, e1, hij⟩, hg⟩ := hgd
    have hDi := hD i hi
    have hM := k_extend l hst Z hb0 hk hc hm x σ mo n wg o vd vb stb D rw (xs ((4 * t) + 1)) (xs ((4 * t) + 2)) 0 hbk (by decide)
    refine h_stat (As := [.ref hb0, .int (xs ((4 * t) + 1)), .int (xs ((4 * t) + 2)), .int (nI 0), .ref out]) (rest := []) (wc := el Z out 1 r :: (cw Z hc x ++ bl Z hb0 hk hc hm wg mo n o)) (wr := mw Z hq ad cd n wg K F S T D V ++ (eo hk 1 [.ref hc] :: vs)) hx hb hml hown hts hnc hK hG rfl hA hl (w_extend l Z hb0 hk hc hm x mo n wg o vd vb stb D rw (xs ((4 * t) + 1)) (xs ((4 * t) + 2)) (nI 0) out n _ _ r hM (fun v w1 h => by obtain ⟨i', bb', ⟨hi', e0', e1', hij'⟩, hg', ⟨y, nv, q, f, o2, hv, -⟩⟩ := h; exact hv) (by omega) (fun E h => h.elim (fun h => Or.inl h.1) (fun h => Or.inr h.1))) hW (bro_of hW hvs) tb_720 tb_721 tb_0 tb_722 (nA := 5) (by decide +kernel) rfl ⟨by omega, by omega⟩ ⟨by omega, by omega⟩ rfl (Nat.le_of_ble_eq_true rfl) dL_law_748 (fun v w1 H1 L1 hp hW hzz hkk hdd => ?_)
    rcases hp with ⟨rfl, v0, w0, hp, rfl⟩ | ⟨rfl, hp, rfl⟩ | ⟨rfl, hp, rfl⟩
    · obtain ⟨i', bb', ⟨hi', e0', e1', hij'⟩, hg', y, nv, q, f, o2, -, rfl, hs, hfb, hadd, hS⟩ := hp
      have i_i : i = i' := (nI_eq (by omega) (by omega)).mp (e0.symm.trans e0')
      have i_bb : bb = bb' := (nI_eq (by omega) (by omega)).mp (e1.symm.trans e1')
      subst i_i
      subst i_bb
      clear hzz hkk hdd
      generalize H1 = H at hW ⊢
      generalize L1 = locs at hW ⊢
      refine W.eq (g2 := F0 m 751 ls [.int (nI 0)]) rfl ?_
      have hM2 := k_mextend1 l Z hq ad cd n wg K F S T D V i bb 0 (by decide) hi hij hD hn4 hwg hg
      rw [← e0, ← e1] at hM2
      refine lv_istore (lv' := [(5, .int (nI 0)), (0, .ref b), (1, .ref hb0), (2, .ref hq), (3, .ref out), (4, .int (nI (4 * t)))]) hx hb dL_law_751 hl (by decide) rfl (fun ls hl => ?_)
      have hW : Wd Z A s.heap (mw Z hq ad cd n wg K F S T D V ++ ((el Z out 1 (up r 0 n) :: (cw Z hc y ++ [eo nv 2 [.ref q, .int (nI 0)], ea Z q (D i + bb) f] ++ bl Z hb0 hk hc hm (wg + (D i + bb)) (mo + nI 1) (n + 1) o2)) ++ (eo hk 1 [.ref hc] :: vs))) _ _ := Wd.rot hW
      refine lv_aload_n hx hb dL_law_753 rfl (lv_at hl 3 rfl) ?_
      refine lv_aload_n hx hb dL_law_754 rfl (lv_at hl 1 rfl) ?_
      refine lv_iload hx hb dL_law_755 (lv_at hl 5 rfl) ?_
      refine lv_iconst (v := nI 1) hx hb dL_law_757 (by decide) ?_
      refine n_iadd hx hb dL_law_758 ?_
      refine s_ld (i := ((4 * t) + 1)) hx hb hX hbl hbA hW (by omega) (by omega) dL_law_759 ?_
      refine lv_aload_n hx hb dL_law_760 rfl (lv_at hl 1 rfl) ?_
      refine lv_iload hx hb dL_law_761 (lv_at hl 5 rfl) ?_
      refine lv_iconst (v := nI 2) hx hb dL_law_763 (by decide) ?_
      refine n_iadd hx hb dL_law_764 ?_
      refine s_ld (i := ((4 * t) + 2)) hx hb hX hbl hbA hW (by omega) (by omega) dL_law_765 ?_
      refine lv_aload_n hx hb dL_law_766 rfl (lv_at hl 1 rfl) ?_
      refine lv_iload hx hb dL_law_767 (lv_at hl 5 rfl) ?_
      refine lv_iconst (v := nI 3) hx hb dL_law_769 (by decide) ?_
      refine n_iadd hx hb dL_law_770 ?_
      refine s_ld (i := ((4 * t) + 3)) hx hb hX hbl hbA hW (by omega) (by omega) dL_law_771 ?_
      refine lv_if_eq (tgt := 779) hx hb dL_law_772 (by decide) (fun _ => ?_) (fun q => absurd hz q)
      refine lv_iconst (v := nI 0) hx hb dL_law_779 (by decide) ?_
      refine c_virt (As := [.int (xs ((4 * t) + 1)), .int (xs ((4 * t) + 2)), .int (nI 0)]) (rest := []) (wc := mw Z hq ad cd n wg K F S T D V) (wr := (el Z out 1 (up r 0 n) :: (cw Z hc y ++ [eo nv 2 [.ref q, .int (nI 0)], ea Z q (D i + bb) f] ++ bl Z hb0 hk hc hm (wg + (D i + bb)) (mo + nI 1) (n + 1) o2)) ++ (eo hk 1 [.ref hc] :: vs)) (nl := 0) hx hb hml hown hts hK hG rfl hA hl (hM2) hW trivial (hW.at 0 rfl) rfl rfl tb_864 tb_865 tb_866 tb_7 tb_867 (nA := 3) (by decide +kernel) rfl ⟨by omega, by omega⟩ ⟨by omega, by omega⟩ rfl (Nat.le_of_ble_eq_true rfl) dL_law_780 (fun v w1 H1 L1 hp hW hzz hkk hdd => ?_)
      obtain ⟨rfl, rfl⟩ := hp
      clear hzz hkk hdd
      generalize H1 = H at hW ⊢
      generalize L1 = locs at hW ⊢
      refine W.eq (g2 := F0 m 783 ls [.int (nI n)]) rfl ?_
      refine lv_istore (lv' := [(6, .int (nI n)), (5, .int (nI 0)), (0, .ref b), (1, .ref hb0), (2, .ref hq), (3, .ref out), (4, .int (nI (4 * t)))]) hx hb dL_law_783 hl (by decide) rfl (fun ls hl => ?_)
      refine lv_aload_n hx hb dL_law_785 rfl (lv_at hl 4 rfl) ?_
      refine c_virt (As := []) (rest := []) (wc := mw Z hq ad 0 (n + 1) (wg + (D i + bb)) (up K n (53 + 0)) (up F n i) (up S n 0) (up T n 0) (up D n (D i + bb)) (up V n 0)) (wr := (el Z out 1 (up r 0 n) :: (cw Z hc y ++ [eo nv 2 [.ref q, .int (nI 0)], ea Z q (D i + bb) f] ++ bl Z hb0 hk hc hm (wg + (D i + bb)) (mo + nI 1) (n + 1) o2)) ++ (eo hk 1 [.ref hc] :: vs)) (nl := 0) hx hb hml hown hts hK hG rfl hA hl (k_thrown l Z hq ad 0 (n + 1) (wg + (D i + bb)) (up K n (53 + 0)) (up F n i) (up S n 0) (up T n 0) (up D n (D i + bb)) (up V n 0)) hW trivial (hW.at 0 rfl) rfl rfl tb_808 tb_809 tb_810 tb_7 tb_811 (nA := 0) (by decide +kernel) rfl ⟨by omega, by omega⟩ ⟨by omega, by omega⟩ rfl (Nat.le_of_ble_eq_true rfl) dL_law_786 (fun v w1 H1 L1 hp hW hzz hkk hdd => ?_)
      obtain ⟨rfl, rfl⟩ := hp
      clear hzz hkk hdd
      generalize H1 = H at hW ⊢
      generalize L1 = locs at hW ⊢
      refine W.eq (g2 := F0 m 789 ls [.int (nI 0)]) rfl ?_
      refine lv_iload hx hb dL_law_789 (lv_at hl 1 rfl) ?_
      refine n_eq_t (tgt := 796) hx hb rfl dL_law_791 (by decide) ?_
      refine lv_iload hx hb dL_law_796 (lv_at hl 1 rfl) ?_
      refine n_zne_f (tgt := 813) hx hb rfl dL_law_798 (by decide) ?_
      refine lv_aload_n hx hb dL_law_801 rfl (lv_at hl 5 rfl) ?_
      refine lv_iconst (v := nI 0) hx hb dL_law_802 (by decide) ?_
      refine r_lald (i := 0) hx hb hK (hW.at 7 rfl) (by omega) (by omega) dL_law_803 ?_
      refine lv_iload hx hb dL_law_804 (lv_at hl 0 rfl) ?_
      refine lv_i2l (v := (nI n).toInt64) hx hb dL_law_806 rfl ?_
      refine W.lcmp hx hb dL_law_807 ?_
      refine lv_if_eq (tgt := 813) hx hb dL_law_808 (by decide) (fun _ => ?_) (fun q => absurd ((lg_cmp_eq _ _).mpr (by rw [up_s, nI_long (by omega)])) q)
      refine lv_goto (tgt := 1052) hx hb dL_law_813 (by decide) ?_
      have hW : Wd Z A s.heap ((el Z out 1 (up r 0 n) :: (cw Z hc y ++ [eo nv 2 [.ref q, .int (nI 0)], ea Z q (D i + bb) f] ++ bl Z hb0 hk hc hm (wg + (D i + bb)) (mo + nI 1) (n + 1) o2)) ++ (mw Z hq ad 0 (n + 1) (wg + (D i + bb)) (up K n (53 + 0)) (up F n i) (up S n 0) (up T n 0) (up D n (D i + bb)) (up V n 0) ++ (eo hk 1 [.ref hc] :: vs))) _ _ := Wd.rot (w1 := mw Z hq ad 0 (n + 1) (wg + (D i + bb)) (up K n (53 + 0)) (up F n i) (up S n 0) (up T n 0) (up D n (D i + bb)) (up V n 0)) (wc := el Z out 1 (up r 0 n) :: (cw Z hc y ++ [eo nv 2 [.ref q, .int (nI 0)], ea Z q (D i + bb) f] ++ bl Z hb0 hk hc hm (wg + (D i + bb)) (mo + nI 1) (n + 1) o2)) hW
      have hW := Wd.pull hW
      have hsu : xu y = xu x := by rw [hS.1]
      have hJ2 := J_extend hJ (sg := 0) (by decide) hi hij hg hs hfb hadd hS
      exact kk _ _ _ _ ls ⟨y, σ, mo + nI 1, n + 1, wg + (D i + bb), o2, up vd n nv, up vb n q, up stb n 0, up rw n f, up r 0 n, 0, up K n (53 + 0), up F n i, up S n 0, up T n 0, up D n (D i + bb), up V n 0, [eo nv 2 [.ref q, .int (nI 0)], ea Z q (D i + bb) f] ++ vs, ⟨vs_new hvs nv q 0 (D i + bb) f, hJ2, by omega, by omega, by omega, by omega, by omega⟩, hW⟩ (lv_sub hl [2, 3, 4, 5, 6] rfl)
    · exact (hp.elim (fun h => h.2 ⟨i, bb, hi, e0, e1, hij⟩) (fun h => absurd h.1 (by decide))).elim
    · rcases hp with h | ⟨-, h⟩
      · exact absurd h.1 (by decide)
      · obtain ⟨i', bb', ⟨hi', e0', e1', hij'⟩, hg'⟩ := h
        have i_i : i = i' := (nI_eq (by omega) (by omega)).mp (e0.symm.trans e0')
        have i_bb : bb = bb' := (nI_eq (by omega) (by omega)).mp (e1.symm.trans e1')
        subst i_i
        subst i_bb
        exact absurd hg hg'
  · have hM := k_extend l hst Z hb0 hk hc hm x σ mo n wg o vd vb stb D rw (xs ((4 * t) + 1)) (xs ((4 * t) + 2)) 0 hbk (by decide)
    refine h_stat (As := [.ref hb0, .int (xs ((4 * t) + 1)), .int (xs ((4 * t) + 2)), .int (nI 0), .ref out]) (rest := []) (wc := el Z out 1 r :: (cw Z hc x ++ bl Z hb0 hk hc hm wg mo n o)) (wr := mw Z hq ad cd n wg K F S T D V ++ (eo hk 1 [.ref hc] :: vs)) hx hb hml hown hts hnc hK hG rfl hA hl (w_extend l Z hb0 hk hc hm x mo n wg o vd vb stb D rw (xs ((4 * t) + 1)) (xs ((4 * t) + 2)) (nI 0) out n _ _ r hM (fun v w1 h => by obtain ⟨i', bb', ⟨hi', e0', e1', hij'⟩, hg', ⟨y, nv, q, f, o2, hv, -⟩⟩ := h; exact hv) (by omega) (fun E h => h.elim (fun h => Or.inl h.1) (fun h => Or.inr h.1))) hW (bro_of hW hvs) tb_720 tb_721 tb_0 tb_722 (nA := 5) (by decide +kernel) rfl ⟨by omega, by omega⟩ ⟨by omega, by omega⟩ rfl (Nat.le_of_ble_eq_true rfl) dL_law_748 (fun v w1 H1 L1 hp hW hzz hkk hdd => ?_)
    rcases hp with ⟨rfl, v0, w0, hp, rfl⟩ | ⟨rfl, hp, rfl⟩ | ⟨rfl, hp, rfl⟩
    · obtain ⟨i, bb, ⟨hi, e0, e1, hij⟩, hg, -⟩ := hp
      exact absurd ⟨i, bb, ⟨hi, e0, e1, hij⟩, hg⟩ hgd
    · rcases hp with ⟨-, hng⟩ | h9
      · clear hzz hkk hdd
        generalize H1 = H at hW ⊢
        generalize L1 = locs at hW ⊢
        refine W.eq (g2 := F0 m 751 ls [.int (nI 1)]) rfl ?_
        have hM2 := k_mextend0 l Z hq ad cd n wg K F S T D V (xs ((4 * t) + 1)) (xs ((4 * t) + 2)) 0 (by decide) hng hD hn4
        refine lv_istore (lv' := [(5, .int (nI 1)), (0, .ref b), (1, .ref hb0), (2, .ref hq), (3, .ref out), (4, .int (nI (4 * t)))]) hx hb dL_law_751 hl (by decide) rfl (fun ls hl => ?_)
        have hW : Wd Z A s.heap (mw Z hq ad cd n wg K F S T D V ++ ((el Z out 1 r :: (cw Z hc x ++ bl Z hb0 hk hc hm wg mo n o)) ++ (eo hk 1 [.ref hc] :: vs))) _ _ := Wd.rot hW
        refine lv_aload_n hx hb dL_law_753 rfl (lv_at hl 3 rfl) ?_
        refine lv_aload_n hx hb dL_law_754 rfl (lv_at hl 1 rfl) ?_
        refine lv_iload hx hb dL_law_755 (lv_at hl 5 rfl) ?_
        refine lv_iconst (v := nI 1) hx hb dL_law_757 (by decide) ?_
        refine n_iadd hx hb dL_law_758 ?_
        refine s_ld (i := ((4 * t) + 1)) hx hb hX hbl hbA hW (by omega) (by omega) dL_law_759 ?_
        refine lv_aload_n hx hb dL_law_760 rfl (lv_at hl 1 rfl) ?_
        refine lv_iload hx hb dL_law_761 (lv_at hl 5 rfl) ?_
        refine lv_iconst (v := nI 2) hx hb dL_law_763 (by decide) ?_
        refine n_iadd hx hb dL_law_764 ?_
        refine s_ld (i := ((4 * t) + 2)) hx hb hX hbl hbA hW (by omega) (by omega) dL_law_765 ?_
        refine lv_aload_n hx hb dL_law_766 rfl (lv_at hl 1 rfl) ?_
        refine lv_iload hx hb dL_law_767 (lv_at hl 5 rfl) ?_
        refine lv_iconst (v := nI 3) hx hb dL_law_769 (by decide) ?_
        refine n_iadd hx hb dL_law_770 ?_
        refine s_ld (i := ((4 * t) + 3)) hx hb hX hbl hbA hW (by omega) (by omega) dL_law_771 ?_
        refine lv_if_eq (tgt := 779) hx hb dL_law_772 (by decide) (fun _ => ?_) (fun q => absurd hz q)
        refine lv_iconst (v := nI 0) hx hb dL_law_779 (by decide) ?_
        refine c_virt (As := [.int (xs ((4 * t) + 1)), .int (xs ((4 * t) + 2)), .int (nI 0)]) (rest := []) (wc := mw Z hq ad cd n wg K F S T D V) (wr := (el Z out 1 r :: (cw Z hc x ++ bl Z hb0 hk hc hm wg mo n o)) ++ (eo hk 1 [.ref hc] :: vs)) (nl := 0) hx hb hml hown hts hK hG rfl hA hl (hM2) hW trivial (hW.at 0 rfl) rfl rfl tb_864 tb_865 tb_866 tb_7 tb_867 (nA := 3) (by decide +kernel) rfl ⟨by omega, by omega⟩ ⟨by omega, by omega⟩ rfl (Nat.le_of_ble_eq_true rfl) dL_law_780 (fun v w1 H1 L1 hp hW hzz hkk hdd => ?_)
        obtain ⟨⟨r0, rfl⟩, rfl⟩ := hp
        clear hzz hkk hdd
        generalize H1 = H at hW ⊢
        generalize L1 = locs at hW ⊢
        refine W.eq (g2 := F0 m 783 ls [.int r0]) rfl ?_
        refine lv_istore (lv' := [(6, .int r0), (5, .int (nI 1)), (0, .ref b), (1, .ref hb0), (2, .ref hq), (3, .ref out), (4, .int (nI (4 * t)))]) hx hb dL_law_783 hl (by decide) rfl (fun ls hl => ?_)
        refine lv_aload_n hx hb dL_law_785 rfl (lv_at hl 4 rfl) ?_
        refine c_virt (As := []) (rest := []) (wc := mw Z hq ad 1 n wg K F S T D V) (wr := (el Z out 1 r :: (cw Z hc x ++ bl Z hb0 hk hc hm wg mo n o)) ++ (eo hk 1 [.ref hc] :: vs)) (nl := 0) hx hb hml hown hts hK hG rfl hA hl (k_thrown l Z hq ad 1 n wg K F S T D V) hW trivial (hW.at 0 rfl) rfl rfl tb_808 tb_809 tb_810 tb_7 tb_811 (nA := 0) (by decide +kernel) rfl ⟨by omega, by omega⟩ ⟨by omega, by omega⟩ rfl (Nat.le_of_ble_eq_true rfl) dL_law_786 (fun v w1 H1 L1 hp hW hzz hkk hdd => ?_)
        obtain ⟨rfl, rfl⟩ := hp
        clear hzz hkk hdd
        generalize H1 = H at hW ⊢
        generalize L1 = locs at hW ⊢
        refine W.eq (g2 := F0 m 789 ls [.int (nI 1)]) rfl ?_
        refine lv_iload hx hb dL_law_789 (lv_at hl 1 rfl) ?_
        refine n_eq_t (tgt := 796) hx hb rfl dL_law_791 (by decide) ?_
        refine lv_iload hx hb dL_law_796 (lv_at hl 1 rfl) ?_
        refine n_zne_t (tgt := 813) hx hb (by decide) (by omega) dL_law_798 (by decide) ?_
        refine lv_goto (tgt := 1052) hx hb dL_law_813 (by decide) ?_
        have hW : Wd Z A s.heap ((el Z out 1 r :: (cw Z hc x ++ bl Z hb0 hk hc hm wg mo n o)) ++ (mw Z hq ad 1 n wg K F S T D V ++ (eo hk 1 [.ref hc] :: vs))) _ _ := Wd.rot (w1 := mw Z hq ad 1 n wg K F S T D V) (wc := el Z out 1 r :: (cw Z hc x ++ bl Z hb0 hk hc hm wg mo n o)) hW
        exact kk _ _ _ _ ls ⟨x, σ, mo, n, wg, o, vd, vb, stb, rw, r, 1, K, F, S, T, D, V, vs, ⟨hvs, fun _ => hJ, by omega, by omega, by omega, by omega, by omega⟩, hW⟩ (lv_sub hl [2, 3, 4, 5, 6] rfl)
      · exact absurd h9.1 (by decide)
    · rcases hp with h9 | ⟨-, hng⟩
      · exact absurd h9.1 (by decide)
      · obtain ⟨i, bb, ⟨hi, e0, e1, hij⟩, hg⟩ := hng
        clear hzz hkk hdd
        generalize H1 = H at hW ⊢
        generalize L1 = locs at hW ⊢
        refine W.eq (g2 := F0 m 751 ls [.int (nI 2)]) rfl ?_
        have hM2 := k_mextend2 l Z hq ad cd n wg K F S T D V i bb 0 (by decide) hi hij hD hn4 hwg hg
        rw [← e0, ← e1] at hM2
        refine lv_istore (lv' := [(5, .int (nI 2)), (0, .ref b), (1, .ref hb0), (2, .ref hq), (3, .ref out), (4, .int (nI (4 * t)))]) hx hb dL_law_751 hl (by decide) rfl (fun ls hl => ?_)
        have hW : Wd Z A s.heap (mw Z hq ad cd n wg K F S T D V ++ ((el Z out 1 r :: (cw Z hc x ++ bl Z hb0 hk hc hm wg mo n o)) ++ (eo hk 1 [.ref hc] :: vs))) _ _ := Wd.rot hW
        refine lv_aload_n hx hb dL_law_753 rfl (lv_at hl 3 rfl) ?_
        refine lv_aload_n hx hb dL_law_754 rfl (lv_at hl 1 rfl) ?_
        refine lv_iload hx hb dL_law_755 (lv_at hl 5 rfl) ?_
        refine lv_iconst (v := nI 1) hx hb dL_law_757 (by decide) ?_
        refine n_iadd hx hb dL_law_758 ?_
        refine s_ld (i := ((4 * t) + 1)) hx hb hX hbl hbA hW (by omega) (by omega) dL_law_759 ?_
        refine lv_aload_n hx hb dL_law_760 rfl (lv_at hl 1 rfl) ?_
        refine lv_iload hx hb dL_law_761 (lv_at hl 5 rfl) ?_
        refine lv_iconst (v := nI 2) hx hb dL_law_763 (by decide) ?_
        refine n_iadd hx hb dL_law_764 ?_
        refine s_ld (i := ((4 * t) + 2)) hx hb hX hbl hbA hW (by omega) (by omega) dL_law_765 ?_
        refine lv_aload_n hx hb dL_law_766 rfl (lv_at hl 1 rfl) ?_
        refine lv_iload hx hb dL_law_767 (lv_at hl 5 rfl) ?_
        refine lv_iconst (v := nI 3) hx hb dL_law_769 (by decide) ?_
        refine n_iadd hx hb dL_law_770 ?_
        refine s_ld (i := ((4 * t) + 3)) hx hb hX hbl hbA hW (by omega) (by omega) dL_law_771 ?_
        refine lv_if_eq (tgt := 779) hx hb dL_law_772 (by decide) (fun _ => ?_) (fun q => absurd hz q)
        refine lv_iconst (v := nI 0) hx hb dL_law_779 (by decide) ?_
        refine c_virt (As := [.int (xs ((4 * t) + 1)), .int (xs ((4 * t) + 2)), .int (nI 0)]) (rest := []) (wc := mw Z hq ad cd n wg K F S T D V) (wr := (el Z out 1 r :: (cw Z hc x ++ bl Z hb0 hk hc hm wg mo n o)) ++ (eo hk 1 [.ref hc] :: vs)) (nl := 0) hx hb hml hown hts hK hG rfl hA hl (hM2) hW trivial (hW.at 0 rfl) rfl rfl tb_864 tb_865 tb_866 tb_7 tb_867 (nA := 3) (by decide +kernel) rfl ⟨by omega, by omega⟩ ⟨by omega, by omega⟩ rfl (Nat.le_of_ble_eq_true rfl) dL_law_780 (fun v w1 H1 L1 hp hW hzz hkk hdd => ?_)
        obtain ⟨⟨r0, rfl⟩, rfl⟩ := hp
        clear hzz hkk hdd
        generalize H1 = H at hW ⊢
        generalize L1 = locs at hW ⊢
        refine W.eq (g2 := F0 m 783 ls [.int r0]) rfl ?_
        refine lv_istore (lv' := [(6, .int r0), (5, .int (nI 2)), (0, .ref b), (1, .ref hb0), (2, .ref hq), (3, .ref out), (4, .int (nI (4 * t)))]) hx hb dL_law_783 hl (by decide) rfl (fun ls hl => ?_)
        refine lv_aload_n hx hb dL_law_785 rfl (lv_at hl 4 rfl) ?_
        refine c_virt (As := []) (rest := []) (wc := mw Z hq ad 2 n wg K F S T D V) (wr := (el Z out 1 r :: (cw Z hc x ++ bl Z hb0 hk hc hm wg mo n o)) ++ (eo hk 1 [.ref hc] :: vs)) (nl := 0) hx hb hml hown hts hK hG rfl hA hl (k_thrown l Z hq ad 2 n wg K F S T D V) hW trivial (hW.at 0 rfl) rfl rfl tb_808 tb_809 tb_810 tb_7 tb_811 (nA := 0) (by decide +kernel) rfl ⟨by omega, by omega⟩ ⟨by omega, by omega⟩ rfl (Nat.le_of_ble_eq_true rfl) dL_law_786 (fun v w1 H1 L1 hp hW hzz hkk hdd => ?_)
        obtain ⟨rfl, rfl⟩ := hp
        clear hzz hkk hdd
        generalize H1 = H at hW ⊢
        generalize L1 = locs at hW ⊢
        refine W.eq (g2 := F0 m 789 ls [.int (nI 2)]) rfl ?_
        refine lv_iload hx hb dL_law_789 (lv_at hl 1 rfl) ?_
        refine n_eq_t (tgt := 796) hx hb rfl dL_law_791 (by decide) ?_
        refine lv_iload hx hb dL_law_796 (lv_at hl 1 rfl) ?_
        refine n_zne_t (tgt := 813) hx hb (by decide) (by omega) dL_law_798 (by decide) ?_
        refine lv_goto (tgt := 1052) hx hb dL_law_813 (by decide) ?_
        have hW : Wd Z A s.heap ((el Z out 1 r :: (cw Z hc x ++ bl Z hb0 hk hc hm wg mo n o)) ++ (mw Z hq ad 2 n wg K F S T D V ++ (eo hk 1 [.ref hc] :: vs))) _ _ := Wd.rot (w1 := mw Z hq ad 2 n wg K F S T D V) (wc := el Z out 1 r :: (cw Z hc x ++ bl Z hb0 hk hc hm wg mo n o)) hW
        exact kk _ _ _ _ ls ⟨x, σ, mo, n, wg, o, vd, vb, stb, rw, r, 2, K, F, S, T, D, V, vs, ⟨hvs, fun _ => hJ, by omega, by omega, by omega, by omega, by omega⟩, hW⟩ (lv_sub hl [2, 3, 4, 5, 6] rfl)
set_option maxHeartbeats 4000000 in
set_option maxRecDepth 100000 in
theorem c_extend1 {p : Program} (l : Launch) (hst : l.stackTraces = false) {e : Env} {R : Room} {s : State} {m : MethodId} {below : List Frame} {meth : Method} {c : Code} {b L : Nat} {xs : Nat → Int32} {Z : Zt} {A : Nat → Prop} (C : LC p R s m meth c b L xs Z A) (hL : L ≤ 2048) {Q : State → Prop} {t hb0 hk hc hm out hq : Nat} {ad : MA} (ht : 4 * t + 4 ≤ L) (hz : xs ((4 * t) + 3) ≠ 0)
    (kk : ∀ (H : Heap) (locs : List Loc) (cells slots : Nat) (ls : Array Slot), LE Z A s.heap H locs (t + 1) cells slots hb0 hk hc hm out hq ad → lv_has ls 8 [(0, .ref b), (1, .ref hb0), (2, .ref hq), (3, .ref out), (4, .int (nI (4 * t)))] → W p l e R s m #[Value.ref b] below meth c H locs cells slots Q (F0 m 1052 ls []))
    {H : Heap} {locs : List Loc} {cells slots : Nat} {ls : Array Slot} (hE : LE Z A s.heap H locs t cells slots hb0 hk hc hm out hq ad) (hl : lv_has ls 8 [(0, .ref b), (1, .ref hb0), (2, .ref hq), (3, .ref out), (4, .int (nI (4 * t)))]) : W p l e R s m #[Value.ref b] below meth c H locs cells slots Q (F0 m 720 ls []) := by
  obtain ⟨hx, hb, hml, hown, hts, hX, hbl, hlk, hnc, hK, hG, hA, hbA, hRf, hRc, hRs, hRl⟩ := C
  obtain ⟨x, σ, mo, n, wg, o, vd, vb, stb, rw, r, cd, K, F, S, T, D, V, vs, ⟨hvs, hJ, hnt, hwg, hu, hcl, hsl⟩, hW⟩ := hE
  have hJ := hJ (by omega)
  have hbk := hJ.1
  have hxn := hbk.2.2.2.1
  have hwd := hbk.2.2.2.2.2
  have hD : ∀ i, i < n → D i ≤ 64 := fun i hi => (hwd i hi).2.1
  have hn4 : n < 4000 := by omega
  refine lv_aload_n hx hb dL_law_720 rfl (lv_at hl 1 rfl) ?_
  refine lv_aload_n hx hb dL_law_721 rfl (lv_at hl 0 rfl) ?_
  refine lv_iload hx hb dL_law_722 (lv_at hl 4 rfl) ?_
  refine lv_iconst (v := nI 1) hx hb dL_law_724 (by decide) ?_
  refine n_iadd hx hb dL_law_725 ?_
  refine s_ld (i := ((4 * t) + 1)) hx hb hX hbl hbA hW (by omega) (by omega) dL_law_726 ?_
  refine lv_aload_n hx hb dL_law_727 rfl (lv_at hl 0 rfl) ?_
  refine lv_iload hx hb dL_law_728 (lv_at hl 4 rfl) ?_
  refine lv_iconst (v := nI 2) hx hb dL_law_730 (by decide) ?_
  refine n_iadd hx hb dL_law_731 ?_
  refine s_ld (i := ((4 * t) + 2)) hx hb hX hbl hbA hW (by omega) (by omega) dL_law_732 ?_
  refine lv_aload_n hx hb dL_law_733 rfl (lv_at hl 0 rfl) ?_
  refine lv_iload hx hb dL_law_734 (lv_at hl 4 rfl) ?_
  refine lv_iconst (v := nI 3) hx hb dL_law_736 (by decide) ?_
  refine n_iadd hx hb dL_law_737 ?_
  refine s_ld (i := ((4 * t) + 3)) hx hb hX hbl hbA hW (by omega) (by omega) dL_law_738 ?_
  refine lv_if_eq (tgt := 746) hx hb dL_law_739 (by decide) (fun q => absurd q hz) (fun _ => ?_)
  refine lv_iconst (v := nI 1) hx hb dL_law_742 (by decide) ?_
  refine lv_goto (tgt := 747) hx hb dL_law_743 (by decide) ?_
  refine lv_aload_n hx hb dL_law_747 rfl (lv_at hl 3 rfl) ?_
  by_cases hgd : ∃ i b, (i < n ∧ xs ((4 * t) + 1) = nI i ∧ xs ((4 * t) + 2) = nI b ∧ D i + b ≤ 64) ∧ D i + b + wg ≤ 100000
  · obtain ⟨i, bb, ⟨hi, e0, e1, hij⟩, hg⟩ := hgd
    have hDi := hD i hi
    have hM := k_extend l hst Z hb0 hk hc hm x σ mo n wg o vd vb stb D rw (xs ((4 * t) + 1)) (xs ((4 * t) + 2)) 1 hbk (by decide)
    refine h_stat (As := [.ref hb0, .int (xs ((4 * t) + 1)), .int (xs ((4 * t) + 2)), .int (nI 1), .ref out]) (rest := []) (wc := el Z out 1 r :: (cw Z hc x ++ bl Z hb0 hk hc hm wg mo n o)) (wr := mw Z hq ad cd n wg K F S T D V ++ (eo hk 1 [.ref hc] :: vs)) hx hb hml hown hts hnc hK hG rfl hA hl (w_extend l Z hb0 hk hc hm x mo n wg o vd vb stb D rw (xs ((4 * t) + 1)) (xs ((4 * t) + 2)) (nI 1) out n _ _ r hM (fun v w1 h => by obtain ⟨i', bb', ⟨hi', e0', e1', hij'⟩, hg', ⟨y, nv, q, f, o2, hv, -⟩⟩ := h; exact hv) (by omega) (fun E h => h.elim (fun h => Or.inl h.1) (fun h => Or.inr h.1))) hW (bro_of hW hvs) tb_720 tb_721 tb_0 tb_722 (nA := 5) (by decide +kernel) rfl ⟨by omega, by omega⟩ ⟨by omega, by omega⟩ rfl (Nat.le_of_ble_eq_true rfl) dL_law_748 (fun v w1 H1 L1 hp hW hzz hkk hdd => ?_)
    rcases hp with ⟨rfl, v0, w0, hp, rfl⟩ | ⟨rfl, hp, rfl⟩ | ⟨rfl, hp, rfl⟩
    · obtain ⟨i', bb', ⟨hi', e0', e1', hij'⟩, hg', y, nv, q, f, o2, -, rfl, hs, hfb, hadd, hS⟩ := hp
      have i_i : i = i' := (nI_eq (by omega) (by omega)).mp (e0.symm.trans e0')
      have i_bb : bb = bb' := (nI_eq (by omega) (by omega)).mp (e1.symm.trans e1')
      subst i_i
      subst i_bb
      clear hzz hkk hdd
      generalize H1 = H at hW ⊢
      generalize L1 = locs at hW ⊢
      refine W.eq (g2 := F0 m 751 ls [.int (nI 0)]) rfl ?_
      have hM2 := k_mextend1 l Z hq ad cd n wg K F S T D V i bb 1 (by decide) hi hij hD hn4 hwg hg
      rw [← e0, ← e1] at hM2
      refine lv_istore (lv' := [(5, .int (nI 0)), (0, .ref b), (1, .ref hb0), (2, .ref hq), (3, .ref out), (4, .int (nI (4 * t)))]) hx hb dL_law_751 hl (by decide) rfl (fun ls hl => ?_)
      have hW : Wd Z A s.heap (mw Z hq ad cd n wg K F S T D V ++ ((el Z out 1 (up r 0 n) :: (cw Z hc y ++ [eo nv 2 [.ref q, .int (nI 0)], ea Z q (D i + bb) f] ++ bl Z hb0 hk hc hm (wg + (D i + bb)) (mo + nI 1) (n + 1) o2)) ++ (eo hk 1 [.ref hc] :: vs))) _ _ := Wd.rot hW
      refine lv_aload_n hx hb dL_law_753 rfl (lv_at hl 3 rfl) ?_
      refine lv_aload_n hx hb dL_law_754 rfl (lv_at hl 1 rfl) ?_
      refine lv_iload hx hb dL_law_755 (lv_at hl 5 rfl) ?_
      refine lv_iconst (v := nI 1) hx hb dL_law_757 (by decide) ?_
      refine n_iadd hx hb dL_law_758 ?_
      refine s_ld (i := ((4 * t) + 1)) hx hb hX hbl hbA hW (by omega) (by omega) dL_law_759 ?_
      refine lv_aload_n hx hb dL_law_760 rfl (lv_at hl 1 rfl) ?_
      refine lv_iload hx hb dL_law_761 (lv_at hl 5 rfl) ?_
      refine lv_iconst (v := nI 2) hx hb dL_law_763 (by decide) ?_
      refine n_iadd hx hb dL_law_764 ?_
      refine s_ld (i := ((4 * t) + 2)) hx hb hX hbl hbA hW (by omega) (by omega) dL_law_765 ?_
      refine lv_aload_n hx hb dL_law_766 rfl (lv_at hl 1 rfl) ?_
      refine lv_iload hx hb dL_law_767 (lv_at hl 5 rfl) ?_
      refine lv_iconst (v := nI 3) hx hb dL_law_769 (by decide) ?_
      refine n_iadd hx hb dL_law_770 ?_
      refine s_ld (i := ((4 * t) + 3)) hx hb hX hbl hbA hW (by omega) (by omega) dL_law_771 ?_
      refine lv_if_eq (tgt := 779) hx hb dL_law_772 (by decide) (fun q => absurd q hz) (fun _ => ?_)
      refine lv_iconst (v := nI 1) hx hb dL_law_775 (by decide) ?_
      refine lv_goto (tgt := 780) hx hb dL_law_776 (by decide) ?_
      refine c_virt (As := [.int (xs ((4 * t) + 1)), .int (xs ((4 * t) + 2)), .int (nI 1)]) (rest := []) (wc := mw Z hq ad cd n wg K F S T D V) (wr := (el Z out 1 (up r 0 n) :: (cw Z hc y ++ [eo nv 2 [.ref q, .int (nI 0)], ea Z q (D i + bb) f] ++ bl Z hb0 hk hc hm (wg + (D i + bb)) (mo + nI 1) (n + 1) o2)) ++ (eo hk 1 [.ref hc] :: vs)) (nl := 0) hx hb hml hown hts hK hG rfl hA hl (hM2) hW trivial (hW.at 0 rfl) rfl rfl tb_864 tb_865 tb_866 tb_7 tb_867 (nA := 3) (by decide +kernel) rfl ⟨by omega, by omega⟩ ⟨by omega, by omega⟩ rfl (Nat.le_of_ble_eq_true rfl) dL_law_780 (fun v w1 H1 L1 hp hW hzz hkk hdd => ?_)
      obtain ⟨rfl, rfl⟩ := hp
      clear hzz hkk hdd
      generalize H1 = H at hW ⊢
      generalize L1 = locs at hW ⊢
      refine W.eq (g2 := F0 m 783 ls [.int (nI n)]) rfl ?_
      refine lv_istore (lv' := [(6, .int (nI n)), (5, .int (nI 0)), (0, .ref b), (1, .ref hb0), (2, .ref hq), (3, .ref out), (4, .int (nI (4 * t)))]) hx hb dL_law_783 hl (by decide) rfl (fun ls hl => ?_)
      refine lv_aload_n hx hb dL_law_785 rfl (lv_at hl 4 rfl) ?_
      refine c_virt (As := []) (rest := []) (wc := mw Z hq ad 0 (n + 1) (wg + (D i + bb)) (up K n (53 + 1)) (up F n i) (up S n 0) (up T n 0) (up D n (D i + bb)) (up V n 0)) (wr := (el Z out 1 (up r 0 n) :: (cw Z hc y ++ [eo nv 2 [.ref q, .int (nI 0)], ea Z q (D i + bb) f] ++ bl Z hb0 hk hc hm (wg + (D i + bb)) (mo + nI 1) (n + 1) o2)) ++ (eo hk 1 [.ref hc] :: vs)) (nl := 0) hx hb hml hown hts hK hG rfl hA hl (k_thrown l Z hq ad 0 (n + 1) (wg + (D i + bb)) (up K n (53 + 1)) (up F n i) (up S n 0) (up T n 0) (up D n (D i + bb)) (up V n 0)) hW trivial (hW.at 0 rfl) rfl rfl tb_808 tb_809 tb_810 tb_7 tb_811 (nA := 0) (by decide +kernel) rfl ⟨by omega, by omega⟩ ⟨by omega, by omega⟩ rfl (Nat.le_of_ble_eq_true rfl) dL_law_786 (fun v w1 H1 L1 hp hW hzz hkk hdd => ?_)
      obtain ⟨rfl, rfl⟩ := hp
      clear hzz hkk hdd
      generalize H1 = H at hW ⊢
      generalize L1 = locs at hW ⊢
      refine W.eq (g2 := F0 m 789 ls [.int (nI 0)]) rfl ?_
      refine lv_iload hx hb dL_law_789 (lv_at hl 1 rfl) ?_
      refine n_eq_t (tgt := 796) hx hb rfl dL_law_791 (by decide) ?_
      refine lv_iload hx hb dL_law_796 (lv_at hl 1 rfl) ?_
      refine n_zne_f (tgt := 813) hx hb rfl dL_law_798 (by decide) ?_
      refine lv_aload_n hx hb dL_law_801 rfl (lv_at hl 5 rfl) ?_
      refine lv_iconst (v := nI 0) hx hb dL_law_802 (by decide) ?_
      refine r_lald (i := 0) hx hb hK (hW.at 7 rfl) (by omega) (by omega) dL_law_803 ?_
      refine lv_iload hx hb dL_law_804 (lv_at hl 0 rfl) ?_
      refine lv_i2l (v := (nI n).toInt64) hx hb dL_law_806 rfl ?_
      refine W.lcmp hx hb dL_law_807 ?_
      refine lv_if_eq (tgt := 813) hx hb dL_law_808 (by decide) (fun _ => ?_) (fun q => absurd ((lg_cmp_eq _ _).mpr (by rw [up_s, nI_long (by omega)])) q)
      refine lv_goto (tgt := 1052) hx hb dL_law_813 (by decide) ?_
      have hW : Wd Z A s.heap ((el Z out 1 (up r 0 n) :: (cw Z hc y ++ [eo nv 2 [.ref q, .int (nI 0)], ea Z q (D i + bb) f] ++ bl Z hb0 hk hc hm (wg + (D i + bb)) (mo + nI 1) (n + 1) o2)) ++ (mw Z hq ad 0 (n + 1) (wg + (D i + bb)) (up K n (53 + 1)) (up F n i) (up S n 0) (up T n 0) (up D n (D i + bb)) (up V n 0) ++ (eo hk 1 [.ref hc] :: vs))) _ _ := Wd.rot (w1 := mw Z hq ad 0 (n + 1) (wg + (D i + bb)) (up K n (53 + 1)) (up F n i) (up S n 0) (up T n 0) (up D n (D i + bb)) (up V n 0)) (wc := el Z out 1 (up r 0 n) :: (cw Z hc y ++ [eo nv 2 [.ref q, .int (nI 0)], ea Z q (D i + bb) f] ++ bl Z hb0 hk hc hm (wg + (D i + bb)) (mo + nI 1) (n + 1) o2)) hW
      have hW := Wd.pull hW
      have hsu : xu y = xu x := by rw [hS.1]
      have hJ2 := J_extend hJ (sg := 1) (by decide) hi hij hg hs hfb hadd hS
      exact kk _ _ _ _ ls ⟨y, σ, mo + nI 1, n + 1, wg + (D i + bb), o2, up vd n nv, up vb n q, up stb n 0, up rw n f, up r 0 n, 0, up K n (53 + 1), up F n i, up S n 0, up T n 0, up D n (D i + bb), up V n 0, [eo nv 2 [.ref q, .int (nI 0)], ea Z q (D i + bb) f] ++ vs, ⟨vs_new hvs nv q 0 (D i + bb) f, hJ2, by omega, by omega, by omega, by omega, by omega⟩, hW⟩ (lv_sub hl [2, 3, 4, 5, 6] rfl)
    · exact (hp.elim (fun h => h.2 ⟨i, bb, hi, e0, e1, hij⟩) (fun h => absurd h.1 (by decide))).elim
    · rcases hp with h | ⟨-, h⟩
      · exact absurd h.1 (by decide)
      · obtain ⟨i', bb', ⟨hi', e0', e1', hij'⟩, hg'⟩ := h
        have i_i : i = i' := (nI_eq (by omega) (by omega)).mp (e0.symm.trans e0')
        have i_bb : bb = bb' := (nI_eq (by omega) (by omega)).mp (e1.symm.trans e1')
        subst i_i
        subst i_bb
        exact absurd hg hg'
  · have hM := k_extend l hst Z hb0 hk hc hm x σ mo n wg o vd vb stb D rw (xs ((4 * t) + 1)) (xs ((4 * t) + 2)) 1 hbk (by decide)
    refine h_stat (As := [.ref hb0, .int (xs ((4 * t) + 1)), .int (xs ((4 * t) + 2)), .int (nI 1), .ref out]) (rest := []) (wc := el Z out 1 r :: (cw Z hc x ++ bl Z hb0 hk hc hm wg mo n o)) (wr := mw Z hq ad cd n wg K F S T D V ++ (eo hk 1 [.ref hc] :: vs)) hx hb hml hown hts hnc hK hG rfl hA hl (w_extend l Z hb0 hk hc hm x mo n wg o vd vb stb D rw (xs ((4 * t) + 1)) (xs ((4 * t) + 2)) (nI 1) out n _ _ r hM (fun v w1 h => by obtain ⟨i', bb', ⟨hi', e0', e1', hij'⟩, hg', ⟨y, nv, q, f, o2, hv, -⟩⟩ := h; exact hv) (by omega) (fun E h => h.elim (fun h => Or.inl h.1) (fun h => Or.inr h.1))) hW (bro_of hW hvs) tb_720 tb_721 tb_0 tb_722 (nA := 5) (by decide +kernel) rfl ⟨by omega, by omega⟩ ⟨by omega, by omega⟩ rfl (Nat.le_of_ble_eq_true rfl) dL_law_748 (fun v w1 H1 L1 hp hW hzz hkk hdd => ?_)
    rcases hp with ⟨rfl, v0, w0, hp, rfl⟩ | ⟨rfl, hp, rfl⟩ | ⟨rfl, hp, rfl⟩
    · obtain ⟨i, bb, ⟨hi, e0, e1, hij⟩, hg, -⟩ := hp
      exact absurd ⟨i, bb, ⟨hi, e0, e1, hij⟩, hg⟩ hgd
    · rcases hp with ⟨-, hng⟩ | h9
      · clear hzz hkk hdd
        generalize H1 = H at hW ⊢
        generalize L1 = locs at hW ⊢
        refine W.eq (g2 := F0 m 751 ls [.int (nI 1)]) rfl ?_
        have hM2 := k_mextend0 l Z hq ad cd n wg K F S T D V (xs ((4 * t) + 1)) (xs ((4 * t) + 2)) 1 (by decide) hng hD hn4
        refine lv_istore (lv' := [(5, .int (nI 1)), (0, .ref b), (1, .ref hb0), (2, .ref hq), (3, .ref out), (4, .int (nI (4 * t)))]) hx hb dL_law_751 hl (by decide) rfl (fun ls hl => ?_)
        have hW : Wd Z A s.heap (mw Z hq ad cd n wg K F S T D V ++ ((el Z out 1 r :: (cw Z hc x ++ bl Z hb0 hk hc hm wg mo n o)) ++ (eo hk 1 [.ref hc] :: vs))) _ _ := Wd.rot hW
        refine lv_aload_n hx hb dL_law_753 rfl (lv_at hl 3 rfl) ?_
        refine lv_aload_n hx hb dL_law_754 rfl (lv_at hl 1 rfl) ?_
        refine lv_iload hx hb dL_law_755 (lv_at hl 5 rfl) ?_
        refine lv_iconst (v := nI 1) hx hb dL_law_757 (by decide) ?_
        refine n_iadd hx hb dL_law_758 ?_
        refine s_ld (i := ((4 * t) + 1)) hx hb hX hbl hbA hW (by omega) (by omega) dL_law_759 ?_
        refine lv_aload_n hx hb dL_law_760 rfl (lv_at hl 1 rfl) ?_
        refine lv_iload hx hb dL_law_761 (lv_at hl 5 rfl) ?_
        refine lv_iconst (v := nI 2) hx hb dL_law_763 (by decide) ?_
        refine n_iadd hx hb dL_law_764 ?_
        refine s_ld (i := ((4 * t) + 2)) hx hb hX hbl hbA hW (by omega) (by omega) dL_law_765 ?_
        refine lv_aload_n hx hb dL_law_766 rfl (lv_at hl 1 rfl) ?_
        refine lv_iload hx hb dL_law_767 (lv_at hl 5 rfl) ?_
        refine lv_iconst (v := nI 3) hx hb dL_law_769 (by decide) ?_
        refine n_iadd hx hb dL_law_770 ?_
        refine s_ld (i := ((4 * t) + 3)) hx hb hX hbl hbA hW (by omega) (by omega) dL_law_771 ?_
        refine lv_if_eq (tgt := 779) hx hb dL_law_772 (by decide) (fun q => absurd q hz) (fun _ => ?_)
        refine lv_iconst (v := nI 1) hx hb dL_law_775 (by decide) ?_
        refine lv_goto (tgt := 780) hx hb dL_law_776 (by decide) ?_
        refine c_virt (As := [.int (xs ((4 * t) + 1)), .int (xs ((4 * t) + 2)), .int (nI 1)]) (rest := []) (wc := mw Z hq ad cd n wg K F S T D V) (wr := (el Z out 1 r :: (cw Z hc x ++ bl Z hb0 hk hc hm wg mo n o)) ++ (eo hk 1 [.ref hc] :: vs)) (nl := 0) hx hb hml hown hts hK hG rfl hA hl (hM2) hW trivial (hW.at 0 rfl) rfl rfl tb_864 tb_865 tb_866 tb_7 tb_867 (nA := 3) (by decide +kernel) rfl ⟨by omega, by omega⟩ ⟨by omega, by omega⟩ rfl (Nat.le_of_ble_eq_true rfl) dL_law_780 (fun v w1 H1 L1 hp hW hzz hkk hdd => ?_)
        obtain ⟨⟨r0, rfl⟩, rfl⟩ := hp
        clear hzz hkk hdd
        generalize H1 = H at hW ⊢
        generalize L1 = locs at hW ⊢
        refine W.eq (g2 := F0 m 783 ls [.int r0]) rfl ?_
        refine lv_istore (lv' := [(6, .int r0), (5, .int (nI 1)), (0, .ref b), (1, .ref hb0), (2, .ref hq), (3, .ref out), (4, .int (nI (4 * t)))]) hx hb dL_law_783 hl (by decide) rfl (fun ls hl => ?_)
        refine lv_aload_n hx hb dL_law_785 rfl (lv_at hl 4 rfl) ?_
        refine c_virt (As := []) (rest := []) (wc := mw Z hq ad 1 n wg K F S T D V) (wr := (el Z out 1 r :: (cw Z hc x ++ bl Z hb0 hk hc hm wg mo n o)) ++ (eo hk 1 [.ref hc] :: vs)) (nl := 0) hx hb hml hown hts hK hG rfl hA hl (k_thrown l Z hq ad 1 n wg K F S T D V) hW trivial (hW.at 0 rfl) rfl rfl tb_808 tb_809 tb_810 tb_7 tb_811 (nA := 0) (by decide +kernel) rfl ⟨by omega, by omega⟩ ⟨by omega, by omega⟩ rfl (Nat.le_of_ble_eq_true rfl) dL_law_786 (fun v w1 H1 L1 hp hW hzz hkk hdd => ?_)
        obtain ⟨rfl, rfl⟩ := hp
        clear hzz hkk hdd
        generalize H1 = H at hW ⊢
        generalize L1 = locs at hW ⊢
        refine W.eq (g2 := F0 m 789 ls [.int (nI 1)]) rfl ?_
        refine lv_iload hx hb dL_law_789 (lv_at hl 1 rfl) ?_
        refine n_eq_t (tgt := 796) hx hb rfl dL_law_791 (by decide) ?_
        refine lv_iload hx hb dL_law_796 (lv_at hl 1 rfl) ?_
        refine n_zne_t (tgt := 813) hx hb (by decide) (by omega) dL_law_798 (by decide) ?_
        refine lv_goto (tgt := 1052) hx hb dL_law_813 (by decide) ?_
        have hW : Wd Z A s.heap ((el Z out 1 r :: (cw Z hc x ++ bl Z hb0 hk hc hm wg mo n o)) ++ (mw Z hq ad 1 n wg K F S T D V ++ (eo hk 1 [.ref hc] :: vs))) _ _ := Wd.rot (w1 := mw Z hq ad 1 n wg K F S T D V) (wc := el Z out 1 r :: (cw Z hc x ++ bl Z hb0 hk hc hm wg mo n o)) hW
        exact kk _ _ _ _ ls ⟨x, σ, mo, n, wg, o, vd, vb, stb, rw, r, 1, K, F, S, T, D, V, vs, ⟨hvs, fun _ => hJ, by omega, by omega, by omega, by omega, by omega⟩, hW⟩ (lv_sub hl [2, 3, 4, 5, 6] rfl)
      · exact absurd h9.1 (by decide)
    · rcases hp with h9 | ⟨-, hng⟩
      · exact absurd h9.1 (by decide)
      · obtain ⟨i, bb, ⟨hi, e0, e1, hij⟩, hg⟩ := hng
        clear hzz hkk hdd
        generalize H1 = H at hW ⊢
        generalize L1 = locs at hW ⊢
        refine W.eq (g2 := F0 m 751 ls [.int (nI 2)]) rfl ?_
        have hM2 := k_mextend2 l Z hq ad cd n wg K F S T D V i bb 1 (by decide) hi hij hD hn4 hwg hg
        rw [← e0, ← e1] at hM2
        refine lv_istore (lv' := [(5, .int (nI 2)), (0, .ref b), (1, .ref hb0), (2, .ref hq), (3, .ref out), (4, .int (nI (4 * t)))]) hx hb dL_law_751 hl (by decide) rfl (fun ls hl => ?_)
        have hW : Wd Z A s.heap (mw Z hq ad cd n wg K F S T D V ++ ((el Z out 1 r :: (cw Z hc x ++ bl Z hb0 hk hc hm wg mo n o)) ++ (eo hk 1 [.ref hc] :: vs))) _ _ := Wd.rot hW
        refine lv_aload_n hx hb dL_law_753 rfl (lv_at hl 3 rfl) ?_
        refine lv_aload_n hx hb dL_law_754 rfl (lv_at hl 1 rfl) ?_
        refine lv_iload hx hb dL_law_755 (lv_at hl 5 rfl) ?_
        refine lv_iconst (v := nI 1) hx hb dL_law_757 (by decide) ?_
        refine n_iadd hx hb dL_law_758 ?_
        refine s_ld (i := ((4 * t) + 1)) hx hb hX hbl hbA hW (by omega) (by omega) dL_law_759 ?_
        refine lv_aload_n hx hb dL_law_760 rfl (lv_at hl 1 rfl) ?_
        refine lv_iload hx hb dL_law_761 (lv_at hl 5 rfl) ?_
        refine lv_iconst (v := nI 2) hx hb dL_law_763 (by decide) ?_
        refine n_iadd hx hb dL_law_764 ?_
        refine s_ld (i := ((4 * t) + 2)) hx hb hX hbl hbA hW (by omega) (by omega) dL_law_765 ?_
        refine lv_aload_n hx hb dL_law_766 rfl (lv_at hl 1 rfl) ?_
        refine lv_iload hx hb dL_law_767 (lv_at hl 5 rfl) ?_
        refine lv_iconst (v := nI 3) hx hb dL_law_769 (by decide) ?_
        refine n_iadd hx hb dL_law_770 ?_
        refine s_ld (i := ((4 * t) + 3)) hx hb hX hbl hbA hW (by omega) (by omega) dL_law_771 ?_
        refine lv_if_eq (tgt := 779) hx hb dL_law_772 (by decide) (fun q => absurd q hz) (fun _ => ?_)
        refine lv_iconst (v := nI 1) hx hb dL_law_775 (by decide) ?_
        refine lv_goto (tgt := 780) hx hb dL_law_776 (by decide) ?_
        refine c_virt (As := [.int (xs ((4 * t) + 1)), .int (xs ((4 * t) + 2)), .int (nI 1)]) (rest := []) (wc := mw Z hq ad cd n wg K F S T D V) (wr := (el Z out 1 r :: (cw Z hc x ++ bl Z hb0 hk hc hm wg mo n o)) ++ (eo hk 1 [.ref hc] :: vs)) (nl := 0) hx hb hml hown hts hK hG rfl hA hl (hM2) hW trivial (hW.at 0 rfl) rfl rfl tb_864 tb_865 tb_866 tb_7 tb_867 (nA := 3) (by decide +kernel) rfl ⟨by omega, by omega⟩ ⟨by omega, by omega⟩ rfl (Nat.le_of_ble_eq_true rfl) dL_law_780 (fun v w1 H1 L1 hp hW hzz hkk hdd => ?_)
        obtain ⟨⟨r0, rfl⟩, rfl⟩ := hp
        clear hzz hkk hdd
        generalize H1 = H at hW ⊢
        generalize L1 = locs at hW ⊢
        refine W.eq (g2 := F0 m 783 ls [.int r0]) rfl ?_
        refine lv_istore (lv' := [(6, .int r0), (5, .int (nI 2)), (0, .ref b), (1, .ref hb0), (2, .ref hq), (3, .ref out), (4, .int (nI (4 * t)))]) hx hb dL_law_783 hl (by decide) rfl (fun ls hl => ?_)
        refine lv_aload_n hx hb dL_law_785 rfl (lv_at hl 4 rfl) ?_
        refine c_virt (As := []) (rest := []) (wc := mw Z hq ad 2 n wg K F S T D V) (wr := (el Z out 1 r :: (cw Z hc x ++ bl Z hb0 hk hc hm wg mo n o)) ++ (eo hk 1 [.ref hc] :: vs)) (nl := 0) hx hb hml hown hts hK hG rfl hA hl (k_thrown l Z hq ad 2 n wg K F S T D V) hW trivial (hW.at 0 rfl) rfl rfl tb_808 tb_809 tb_810 tb_7 tb_811 (nA := 0) (by decide +kernel) rfl ⟨by omega, by omega⟩ ⟨by omega, by omega⟩ rfl (Nat.le_of_ble_eq_true rfl) dL_law_786 (fun v w1 H1 L1 hp hW hzz hkk hdd => ?_)
        obtain ⟨rfl, rfl⟩ := hp
        clear hzz hkk hdd
        generalize H1 = H at hW ⊢
        generalize L1 = locs at hW ⊢
        refine W.eq (g2 := F0 m 789 ls [.int (nI 2)]) rfl ?_
        refine lv_iload hx hb dL_law_789 (lv_at hl 1 rfl) ?_
        refine n_eq_t (tgt := 796) hx hb rfl dL_law_791 (by decide) ?_
        refine lv_iload hx hb dL_law_796 (lv_at hl 1 rfl) ?_
        refine n_zne_t (tgt := 813) hx hb (by decide) (by omega) dL_law_798 (by decide) ?_
        refine lv_goto (tgt := 1052) hx hb dL_law_813 (by decide) ?_
        have hW : Wd Z A s.heap ((el Z out 1 r :: (cw Z hc x ++ bl Z hb0 hk hc hm wg mo n o)) ++ (mw Z hq ad 2 n wg K F S T D V ++ (eo hk 1 [.ref hc] :: vs))) _ _ := Wd.rot (w1 := mw Z hq ad 2 n wg K F S T D V) (wc := el Z out 1 r :: (cw Z hc x ++ bl Z hb0 hk hc hm wg mo n o)) hW
        exact kk _ _ _ _ ls ⟨x, σ, mo, n, wg, o, vd, vb, stb, rw, r, 2, K, F, S, T, D, V, vs, ⟨hvs, fun _ => hJ, by omega, by omega, by omega, by omega, by omega⟩, hW⟩ (lv_sub hl [2, 3, 4, 5, 6] rfl)
