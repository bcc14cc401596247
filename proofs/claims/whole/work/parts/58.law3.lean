theorem K_lt {K F S T D : Nat → Nat} {v : Nat} (h : wfv K F S T D v) : K v < 128 := by
  obtain ⟨-, -, h⟩ := h
  omega
set_option maxHeartbeats 4000000 in
set_option maxRecDepth 100000 in
theorem c_set {p : Program} (l : Launch) (hst : l.stackTraces = false) {e : Env} {R : Room} {s : State} {m : MethodId} {below : List Frame} {meth : Method} {c : Code} {b L : Nat} {xs : Nat → Int32} {Z : Zt} {A : Nat → Prop} (C : LC p R s m meth c b L xs Z A) (hL : L ≤ 2048) {Q : State → Prop} {t hb0 hk hc hm out hq : Nat} {ad : MA} (ht : 4 * t + 4 ≤ L)
    (kk : ∀ (H : Heap) (locs : List Loc) (cells slots : Nat) (ls : Array Slot), LE Z A s.heap H locs (t + 1) cells slots hb0 hk hc hm out hq ad → lv_has ls 8 [(0, .ref b), (1, .ref hb0), (2, .ref hq), (3, .ref out), (4, .int (nI (4 * t)))] → W p l e R s m #[Value.ref b] below meth c H locs cells slots Q (F0 m 1052 ls []))
    {H : Heap} {locs : List Loc} {cells slots : Nat} {ls : Array Slot} (hE : LE Z A s.heap H locs t cells slots hb0 hk hc hm out hq ad) (hl : lv_has ls 8 [(0, .ref b), (1, .ref hb0), (2, .ref hq), (3, .ref out), (4, .int (nI (4 * t)))]) : W p l e R s m #[Value.ref b] below meth c H locs cells slots Q (F0 m 816 ls []) := by
  obtain ⟨hx, hb, hml, hown, hts, hX, hbl, hlk, hnc, hK, hG, hA, hbA, hRf, hRc, hRs, hRl⟩ := C
  obtain ⟨x, σ, mo, n, wg, o, vd, vb, stb, rw, r, cd, K, F, S, T, D, V, vs, ⟨hvs, hJ, hnt, hwg, hu, hcl, hsl⟩, hW⟩ := hE
  have hJ := hJ (by omega)
  have hbk := hJ.1
  have hxn := hbk.2.2.2.1
  have hwd := hbk.2.2.2.2.2
  have hD : ∀ i, i < n → D i ≤ 64 := fun i hi => (hwd i hi).2.1
  have hn4 : n ≤ 4000 := by omega
  refine lv_aload_n hx hb dL_law_816 rfl (lv_at hl 1 rfl) ?_
  refine lv_aload_n hx hb dL_law_817 rfl (lv_at hl 0 rfl) ?_
  refine lv_iload hx hb dL_law_818 (lv_at hl 4 rfl) ?_
  refine lv_iconst (v := nI 1) hx hb dL_law_820 (by decide) ?_
  refine n_iadd hx hb dL_law_821 ?_
  refine s_ld (i := ((4 * t) + 1)) hx hb hX hbl hbA hW (by omega) (by omega) dL_law_822 ?_
  refine lv_aload_n hx hb dL_law_823 rfl (lv_at hl 0 rfl) ?_
  refine lv_iload hx hb dL_law_824 (lv_at hl 4 rfl) ?_
  refine lv_iconst (v := nI 2) hx hb dL_law_826 (by decide) ?_
  refine n_iadd hx hb dL_law_827 ?_
  refine s_ld (i := ((4 * t) + 2)) hx hb hX hbl hbA hW (by omega) (by omega) dL_law_828 ?_
  refine lv_i2l (v := (xs ((4 * t) + 2)).toInt64) hx hb dL_law_829 rfl ?_
  refine lv_bipush (v := nI 32) hx hb dL_law_830 (by decide) ?_
  refine lv_lshl (v := (((xs ((4 * t) + 2)).toInt64) <<< ((nI 32).toInt64 &&& 63))) hx hb dL_law_832 rfl ?_
  refine lv_aload_n hx hb dL_law_833 rfl (lv_at hl 0 rfl) ?_
  refine lv_iload hx hb dL_law_834 (lv_at hl 4 rfl) ?_
  refine lv_iconst (v := nI 3) hx hb dL_law_836 (by decide) ?_
  refine n_iadd hx hb dL_law_837 ?_
  refine s_ld (i := ((4 * t) + 3)) hx hb hX hbl hbA hW (by omega) (by omega) dL_law_838 ?_
  refine lv_i2l (v := (xs ((4 * t) + 3)).toInt64) hx hb dL_law_839 rfl ?_
  refine lv_ldc2 (v := 4294967295) hx hb hown (hts _ tb_918) dL_law_840 ?_
  refine lv_land hx hb dL_law_843 ?_
  refine lv_lor hx hb dL_law_844 ?_
  refine lv_aload_n hx hb dL_law_845 rfl (lv_at hl 3 rfl) ?_
  have hsrc : ∀ i, i < n → stb i = 1 → ∃ base, 2 ≤ base ∧ ∀ j, j < D i → rw i j = base + j ∧ xK x (base + j) = 0 := fun i hi h => ((hJ.2.1 i hi).2.2.2.1 ((hJ.2.1 i hi).2.2.1.mp h)).1
  by_cases hgd : ∃ i, i < n ∧ xs ((4 * t) + 1) = nI i ∧ stb i = 1
  · obtain ⟨i, hi, e0, hs1⟩ := hgd
    have hK0 := (hJ.2.1 i hi).2.2.1.mp hs1
    have hV := ((hJ.2.1 i hi).2.2.2.1 hK0).2
    have hM := k_set l hst Z hb0 hk hc hm x σ mo n wg o vd vb stb D rw (xs ((4 * t) + 1)) (((((xs ((4 * t) + 2)).toInt64 <<< ((nI 32).toInt64 &&& 63))) ||| ((xs ((4 * t) + 3)).toInt64 &&& 4294967295))) hbk hsrc
    refine h_stat (As := [.ref hb0, .int (xs ((4 * t) + 1)), .long ((((xs ((4 * t) + 2)).toInt64) <<< ((nI 32).toInt64 &&& 63)) ||| (((xs ((4 * t) + 3)).toInt64) &&& 4294967295)), .ref out]) (rest := []) (wc := el Z out 1 r :: (cw Z hc x ++ bl Z hb0 hk hc hm wg mo n o)) (wr := mw Z hq ad cd n wg K F S T D V ++ (eo hk 1 [.ref hc] :: vs)) hx hb hml hown hts hnc hK hG rfl hA hl (w_set l Z hb0 hk hc hm x mo n wg o vd vb stb D rw (xs ((4 * t) + 1)) (((((xs ((4 * t) + 2)).toInt64 <<< ((nI 32).toInt64 &&& 63))) ||| ((xs ((4 * t) + 3)).toInt64 &&& 4294967295))) out (rn x σ (rw i) (D i)) _ _ r hM (fun v w1 h => by obtain ⟨i', base, hi', e0', hs1', hrow, hv, -⟩ := h; have q9 : i = i' := (nI_eq (by omega) (by omega)).mp (e0.symm.trans e0'); subst q9; exact hv) (fun E h => h.1)) hW (bro_of hW hvs) tb_737 tb_738 tb_0 tb_739 (nA := 4) (by decide +kernel) rfl ⟨by omega, by omega⟩ ⟨by omega, by omega⟩ rfl (Nat.le_of_ble_eq_true rfl) dL_law_846 (fun v w1 H1 L1 hp hW hzz hkk hdd => ?_)
    rcases hp with ⟨rfl, v0, w0, hp, rfl⟩ | ⟨rfl, hp, rfl⟩ | ⟨rfl, hp, rfl⟩
    · obtain ⟨i', base, hi', e0', hs1', hrow, -, S2, t2, rfl, hcok⟩ := hp
      have q9 : i = i' := (nI_eq (by omega) (by omega)).mp (e0.symm.trans e0')
      subst q9
      clear hzz hkk hdd
      generalize H1 = H at hW ⊢
      generalize L1 = locs at hW ⊢
      refine W.eq (g2 := F0 m 849 ls [.int (nI 0)]) rfl ?_
      have hM2 := k_mset1 l Z hq ad cd n wg K F S T D V i (((((xs ((4 * t) + 2)).toInt64 <<< ((nI 32).toInt64 &&& 63))) ||| ((xs ((4 * t) + 3)).toInt64 &&& 4294967295))) hi hn4 hK0 (hD i hi)
      rw [← e0] at hM2
      refine lv_istore (lv' := [(5, .int (nI 0)), (0, .ref b), (1, .ref hb0), (2, .ref hq), (3, .ref out), (4, .int (nI (4 * t)))]) hx hb dL_law_849 hl (by decide) rfl (fun ls hl => ?_)
      have hW : Wd Z A s.heap (mw Z hq ad cd n wg K F S T D V ++ ((el Z out 1 (up r 0 (rn x σ (rw i) (D i))) :: (cw Z hc (xset x S2 t2) ++ bl Z hb0 hk hc hm wg mo n o)) ++ (eo hk 1 [.ref hc] :: vs))) _ _ := Wd.rot hW
      refine lv_aload_n hx hb dL_law_851 rfl (lv_at hl 3 rfl) ?_
      refine lv_aload_n hx hb dL_law_852 rfl (lv_at hl 1 rfl) ?_
      refine lv_iload hx hb dL_law_853 (lv_at hl 5 rfl) ?_
      refine lv_iconst (v := nI 1) hx hb dL_law_855 (by decide) ?_
      refine n_iadd hx hb dL_law_856 ?_
      refine s_ld (i := ((4 * t) + 1)) hx hb hX hbl hbA hW (by omega) (by omega) dL_law_857 ?_
      refine lv_aload_n hx hb dL_law_858 rfl (lv_at hl 1 rfl) ?_
      refine lv_iload hx hb dL_law_859 (lv_at hl 5 rfl) ?_
      refine lv_iconst (v := nI 2) hx hb dL_law_861 (by decide) ?_
      refine n_iadd hx hb dL_law_862 ?_
      refine s_ld (i := ((4 * t) + 2)) hx hb hX hbl hbA hW (by omega) (by omega) dL_law_863 ?_
      refine lv_i2l (v := (xs ((4 * t) + 2)).toInt64) hx hb dL_law_864 rfl ?_
      refine lv_bipush (v := nI 32) hx hb dL_law_865 (by decide) ?_
      refine lv_lshl (v := (((xs ((4 * t) + 2)).toInt64) <<< ((nI 32).toInt64 &&& 63))) hx hb dL_law_867 rfl ?_
      refine lv_aload_n hx hb dL_law_868 rfl (lv_at hl 1 rfl) ?_
      refine lv_iload hx hb dL_law_869 (lv_at hl 5 rfl) ?_
      refine lv_iconst (v := nI 3) hx hb dL_law_871 (by decide) ?_
      refine n_iadd hx hb dL_law_872 ?_
      refine s_ld (i := ((4 * t) + 3)) hx hb hX hbl hbA hW (by omega) (by omega) dL_law_873 ?_
      refine lv_i2l (v := (xs ((4 * t) + 3)).toInt64) hx hb dL_law_874 rfl ?_
      refine lv_ldc2 (v := 4294967295) hx hb hown (hts _ tb_918) dL_law_875 ?_
      refine lv_land hx hb dL_law_878 ?_
      refine lv_lor hx hb dL_law_879 ?_
      refine c_virt (As := [.int (xs ((4 * t) + 1)), .long ((((xs ((4 * t) + 2)).toInt64) <<< ((nI 32).toInt64 &&& 63)) ||| (((xs ((4 * t) + 3)).toInt64) &&& 4294967295))]) (rest := []) (wc := mw Z hq ad cd n wg K F S T D V) (wr := (el Z out 1 (up r 0 (rn x σ (rw i) (D i))) :: (cw Z hc (xset x S2 t2) ++ bl Z hb0 hk hc hm wg mo n o)) ++ (eo hk 1 [.ref hc] :: vs)) (nl := 0) hx hb hml hown hts hK hG rfl hA hl (hM2) hW trivial (hW.at 0 rfl) rfl rfl tb_868 tb_869 tb_870 tb_7 tb_871 (nA := 2) (by decide +kernel) rfl ⟨by omega, by omega⟩ ⟨by omega, by omega⟩ rfl (Nat.le_of_ble_eq_true rfl) dL_law_880 (fun v w1 H1 L1 hp hW hzz hkk hdd => ?_)
      obtain ⟨rfl, rfl⟩ := hp
      clear hzz hkk hdd
      generalize H1 = H at hW ⊢
      generalize L1 = locs at hW ⊢
      refine W.eq (g2 := F0 m 883 ls [.long (lN (V i))]) rfl ?_
      refine lv_lstore (lv' := [(6, .long (lN (V i))), (5, .int (nI 0)), (0, .ref b), (1, .ref hb0), (2, .ref hq), (3, .ref out), (4, .int (nI (4 * t)))]) hx hb dL_law_883 hl (by decide) rfl (fun ls hl => ?_)
      refine lv_aload_n hx hb dL_law_885 rfl (lv_at hl 4 rfl) ?_
      refine c_virt (As := []) (rest := []) (wc := mw Z hq ad 0 n wg K F S T D (up V i (uN (((((xs ((4 * t) + 2)).toInt64 <<< ((nI 32).toInt64 &&& 63))) ||| ((xs ((4 * t) + 3)).toInt64 &&& 4294967295))) % 2 ^ D i))) (wr := (el Z out 1 (up r 0 (rn x σ (rw i) (D i))) :: (cw Z hc (xset x S2 t2) ++ bl Z hb0 hk hc hm wg mo n o)) ++ (eo hk 1 [.ref hc] :: vs)) (nl := 0) hx hb hml hown hts hK hG rfl hA hl (k_thrown l Z hq ad 0 n wg K F S T D (up V i (uN (((((xs ((4 * t) + 2)).toInt64 <<< ((nI 32).toInt64 &&& 63))) ||| ((xs ((4 * t) + 3)).toInt64 &&& 4294967295))) % 2 ^ D i))) hW trivial (hW.at 0 rfl) rfl rfl tb_808 tb_809 tb_810 tb_7 tb_811 (nA := 0) (by decide +kernel) rfl ⟨by omega, by omega⟩ ⟨by omega, by omega⟩ rfl (Nat.le_of_ble_eq_true rfl) dL_law_886 (fun v w1 H1 L1 hp hW hzz hkk hdd => ?_)
      obtain ⟨rfl, rfl⟩ := hp
      clear hzz hkk hdd
      generalize H1 = H at hW ⊢
      generalize L1 = locs at hW ⊢
      refine W.eq (g2 := F0 m 889 ls [.int (nI 0)]) rfl ?_
      refine lv_iload hx hb dL_law_889 (lv_at hl 1 rfl) ?_
      refine n_eq_t (tgt := 896) hx hb rfl dL_law_891 (by decide) ?_
      refine lv_iload hx hb dL_law_896 (lv_at hl 1 rfl) ?_
      refine n_zne_f (tgt := 912) hx hb rfl dL_law_898 (by decide) ?_
      refine lv_aload_n hx hb dL_law_901 rfl (lv_at hl 5 rfl) ?_
      refine lv_iconst (v := nI 0) hx hb dL_law_902 (by decide) ?_
      refine r_lald (i := 0) hx hb hK (hW.at 7 rfl) (by omega) (by omega) dL_law_903 ?_
      refine lv_lload hx hb dL_law_904 (lv_at hl 0 rfl) ?_
      refine W.lcmp hx hb dL_law_906 ?_
      refine lv_if_eq (tgt := 912) hx hb dL_law_907 (by decide) (fun _ => ?_) (fun q => absurd ((lg_cmp_eq _ _).mpr (by rw [up_s]; exact congrArg lN hV)) q)
      refine lv_goto (tgt := 1052) hx hb dL_law_912 (by decide) ?_
      have hW : Wd Z A s.heap ((el Z out 1 (up r 0 (rn x σ (rw i) (D i))) :: (cw Z hc (xset x S2 t2) ++ bl Z hb0 hk hc hm wg mo n o)) ++ (mw Z hq ad 0 n wg K F S T D (up V i (uN (((((xs ((4 * t) + 2)).toInt64 <<< ((nI 32).toInt64 &&& 63))) ||| ((xs ((4 * t) + 3)).toInt64 &&& 4294967295))) % 2 ^ D i)) ++ (eo hk 1 [.ref hc] :: vs))) _ _ := Wd.rot (w1 := mw Z hq ad 0 n wg K F S T D (up V i (uN (((((xs ((4 * t) + 2)).toInt64 <<< ((nI 32).toInt64 &&& 63))) ||| ((xs ((4 * t) + 3)).toInt64 &&& 4294967295))) % 2 ^ D i))) (wc := el Z out 1 (up r 0 (rn x σ (rw i) (D i))) :: (cw Z hc (xset x S2 t2) ++ bl Z hb0 hk hc hm wg mo n o)) hW
      have hsu : xu (xset x S2 t2) = xu x := rfl
      exact kk _ _ _ _ ls ⟨xset x S2 t2, sset σ base (D i) (uN (((((xs ((4 * t) + 2)).toInt64 <<< ((nI 32).toInt64 &&& 63))) ||| ((xs ((4 * t) + 3)).toInt64 &&& 4294967295)))), mo, n, wg, o, vd, vb, stb, rw, up r 0 (rn x σ (rw i) (D i)), 0, K, F, S, T, D, up V i (uN (((((xs ((4 * t) + 2)).toInt64 <<< ((nI 32).toInt64 &&& 63))) ||| ((xs ((4 * t) + 3)).toInt64 &&& 4294967295))) % 2 ^ D i), vs, ⟨hvs, fun _ => J_set hJ hi hK0 hrow hcok, by omega, by omega, by omega, by omega, by omega⟩, hW⟩ (lv_sub hl [2, 3, 4, 5, 6] rfl)
    · exact absurd ⟨i, hi, e0, hs1⟩ hp.2
    · exact absurd hp.1 (by decide)
  · have hM := k_set l hst Z hb0 hk hc hm x σ mo n wg o vd vb stb D rw (xs ((4 * t) + 1)) (((((xs ((4 * t) + 2)).toInt64 <<< ((nI 32).toInt64 &&& 63))) ||| ((xs ((4 * t) + 3)).toInt64 &&& 4294967295))) hbk hsrc
    refine h_stat (As := [.ref hb0, .int (xs ((4 * t) + 1)), .long ((((xs ((4 * t) + 2)).toInt64) <<< ((nI 32).toInt64 &&& 63)) ||| (((xs ((4 * t) + 3)).toInt64) &&& 4294967295)), .ref out]) (rest := []) (wc := el Z out 1 r :: (cw Z hc x ++ bl Z hb0 hk hc hm wg mo n o)) (wr := mw Z hq ad cd n wg K F S T D V ++ (eo hk 1 [.ref hc] :: vs)) hx hb hml hown hts hnc hK hG rfl hA hl (w_set l Z hb0 hk hc hm x mo n wg o vd vb stb D rw (xs ((4 * t) + 1)) (((((xs ((4 * t) + 2)).toInt64 <<< ((nI 32).toInt64 &&& 63))) ||| ((xs ((4 * t) + 3)).toInt64 &&& 4294967295))) out 0 _ _ r hM (fun v w1 h => absurd (by obtain ⟨i, base, hi, e0, hs1, -⟩ := h; exact ⟨i, hi, e0, hs1⟩) hgd) (fun E h => h.1)) hW (bro_of hW hvs) tb_737 tb_738 tb_0 tb_739 (nA := 4) (by decide +kernel) rfl ⟨by omega, by omega⟩ ⟨by omega, by omega⟩ rfl (Nat.le_of_ble_eq_true rfl) dL_law_846 (fun v w1 H1 L1 hp hW hzz hkk hdd => ?_)
    rcases hp with ⟨rfl, v0, w0, hp, rfl⟩ | ⟨rfl, hp, rfl⟩ | ⟨rfl, hp, rfl⟩
    · exact absurd (by obtain ⟨i, base, hpi, e0, hps1, -⟩ := hp; exact ⟨i, hpi, e0, hps1⟩) hgd
    · clear hzz hkk hdd
      generalize H1 = H at hW ⊢
      generalize L1 = locs at hW ⊢
      refine W.eq (g2 := F0 m 849 ls [.int (nI 1)]) rfl ?_
      have hM2 := k_mset0 l Z hq ad cd n wg K F S T D V (xs ((4 * t) + 1)) (((((xs ((4 * t) + 2)).toInt64 <<< ((nI 32).toInt64 &&& 63))) ||| ((xs ((4 * t) + 3)).toInt64 &&& 4294967295))) hn4 (fun ⟨i, hi, e0, hk⟩ => hgd ⟨i, hi, e0, (hJ.2.1 i hi).2.2.1.mpr hk⟩) (fun i hi => K_lt (hJ.2.1 i hi).1)
      refine lv_istore (lv' := [(5, .int (nI 1)), (0, .ref b), (1, .ref hb0), (2, .ref hq), (3, .ref out), (4, .int (nI (4 * t)))]) hx hb dL_law_849 hl (by decide) rfl (fun ls hl => ?_)
      have hW : Wd Z A s.heap (mw Z hq ad cd n wg K F S T D V ++ ((el Z out 1 r :: (cw Z hc x ++ bl Z hb0 hk hc hm wg mo n o)) ++ (eo hk 1 [.ref hc] :: vs))) _ _ := Wd.rot hW
      refine lv_aload_n hx hb dL_law_851 rfl (lv_at hl 3 rfl) ?_
      refine lv_aload_n hx hb dL_law_852 rfl (lv_at hl 1 rfl) ?_
      refine lv_iload hx hb dL_law_853 (lv_at hl 5 rfl) ?_
      refine lv_iconst (v := nI 1) hx hb dL_law_855 (by decide) ?_
      refine n_iadd hx hb dL_law_856 ?_
      refine s_ld (i := ((4 * t) + 1)) hx hb hX hbl hbA hW (by omega) (by omega) dL_law_857 ?_
      refine lv_aload_n hx hb dL_law_858 rfl (lv_at hl 1 rfl) ?_
      refine lv_iload hx hb dL_law_859 (lv_at hl 5 rfl) ?_
      refine lv_iconst (v := nI 2) hx hb dL_law_861 (by decide) ?_
      refine n_iadd hx hb dL_law_862 ?_
      refine s_ld (i := ((4 * t) + 2)) hx hb hX hbl hbA hW (by omega) (by omega) dL_law_863 ?_
      refine lv_i2l (v := (xs ((4 * t) + 2)).toInt64) hx hb dL_law_864 rfl ?_
      refine lv_bipush (v := nI 32) hx hb dL_law_865 (by decide) ?_
      refine lv_lshl (v := (((xs ((4 * t) + 2)).toInt64) <<< ((nI 32).toInt64 &&& 63))) hx hb dL_law_867 rfl ?_
      refine lv_aload_n hx hb dL_law_868 rfl (lv_at hl 1 rfl) ?_
      refine lv_iload hx hb dL_law_869 (lv_at hl 5 rfl) ?_
      refine lv_iconst (v := nI 3) hx hb dL_law_871 (by decide) ?_
      refine n_iadd hx hb dL_law_872 ?_
      refine s_ld (i := ((4 * t) + 3)) hx hb hX hbl hbA hW (by omega) (by omega) dL_law_873 ?_
      refine lv_i2l (v := (xs ((4 * t) + 3)).toInt64) hx hb dL_law_874 rfl ?_
      refine lv_ldc2 (v := 4294967295) hx hb hown (hts _ tb_918) dL_law_875 ?_
      refine lv_land hx hb dL_law_878 ?_
      refine lv_lor hx hb dL_law_879 ?_
      refine c_virt (As := [.int (xs ((4 * t) + 1)), .long ((((xs ((4 * t) + 2)).toInt64) <<< ((nI 32).toInt64 &&& 63)) ||| (((xs ((4 * t) + 3)).toInt64) &&& 4294967295))]) (rest := []) (wc := mw Z hq ad cd n wg K F S T D V) (wr := (el Z out 1 r :: (cw Z hc x ++ bl Z hb0 hk hc hm wg mo n o)) ++ (eo hk 1 [.ref hc] :: vs)) (nl := 0) hx hb hml hown hts hK hG rfl hA hl (hM2) hW trivial (hW.at 0 rfl) rfl rfl tb_868 tb_869 tb_870 tb_7 tb_871 (nA := 2) (by decide +kernel) rfl ⟨by omega, by omega⟩ ⟨by omega, by omega⟩ rfl (Nat.le_of_ble_eq_true rfl) dL_law_880 (fun v w1 H1 L1 hp hW hzz hkk hdd => ?_)
      obtain ⟨⟨r0, rfl⟩, rfl⟩ := hp
      clear hzz hkk hdd
      generalize H1 = H at hW ⊢
      generalize L1 = locs at hW ⊢
      refine W.eq (g2 := F0 m 883 ls [.long r0]) rfl ?_
      refine lv_lstore (lv' := [(6, .long r0), (5, .int (nI 1)), (0, .ref b), (1, .ref hb0), (2, .ref hq), (3, .ref out), (4, .int (nI (4 * t)))]) hx hb dL_law_883 hl (by decide) rfl (fun ls hl => ?_)
      refine lv_aload_n hx hb dL_law_885 rfl (lv_at hl 4 rfl) ?_
      refine c_virt (As := []) (rest := []) (wc := mw Z hq ad 1 n wg K F S T D V) (wr := (el Z out 1 r :: (cw Z hc x ++ bl Z hb0 hk hc hm wg mo n o)) ++ (eo hk 1 [.ref hc] :: vs)) (nl := 0) hx hb hml hown hts hK hG rfl hA hl (k_thrown l Z hq ad 1 n wg K F S T D V) hW trivial (hW.at 0 rfl) rfl rfl tb_808 tb_809 tb_810 tb_7 tb_811 (nA := 0) (by decide +kernel) rfl ⟨by omega, by omega⟩ ⟨by omega, by omega⟩ rfl (Nat.le_of_ble_eq_true rfl) dL_law_886 (fun v w1 H1 L1 hp hW hzz hkk hdd => ?_)
      obtain ⟨rfl, rfl⟩ := hp
      clear hzz hkk hdd
      generalize H1 = H at hW ⊢
      generalize L1 = locs at hW ⊢
      refine W.eq (g2 := F0 m 889 ls [.int (nI 1)]) rfl ?_
      refine lv_iload hx hb dL_law_889 (lv_at hl 1 rfl) ?_
      refine n_eq_t (tgt := 896) hx hb rfl dL_law_891 (by decide) ?_
      refine lv_iload hx hb dL_law_896 (lv_at hl 1 rfl) ?_
      refine n_zne_t (tgt := 912) hx hb (by decide) (by omega) dL_law_898 (by decide) ?_
      refine lv_goto (tgt := 1052) hx hb dL_law_912 (by decide) ?_
      have hW : Wd Z A s.heap ((el Z out 1 r :: (cw Z hc x ++ bl Z hb0 hk hc hm wg mo n o)) ++ (mw Z hq ad 1 n wg K F S T D V ++ (eo hk 1 [.ref hc] :: vs))) _ _ := Wd.rot (w1 := mw Z hq ad 1 n wg K F S T D V) (wc := el Z out 1 r :: (cw Z hc x ++ bl Z hb0 hk hc hm wg mo n o)) hW
      exact kk _ _ _ _ ls ⟨x, σ, mo, n, wg, o, vd, vb, stb, rw, r, 1, K, F, S, T, D, V, vs, ⟨hvs, fun _ => hJ, by omega, by omega, by omega, by omega, by omega⟩, hW⟩ (lv_sub hl [2, 3, 4, 5, 6] rfl)
    · exact absurd hp.1 (by decide)
set_option maxHeartbeats 4000000 in
set_option maxRecDepth 100000 in
theorem c_value {p : Program} (l : Launch) (hst : l.stackTraces = false) {e : Env} {R : Room} {s : State} {m : MethodId} {below : List Frame} {meth : Method} {c : Code} {b L : Nat} {xs : Nat → Int32} {Z : Zt} {A : Nat → Prop} (C : LC p R s m meth c b L xs Z A) (hL : L ≤ 2048) {Q : State → Prop} {t hb0 hk hc hm out hq : Nat} {ad : MA} (ht : 4 * t + 4 ≤ L)
    (kk : ∀ (H : Heap) (locs : List Loc) (cells slots : Nat) (ls : Array Slot), LE Z A s.heap H locs (t + 1) cells slots hb0 hk hc hm out hq ad → lv_has ls 8 [(0, .ref b), (1, .ref hb0), (2, .ref hq), (3, .ref out), (4, .int (nI (4 * t)))] → W p l e R s m #[Value.ref b] below meth c H locs cells slots Q (F0 m 1052 ls []))
    {H : Heap} {locs : List Loc} {cells slots : Nat} {ls : Array Slot} (hE : LE Z A s.heap H locs t cells slots hb0 hk hc hm out hq ad) (hl : lv_has ls 8 [(0, .ref b), (1, .ref hb0), (2, .ref hq), (3, .ref out), (4, .int (nI (4 * t)))]) : W p l e R s m #[Value.ref b] below meth c H locs cells slots Q (F0 m 915 ls []) := by
  obtain ⟨hx, hb, hml, hown, hts, hX, hbl, hlk, hnc, hK, hG, hA, hbA, hRf, hRc, hRs, hRl⟩ := C
  obtain ⟨x, σ, mo, n, wg, o, vd, vb, stb, rw, r, cd, K, F, S, T, D, V, vs, ⟨hvs, hJ, hnt, hwg, hu, hcl, hsl⟩, hW⟩ := hE
  have hJ := hJ (by omega)
  have hbk := hJ.1
  have hxn := hbk.2.2.2.1
  have hwd := hbk.2.2.2.2.2
  have hD : ∀ i, i < n → D i ≤ 64 := fun i hi => (hwd i hi).2.1
  have hn4 : n ≤ 4000 := by omega
  refine lv_aload_n hx hb dL_law_915 rfl (lv_at hl 1 rfl) ?_
  refine lv_aload_n hx hb dL_law_916 rfl (lv_at hl 0 rfl) ?_
  refine lv_iload hx hb dL_law_917 (lv_at hl 4 rfl) ?_
  refine lv_iconst (v := nI 1) hx hb dL_law_919 (by decide) ?_
  refine n_iadd hx hb dL_law_920 ?_
  refine s_ld (i := ((4 * t) + 1)) hx hb hX hbl hbA hW (by omega) (by omega) dL_law_921 ?_
  refine lv_aload_n hx hb dL_law_922 rfl (lv_at hl 3 rfl) ?_
  by_cases hgd : vix (xs ((4 * t) + 1)) n
  · obtain ⟨i, hi, e0⟩ := hgd
    have hM := k_value l hst Z hb0 hk hc hm x σ mo n wg o vd vb stb D rw (xs ((4 * t) + 1)) hbk
    refine h_stat (As := [.ref hb0, .int (xs ((4 * t) + 1)), .ref out]) (rest := []) (wc := el Z out 1 r :: (cw Z hc x ++ bl Z hb0 hk hc hm wg mo n o)) (wr := mw Z hq ad cd n wg K F S T D V ++ (eo hk 1 [.ref hc] :: vs)) hx hb hml hown hts hnc hK hG rfl hA hl (w_value l Z hb0 hk hc hm x mo n wg o vd vb stb D rw (xs ((4 * t) + 1)) out (rn x σ (rw i) (D i)) _ _ r hM (fun v w1 h => by obtain ⟨i', hi', e0', hv, -⟩ := h; have q9 : i = i' := (nI_eq (by omega) (by omega)).mp (e0.symm.trans e0'); subst q9; exact hv) (fun E h => h.1)) hW (bro_of hW hvs) tb_750 tb_751 tb_0 tb_752 (nA := 3) (by decide +kernel) rfl ⟨by omega, by omega⟩ ⟨by omega, by omega⟩ rfl (Nat.le_of_ble_eq_true rfl) dL_law_923 (fun v w1 H1 L1 hp hW hzz hkk hdd => ?_)
    rcases hp with ⟨rfl, v0, w0, hp, rfl⟩ | ⟨rfl, hp, rfl⟩ | ⟨rfl, hp, rfl⟩
    · obtain ⟨i', hi', e0', -, S2, t2, rfl, hcok⟩ := hp
      have q9 : i = i' := (nI_eq (by omega) (by omega)).mp (e0.symm.trans e0')
      subst q9
      clear hzz hkk hdd
      generalize H1 = H at hW ⊢
      generalize L1 = locs at hW ⊢
      refine W.eq (g2 := F0 m 926 ls [.int (nI 0)]) rfl ?_
      have hM2 := k_mvalue1 l Z hq ad cd n wg K F S T D V i (tv x σ rw D) hi hn4 (fun i hi => (hJ.2.1 i hi).1) (fun i hi => (hJ.2.1 i hi).2.1) (J_ht hJ)
      rw [← e0] at hM2
      refine lv_istore (lv' := [(5, .int (nI 0)), (0, .ref b), (1, .ref hb0), (2, .ref hq), (3, .ref out), (4, .int (nI (4 * t)))]) hx hb dL_law_926 hl (by decide) rfl (fun ls hl => ?_)
      have hW : Wd Z A s.heap (mw Z hq ad cd n wg K F S T D V ++ ((el Z out 1 (up r 0 (rn x σ (rw i) (D i))) :: (cw Z hc (xset x S2 t2) ++ bl Z hb0 hk hc hm wg mo n o)) ++ (eo hk 1 [.ref hc] :: vs))) _ _ := Wd.rot hW
      refine lv_aload_n hx hb dL_law_928 rfl (lv_at hl 3 rfl) ?_
      refine lv_aload_n hx hb dL_law_929 rfl (lv_at hl 1 rfl) ?_
      refine lv_iload hx hb dL_law_930 (lv_at hl 5 rfl) ?_
      refine lv_iconst (v := nI 1) hx hb dL_law_932 (by decide) ?_
      refine n_iadd hx hb dL_law_933 ?_
      refine s_ld (i := ((4 * t) + 1)) hx hb hX hbl hbA hW (by omega) (by omega) dL_law_934 ?_
      refine c_virt (As := [.int (xs ((4 * t) + 1))]) (rest := []) (wc := mw Z hq ad cd n wg K F S T D V) (wr := (el Z out 1 (up r 0 (rn x σ (rw i) (D i))) :: (cw Z hc (xset x S2 t2) ++ bl Z hb0 hk hc hm wg mo n o)) ++ (eo hk 1 [.ref hc] :: vs)) (nl := 0) hx hb hml hown hts hK hG rfl hA hl (hM2) hW trivial (hW.at 0 rfl) rfl rfl tb_872 tb_873 tb_874 tb_7 tb_875 (nA := 1) (by decide +kernel) rfl ⟨by omega, by omega⟩ ⟨by omega, by omega⟩ rfl (Nat.le_of_ble_eq_true rfl) dL_law_935 (fun v w1 H1 L1 hp hW hzz hkk hdd => ?_)
      obtain ⟨rfl, V2, rfl, hV2⟩ := hp
      clear hzz hkk hdd
      generalize H1 = H at hW ⊢
      generalize L1 = locs at hW ⊢
      refine W.eq (g2 := F0 m 938 ls [.long (lN (tv x σ rw D i))]) rfl ?_
      refine lv_lstore (lv' := [(6, .long (lN (tv x σ rw D i))), (5, .int (nI 0)), (0, .ref b), (1, .ref hb0), (2, .ref hq), (3, .ref out), (4, .int (nI (4 * t)))]) hx hb dL_law_938 hl (by decide) rfl (fun ls hl => ?_)
      refine lv_aload_n hx hb dL_law_940 rfl (lv_at hl 4 rfl) ?_
      refine c_virt (As := []) (rest := []) (wc := mw Z hq ad 0 n wg K F S T D V2) (wr := (el Z out 1 (up r 0 (rn x σ (rw i) (D i))) :: (cw Z hc (xset x S2 t2) ++ bl Z hb0 hk hc hm wg mo n o)) ++ (eo hk 1 [.ref hc] :: vs)) (nl := 0) hx hb hml hown hts hK hG rfl hA hl (k_thrown l Z hq ad 0 n wg K F S T D V2) hW trivial (hW.at 0 rfl) rfl rfl tb_808 tb_809 tb_810 tb_7 tb_811 (nA := 0) (by decide +kernel) rfl ⟨by omega, by omega⟩ ⟨by omega, by omega⟩ rfl (Nat.le_of_ble_eq_true rfl) dL_law_941 (fun v w1 H1 L1 hp hW hzz hkk hdd => ?_)
      obtain ⟨rfl, rfl⟩ := hp
      clear hzz hkk hdd
      generalize H1 = H at hW ⊢
      generalize L1 = locs at hW ⊢
      refine W.eq (g2 := F0 m 944 ls [.int (nI 0)]) rfl ?_
      refine lv_iload hx hb dL_law_944 (lv_at hl 1 rfl) ?_
      refine n_eq_t (tgt := 951) hx hb rfl dL_law_946 (by decide) ?_
      refine lv_iload hx hb dL_law_951 (lv_at hl 1 rfl) ?_
      refine n_zne_f (tgt := 967) hx hb rfl dL_law_953 (by decide) ?_
      refine lv_aload_n hx hb dL_law_956 rfl (lv_at hl 5 rfl) ?_
      refine lv_iconst (v := nI 0) hx hb dL_law_957 (by decide) ?_
      refine r_lald (i := 0) hx hb hK (hW.at 7 rfl) (by omega) (by omega) dL_law_958 ?_
      refine lv_lload hx hb dL_law_959 (lv_at hl 0 rfl) ?_
      refine W.lcmp hx hb dL_law_961 ?_
      refine lv_if_eq (tgt := 967) hx hb dL_law_962 (by decide) (fun _ => ?_) (fun q => absurd ((lg_cmp_eq _ _).mpr (by rw [up_s]; rfl)) q)
      refine lv_goto (tgt := 1052) hx hb dL_law_967 (by decide) ?_
      have hW : Wd Z A s.heap ((el Z out 1 (up r 0 (rn x σ (rw i) (D i))) :: (cw Z hc (xset x S2 t2) ++ bl Z hb0 hk hc hm wg mo n o)) ++ (mw Z hq ad 0 n wg K F S T D V2 ++ (eo hk 1 [.ref hc] :: vs))) _ _ := Wd.rot (w1 := mw Z hq ad 0 n wg K F S T D V2) (wc := el Z out 1 (up r 0 (rn x σ (rw i) (D i))) :: (cw Z hc (xset x S2 t2) ++ bl Z hb0 hk hc hm wg mo n o)) hW
      have hsu : xu (xset x S2 t2) = xu x := rfl
      exact kk _ _ _ _ ls ⟨xset x S2 t2, σ, mo, n, wg, o, vd, vb, stb, rw, up r 0 (rn x σ (rw i) (D i)), 0, K, F, S, T, D, V2, vs, ⟨hvs, fun _ => J_val hJ hcok hV2, by omega, by omega, by omega, by omega, by omega⟩, hW⟩ (lv_sub hl [2, 3, 4, 5, 6] rfl)
    · exact absurd ⟨i, hi, e0⟩ hp.2
    · exact absurd hp.1 (by decide)
  · have hM := k_value l hst Z hb0 hk hc hm x σ mo n wg o vd vb stb D rw (xs ((4 * t) + 1)) hbk
    refine h_stat (As := [.ref hb0, .int (xs ((4 * t) + 1)), .ref out]) (rest := []) (wc := el Z out 1 r :: (cw Z hc x ++ bl Z hb0 hk hc hm wg mo n o)) (wr := mw Z hq ad cd n wg K F S T D V ++ (eo hk 1 [.ref hc] :: vs)) hx hb hml hown hts hnc hK hG rfl hA hl (w_value l Z hb0 hk hc hm x mo n wg o vd vb stb D rw (xs ((4 * t) + 1)) out 0 _ _ r hM (fun v w1 h => absurd (by obtain ⟨i, hi, e0, -⟩ := h; exact ⟨i, hi, e0⟩) hgd) (fun E h => h.1)) hW (bro_of hW hvs) tb_750 tb_751 tb_0 tb_752 (nA := 3) (by decide +kernel) rfl ⟨by omega, by omega⟩ ⟨by omega, by omega⟩ rfl (Nat.le_of_ble_eq_true rfl) dL_law_923 (fun v w1 H1 L1 hp hW hzz hkk hdd => ?_)
    rcases hp with ⟨rfl, v0, w0, hp, rfl⟩ | ⟨rfl, hp, rfl⟩ | ⟨rfl, hp, rfl⟩
    · exact absurd (by obtain ⟨i, hpi, e0, -⟩ := hp; exact ⟨i, hpi, e0⟩) hgd
    · clear hzz hkk hdd
      generalize H1 = H at hW ⊢
      generalize L1 = locs at hW ⊢
      refine W.eq (g2 := F0 m 926 ls [.int (nI 1)]) rfl ?_
      have hM2 := k_mvalue0 l Z hq ad cd n wg K F S T D V (xs ((4 * t) + 1)) hn4 hgd
      refine lv_istore (lv' := [(5, .int (nI 1)), (0, .ref b), (1, .ref hb0), (2, .ref hq), (3, .ref out), (4, .int (nI (4 * t)))]) hx hb dL_law_926 hl (by decide) rfl (fun ls hl => ?_)
      have hW : Wd Z A s.heap (mw Z hq ad cd n wg K F S T D V ++ ((el Z out 1 r :: (cw Z hc x ++ bl Z hb0 hk hc hm wg mo n o)) ++ (eo hk 1 [.ref hc] :: vs))) _ _ := Wd.rot hW
      refine lv_aload_n hx hb dL_law_928 rfl (lv_at hl 3 rfl) ?_
      refine lv_aload_n hx hb dL_law_929 rfl (lv_at hl 1 rfl) ?_
      refine lv_iload hx hb dL_law_930 (lv_at hl 5 rfl) ?_
      refine lv_iconst (v := nI 1) hx hb dL_law_932 (by decide) ?_
      refine n_iadd hx hb dL_law_933 ?_
      refine s_ld (i := ((4 * t) + 1)) hx hb hX hbl hbA hW (by omega) (by omega) dL_law_934 ?_
      refine c_virt (As := [.int (xs ((4 * t) + 1))]) (rest := []) (wc := mw Z hq ad cd n wg K F S T D V) (wr := (el Z out 1 r :: (cw Z hc x ++ bl Z hb0 hk hc hm wg mo n o)) ++ (eo hk 1 [.ref hc] :: vs)) (nl := 0) hx hb hml hown hts hK hG rfl hA hl (hM2) hW trivial (hW.at 0 rfl) rfl rfl tb_872 tb_873 tb_874 tb_7 tb_875 (nA := 1) (by decide +kernel) rfl ⟨by omega, by omega⟩ ⟨by omega, by omega⟩ rfl (Nat.le_of_ble_eq_true rfl) dL_law_935 (fun v w1 H1 L1 hp hW hzz hkk hdd => ?_)
      obtain ⟨⟨r0, rfl⟩, rfl⟩ := hp
      clear hzz hkk hdd
      generalize H1 = H at hW ⊢
      generalize L1 = locs at hW ⊢
      refine W.eq (g2 := F0 m 938 ls [.long r0]) rfl ?_
      refine lv_lstore (lv' := [(6, .long r0), (5, .int (nI 1)), (0, .ref b), (1, .ref hb0), (2, .ref hq), (3, .ref out), (4, .int (nI (4 * t)))]) hx hb dL_law_938 hl (by decide) rfl (fun ls hl => ?_)
      refine lv_aload_n hx hb dL_law_940 rfl (lv_at hl 4 rfl) ?_
      refine c_virt (As := []) (rest := []) (wc := mw Z hq ad 1 n wg K F S T D V) (wr := (el Z out 1 r :: (cw Z hc x ++ bl Z hb0 hk hc hm wg mo n o)) ++ (eo hk 1 [.ref hc] :: vs)) (nl := 0) hx hb hml hown hts hK hG rfl hA hl (k_thrown l Z hq ad 1 n wg K F S T D V) hW trivial (hW.at 0 rfl) rfl rfl tb_808 tb_809 tb_810 tb_7 tb_811 (nA := 0) (by decide +kernel) rfl ⟨by omega, by omega⟩ ⟨by omega, by omega⟩ rfl (Nat.le_of_ble_eq_true rfl) dL_law_941 (fun v w1 H1 L1 hp hW hzz hkk hdd => ?_)
      obtain ⟨rfl, rfl⟩ := hp
      clear hzz hkk hdd
      generalize H1 = H at hW ⊢
      generalize L1 = locs at hW ⊢
      refine W.eq (g2 := F0 m 944 ls [.int (nI 1)]) rfl ?_
      refine lv_iload hx hb dL_law_944 (lv_at hl 1 rfl) ?_
      refine n_eq_t (tgt := 951) hx hb rfl dL_law_946 (by decide) ?_
      refine lv_iload hx hb dL_law_951 (lv_at hl 1 rfl) ?_
      refine n_zne_t (tgt := 967) hx hb (by decide) (by omega) dL_law_953 (by decide) ?_
      refine lv_goto (tgt := 1052) hx hb dL_law_967 (by decide) ?_
      have hW : Wd Z A s.heap ((el Z out 1 r :: (cw Z hc x ++ bl Z hb0 hk hc hm wg mo n o)) ++ (mw Z hq ad 1 n wg K F S T D V ++ (eo hk 1 [.ref hc] :: vs))) _ _ := Wd.rot (w1 := mw Z hq ad 1 n wg K F S T D V) (wc := el Z out 1 r :: (cw Z hc x ++ bl Z hb0 hk hc hm wg mo n o)) hW
      exact kk _ _ _ _ ls ⟨x, σ, mo, n, wg, o, vd, vb, stb, rw, r, 1, K, F, S, T, D, V, vs, ⟨hvs, fun _ => hJ, by omega, by omega, by omega, by omega, by omega⟩, hW⟩ (lv_sub hl [2, 3, 4, 5, 6] rfl)
    · exact absurd hp.1 (by decide)
set_option maxHeartbeats 4000000 in
set_option maxRecDepth 100000 in
theorem c_width {p : Program} (l : Launch) (hst : l.stackTraces = false) {e : Env} {R : Room} {s : State} {m : MethodId} {below : List Frame} {meth : Method} {c : Code} {b L : Nat} {xs : Nat → Int32} {Z : Zt} {A : Nat → Prop} (C : LC p R s m meth c b L xs Z A) (hL : L ≤ 2048) {Q : State → Prop} {t hb0 hk hc hm out hq : Nat} {ad : MA} (ht : 4 * t + 4 ≤ L)
    (kk : ∀ (H : Heap) (locs : List Loc) (cells slots : Nat) (ls : Array Slot), LE Z A s.heap H locs (t + 1) cells slots hb0 hk hc hm out hq ad → lv_has ls 8 [(0, .ref b), (1, .ref hb0), (2, .ref hq), (3, .ref out), (4, .int (nI (4 * t)))] → W p l e R s m #[Value.ref b] below meth c H locs cells slots Q (F0 m 1052 ls []))
    {H : Heap} {locs : List Loc} {cells slots : Nat} {ls : Array Slot} (hE : LE Z A s.heap H locs t cells slots hb0 hk hc hm out hq ad) (hl : lv_has ls 8 [(0, .ref b), (1, .ref hb0), (2, .ref hq), (3, .ref out), (4, .int (nI (4 * t)))]) : W p l e R s m #[Value.ref b] below meth c H locs cells slots Q (F0 m 970 ls []) := by
  obtain ⟨hx, hb, hml, hown, hts, hX, hbl, hlk, hnc, hK, hG, hA, hbA, hRf, hRc, hRs, hRl⟩ := C
  obtain ⟨x, σ, mo, n, wg, o, vd, vb, stb, rw, r, cd, K, F, S, T, D, V, vs, ⟨hvs, hJ, hnt, hwg, hu, hcl, hsl⟩, hW⟩ := hE
  have hJ := hJ (by omega)
  have hbk := hJ.1
  have hxn := hbk.2.2.2.1
  have hwd := hbk.2.2.2.2.2
  have hD : ∀ i, i < n → D i ≤ 64 := fun i hi => (hwd i hi).2.1
  have hn4 : n ≤ 4000 := by omega
  refine lv_aload_n hx hb dL_law_970 rfl (lv_at hl 1 rfl) ?_
  refine lv_aload_n hx hb dL_law_971 rfl (lv_at hl 0 rfl) ?_
  refine lv_iload hx hb dL_law_972 (lv_at hl 4 rfl) ?_
  refine lv_iconst (v := nI 1) hx hb dL_law_974 (by decide) ?_
  refine n_iadd hx hb dL_law_975 ?_
  refine s_ld (i := ((4 * t) + 1)) hx hb hX hbl hbA hW (by omega) (by omega) dL_law_976 ?_
  refine lv_aload_n hx hb dL_law_977 rfl (lv_at hl 3 rfl) ?_
  by_cases hgd : vix (xs ((4 * t) + 1)) n
  · obtain ⟨i, hi, e0⟩ := hgd
    have hDi := hD i hi
    have hM := k_width l hst Z hb0 hk hc hm x σ mo n wg o vd vb stb D rw (xs ((4 * t) + 1)) hbk
    refine h_stat (As := [.ref hb0, .int (xs ((4 * t) + 1)), .ref out]) (rest := []) (wc := el Z out 1 r :: (cw Z hc x ++ bl Z hb0 hk hc hm wg mo n o)) (wr := mw Z hq ad cd n wg K F S T D V ++ (eo hk 1 [.ref hc] :: vs)) hx hb hml hown hts hnc hK hG rfl hA hl (w_width l Z hb0 hk hc hm x mo n wg o vd vb stb D rw (xs ((4 * t) + 1)) out (D i) _ _ r hM (fun v w1 h => by obtain ⟨-, i', hi', e0', hv⟩ := h; have q9 : i = i' := (nI_eq (by omega) (by omega)).mp (e0.symm.trans e0'); subst q9; exact hv) (by omega) (fun E h => h.1)) hW (bro_of hW hvs) tb_766 tb_767 tb_0 tb_768 (nA := 3) (by decide +kernel) rfl ⟨by omega, by omega⟩ ⟨by omega, by omega⟩ rfl (Nat.le_of_ble_eq_true rfl) dL_law_978 (fun v w1 H1 L1 hp hW hzz hkk hdd => ?_)
    rcases hp with ⟨rfl, v0, w0, hp, rfl⟩ | ⟨rfl, hp, rfl⟩ | ⟨rfl, hp, rfl⟩
    · obtain ⟨rfl, -⟩ := hp
      clear hzz hkk hdd
      generalize H1 = H at hW ⊢
      generalize L1 = locs at hW ⊢
      refine W.eq (g2 := F0 m 981 ls [.int (nI 0)]) rfl ?_
      have hM2 := k_mwidth1 l Z hq ad cd n wg K F S T D V i hi hn4
      rw [← e0] at hM2
      refine lv_istore (lv' := [(5, .int (nI 0)), (0, .ref b), (1, .ref hb0), (2, .ref hq), (3, .ref out), (4, .int (nI (4 * t)))]) hx hb dL_law_981 hl (by decide) rfl (fun ls hl => ?_)
      have hW : Wd Z A s.heap (mw Z hq ad cd n wg K F S T D V ++ ((el Z out 1 (up r 0 (D i)) :: (cw Z hc x ++ bl Z hb0 hk hc hm wg mo n o)) ++ (eo hk 1 [.ref hc] :: vs))) _ _ := Wd.rot hW
      refine lv_aload_n hx hb dL_law_983 rfl (lv_at hl 3 rfl) ?_
      refine lv_aload_n hx hb dL_law_984 rfl (lv_at hl 1 rfl) ?_
      refine lv_iload hx hb dL_law_985 (lv_at hl 5 rfl) ?_
      refine lv_iconst (v := nI 1) hx hb dL_law_987 (by decide) ?_
      refine n_iadd hx hb dL_law_988 ?_
      refine s_ld (i := ((4 * t) + 1)) hx hb hX hbl hbA hW (by omega) (by omega) dL_law_989 ?_
      refine c_virt (As := [.int (xs ((4 * t) + 1))]) (rest := []) (wc := mw Z hq ad cd n wg K F S T D V) (wr := (el Z out 1 (up r 0 (D i)) :: (cw Z hc x ++ bl Z hb0 hk hc hm wg mo n o)) ++ (eo hk 1 [.ref hc] :: vs)) (nl := 0) hx hb hml hown hts hK hG rfl hA hl (hM2) hW trivial (hW.at 0 rfl) rfl rfl tb_906 tb_907 tb_908 tb_7 tb_909 (nA := 1) (by decide +kernel) rfl ⟨by omega, by omega⟩ ⟨by omega, by omega⟩ rfl (Nat.le_of_ble_eq_true rfl) dL_law_990 (fun v w1 H1 L1 hp hW hzz hkk hdd => ?_)
      obtain ⟨rfl, rfl⟩ := hp
      clear hzz hkk hdd
      generalize H1 = H at hW ⊢
      generalize L1 = locs at hW ⊢
      refine W.eq (g2 := F0 m 993 ls [.int (nI (D i))]) rfl ?_
      refine lv_istore (lv' := [(6, .int (nI (D i))), (5, .int (nI 0)), (0, .ref b), (1, .ref hb0), (2, .ref hq), (3, .ref out), (4, .int (nI (4 * t)))]) hx hb dL_law_993 hl (by decide) rfl (fun ls hl => ?_)
      refine lv_aload_n hx hb dL_law_995 rfl (lv_at hl 4 rfl) ?_
      refine c_virt (As := []) (rest := []) (wc := mw Z hq ad 0 n wg K F S T D V) (wr := (el Z out 1 (up r 0 (D i)) :: (cw Z hc x ++ bl Z hb0 hk hc hm wg mo n o)) ++ (eo hk 1 [.ref hc] :: vs)) (nl := 0) hx hb hml hown hts hK hG rfl hA hl (k_thrown l Z hq ad 0 n wg K F S T D V) hW trivial (hW.at 0 rfl) rfl rfl tb_808 tb_809 tb_810 tb_7 tb_811 (nA := 0) (by decide +kernel) rfl ⟨by omega, by omega⟩ ⟨by omega, by omega⟩ rfl (Nat.le_of_ble_eq_true rfl) dL_law_996 (fun v w1 H1 L1 hp hW hzz hkk hdd => ?_)
      obtain ⟨rfl, rfl⟩ := hp
      clear hzz hkk hdd
      generalize H1 = H at hW ⊢
      generalize L1 = locs at hW ⊢
      refine W.eq (g2 := F0 m 999 ls [.int (nI 0)]) rfl ?_
      refine lv_iload hx hb dL_law_999 (lv_at hl 1 rfl) ?_
      refine n_eq_t (tgt := 1006) hx hb rfl dL_law_1001 (by decide) ?_
      refine lv_iload hx hb dL_law_1006 (lv_at hl 1 rfl) ?_
      refine n_zne_f (tgt := 1023) hx hb rfl dL_law_1008 (by decide) ?_
      refine lv_aload_n hx hb dL_law_1011 rfl (lv_at hl 5 rfl) ?_
      refine lv_iconst (v := nI 0) hx hb dL_law_1012 (by decide) ?_
      refine r_lald (i := 0) hx hb hK (hW.at 7 rfl) (by omega) (by omega) dL_law_1013 ?_
      refine lv_iload hx hb dL_law_1014 (lv_at hl 0 rfl) ?_
      refine lv_i2l (v := (nI (D i)).toInt64) hx hb dL_law_1016 rfl ?_
      refine W.lcmp hx hb dL_law_1017 ?_
      refine lv_if_eq (tgt := 1023) hx hb dL_law_1018 (by decide) (fun _ => ?_) (fun q => absurd ((lg_cmp_eq _ _).mpr (by rw [up_s, nI_long (by omega)])) q)
      refine lv_goto (tgt := 1052) hx hb dL_law_1023 (by decide) ?_
      have hW : Wd Z A s.heap ((el Z out 1 (up r 0 (D i)) :: (cw Z hc x ++ bl Z hb0 hk hc hm wg mo n o)) ++ (mw Z hq ad 0 n wg K F S T D V ++ (eo hk 1 [.ref hc] :: vs))) _ _ := Wd.rot (w1 := mw Z hq ad 0 n wg K F S T D V) (wc := el Z out 1 (up r 0 (D i)) :: (cw Z hc x ++ bl Z hb0 hk hc hm wg mo n o)) hW
      exact kk _ _ _ _ ls ⟨x, σ, mo, n, wg, o, vd, vb, stb, rw, up r 0 (D i), 0, K, F, S, T, D, V, vs, ⟨hvs, fun _ => hJ, by omega, by omega, by omega, by omega, by omega⟩, hW⟩ (lv_sub hl [2, 3, 4, 5, 6] rfl)
    · exact absurd ⟨i, hi, e0⟩ hp.2
    · exact absurd hp.1 (by decide)
  · have hM := k_width l hst Z hb0 hk hc hm x σ mo n wg o vd vb stb D rw (xs ((4 * t) + 1)) hbk
    refine h_stat (As := [.ref hb0, .int (xs ((4 * t) + 1)), .ref out]) (rest := []) (wc := el Z out 1 r :: (cw Z hc x ++ bl Z hb0 hk hc hm wg mo n o)) (wr := mw Z hq ad cd n wg K F S T D V ++ (eo hk 1 [.ref hc] :: vs)) hx hb hml hown hts hnc hK hG rfl hA hl (w_width l Z hb0 hk hc hm x mo n wg o vd vb stb D rw (xs ((4 * t) + 1)) out 0 _ _ r hM (fun v w1 h => absurd (by obtain ⟨-, i, hi, e0, -⟩ := h; exact ⟨i, hi, e0⟩) hgd) (by omega) (fun E h => h.1)) hW (bro_of hW hvs) tb_766 tb_767 tb_0 tb_768 (nA := 3) (by decide +kernel) rfl ⟨by omega, by omega⟩ ⟨by omega, by omega⟩ rfl (Nat.le_of_ble_eq_true rfl) dL_law_978 (fun v w1 H1 L1 hp hW hzz hkk hdd => ?_)
    rcases hp with ⟨rfl, v0, w0, hp, rfl⟩ | ⟨rfl, hp, rfl⟩ | ⟨rfl, hp, rfl⟩
    · exact absurd (by obtain ⟨-, i, hpi, e0, -⟩ := hp; exact ⟨i, hpi, e0⟩) hgd
    · clear hzz hkk hdd
      generalize H1 = H at hW ⊢
      generalize L1 = locs at hW ⊢
      refine W.eq (g2 := F0 m 981 ls [.int (nI 1)]) rfl ?_
      have hM2 := k_mwidth0 l Z hq ad cd n wg K F S T D V (xs ((4 * t) + 1)) hn4 hgd
      refine lv_istore (lv' := [(5, .int (nI 1)), (0, .ref b), (1, .ref hb0), (2, .ref hq), (3, .ref out), (4, .int (nI (4 * t)))]) hx hb dL_law_981 hl (by decide) rfl (fun ls hl => ?_)
      have hW : Wd Z A s.heap (mw Z hq ad cd n wg K F S T D V ++ ((el Z out 1 r :: (cw Z hc x ++ bl Z hb0 hk hc hm wg mo n o)) ++ (eo hk 1 [.ref hc] :: vs))) _ _ := Wd.rot hW
      refine lv_aload_n hx hb dL_law_983 rfl (lv_at hl 3 rfl) ?_
      refine lv_aload_n hx hb dL_law_984 rfl (lv_at hl 1 rfl) ?_
      refine lv_iload hx hb dL_law_985 (lv_at hl 5 rfl) ?_
      refine lv_iconst (v := nI 1) hx hb dL_law_987 (by decide) ?_
      refine n_iadd hx hb dL_law_988 ?_
      refine s_ld (i := ((4 * t) + 1)) hx hb hX hbl hbA hW (by omega) (by omega) dL_law_989 ?_
      refine c_virt (As := [.int (xs ((4 * t) + 1))]) (rest := []) (wc := mw Z hq ad cd n wg K F S T D V) (wr := (el Z out 1 r :: (cw Z hc x ++ bl Z hb0 hk hc hm wg mo n o)) ++ (eo hk 1 [.ref hc] :: vs)) (nl := 0) hx hb hml hown hts hK hG rfl hA hl (hM2) hW trivial (hW.at 0 rfl) rfl rfl tb_906 tb_907 tb_908 tb_7 tb_909 (nA := 1) (by decide +kernel) rfl ⟨by omega, by omega⟩ ⟨by omega, by omega⟩ rfl (Nat.le_of_ble_eq_true rfl) dL_law_990 (fun v w1 H1 L1 hp hW hzz hkk hdd => ?_)
      obtain ⟨⟨r0, rfl⟩, rfl⟩ := hp
      clear hzz hkk hdd
      generalize H1 = H at hW ⊢
      generalize L1 = locs at hW ⊢
      refine W.eq (g2 := F0 m 993 ls [.int r0]) rfl ?_
      refine lv_istore (lv' := [(6, .int r0), (5, .int (nI 1)), (0, .ref b), (1, .ref hb0), (2, .ref hq), (3, .ref out), (4, .int (nI (4 * t)))]) hx hb dL_law_993 hl (by decide) rfl (fun ls hl => ?_)
      refine lv_aload_n hx hb dL_law_995 rfl (lv_at hl 4 rfl) ?_
      refine c_virt (As := []) (rest := []) (wc := mw Z hq ad 1 n wg K F S T D V) (wr := (el Z out 1 r :: (cw Z hc x ++ bl Z hb0 hk hc hm wg mo n o)) ++ (eo hk 1 [.ref hc] :: vs)) (nl := 0) hx hb hml hown hts hK hG rfl hA hl (k_thrown l Z hq ad 1 n wg K F S T D V) hW trivial (hW.at 0 rfl) rfl rfl tb_808 tb_809 tb_810 tb_7 tb_811 (nA := 0) (by decide +kernel) rfl ⟨by omega, by omega⟩ ⟨by omega, by omega⟩ rfl (Nat.le_of_ble_eq_true rfl) dL_law_996 (fun v w1 H1 L1 hp hW hzz hkk hdd => ?_)
      obtain ⟨rfl, rfl⟩ := hp
      clear hzz hkk hdd
      generalize H1 = H at hW ⊢
      generalize L1 = locs at hW ⊢
      refine W.eq (g2 := F0 m 999 ls [.int (nI 1)]) rfl ?_
      refine lv_iload hx hb dL_law_999 (lv_at hl 1 rfl) ?_
      refine n_eq_t (tgt := 1006) hx hb rfl dL_law_1001 (by decide) ?_
      refine lv_iload hx hb dL_law_1006 (lv_at hl 1 rfl) ?_
      refine n_zne_t (tgt := 1023) hx hb (by decide) (by omega) dL_law_1008 (by decide) ?_
      refine lv_goto (tgt := 1052) hx hb dL_law_1023 (by decide) ?_
      have hW : Wd Z A s.heap ((el Z out 1 r :: (cw Z hc x ++ bl Z hb0 hk hc hm wg mo n o)) ++ (mw Z hq ad 1 n wg K F S T D V ++ (eo hk 1 [.ref hc] :: vs))) _ _ := Wd.rot (w1 := mw Z hq ad 1 n wg K F S T D V) (wc := el Z out 1 r :: (cw Z hc x ++ bl Z hb0 hk hc hm wg mo n o)) hW
      exact kk _ _ _ _ ls ⟨x, σ, mo, n, wg, o, vd, vb, stb, rw, r, 1, K, F, S, T, D, V, vs, ⟨hvs, fun _ => hJ, by omega, by omega, by omega, by omega, by omega⟩, hW⟩ (lv_sub hl [2, 3, 4, 5, 6] rfl)
    · exact absurd hp.1 (by decide)
set_option maxHeartbeats 4000000 in
set_option maxRecDepth 100000 in
theorem c_weight {p : Program} (l : Launch) (hst : l.stackTraces = false) {e : Env} {R : Room} {s : State} {m : MethodId} {below : List Frame} {meth : Method} {c : Code} {b L : Nat} {xs : Nat → Int32} {Z : Zt} {A : Nat → Prop} (C : LC p R s m meth c b L xs Z A) (hL : L ≤ 2048) {Q : State → Prop} {t hb0 hk hc hm out hq : Nat} {ad : MA} (ht : 4 * t + 4 ≤ L)
    (kk : ∀ (H : Heap) (locs : List Loc) (cells slots : Nat) (ls : Array Slot), LE Z A s.heap H locs (t + 1) cells slots hb0 hk hc hm out hq ad → lv_has ls 8 [(0, .ref b), (1, .ref hb0), (2, .ref hq), (3, .ref out), (4, .int (nI (4 * t)))] → W p l e R s m #[Value.ref b] below meth c H locs cells slots Q (F0 m 1052 ls []))
    {H : Heap} {locs : List Loc} {cells slots : Nat} {ls : Array Slot} (hE : LE Z A s.heap H locs t cells slots hb0 hk hc hm out hq ad) (hl : lv_has ls 8 [(0, .ref b), (1, .ref hb0), (2, .ref hq), (3, .ref out), (4, .int (nI (4 * t)))]) : W p l e R s m #[Value.ref b] below meth c H locs cells slots Q (F0 m 1026 ls []) := by
  obtain ⟨hx, hb, hml, hown, hts, hX, hbl, hlk, hnc, hK, hG, hA, hbA, hRf, hRc, hRs, hRl⟩ := C
  obtain ⟨x, σ, mo, n, wg, o, vd, vb, stb, rw, r, cd, K, F, S, T, D, V, vs, ⟨hvs, hJ, hnt, hwg, hu, hcl, hsl⟩, hW⟩ := hE
  have hJ := hJ (by omega)
  have hbk := hJ.1
  have hxn := hbk.2.2.2.1
  have hwd := hbk.2.2.2.2.2
  have hD : ∀ i, i < n → D i ≤ 64 := fun i hi => (hwd i hi).2.1
  refine lv_aload_n hx hb dL_law_1026 rfl (lv_at hl 1 rfl) ?_
  have hW : Wd Z A s.heap ((cw Z hc x ++ bl Z hb0 hk hc hm wg mo n o) ++ ([el Z out 1 r] ++ (mw Z hq ad cd n wg K F S T D V ++ (eo hk 1 [.ref hc] :: vs)))) _ _ := Wd.rot (w1 := [el Z out 1 r]) (wc := cw Z hc x ++ bl Z hb0 hk hc hm wg mo n o) hW
  refine c_virt (As := []) (rest := []) (wc := cw Z hc x ++ bl Z hb0 hk hc hm wg mo n o) (wr := [el Z out 1 r] ++ (mw Z hq ad cd n wg K F S T D V ++ (eo hk 1 [.ref hc] :: vs))) (nl := 0) hx hb hml hown hts hK hG rfl hA hl (k_weight l Z hb0 hk hc hm x σ mo n wg o vd vb stb D rw) hW trivial (hW.at 5 rfl) rfl rfl tb_110 tb_111 tb_112 tb_1 tb_113 (nA := 0) (by decide +kernel) rfl ⟨by omega, by omega⟩ ⟨by omega, by omega⟩ rfl (Nat.le_of_ble_eq_true rfl) dL_law_1027 (fun v w1 H1 L1 hp hW hzz hkk hdd => ?_)
  obtain ⟨rfl, rfl⟩ := hp
  clear hzz hkk hdd
  generalize H1 = H at hW ⊢
  generalize L1 = locs at hW ⊢
  refine W.eq (g2 := F0 m 1030 ls [.int (nI wg)]) rfl ?_
  have hW : Wd Z A s.heap ((el Z out 1 r :: (cw Z hc x ++ bl Z hb0 hk hc hm wg mo n o)) ++ (mw Z hq ad cd n wg K F S T D V ++ (eo hk 1 [.ref hc] :: vs))) _ _ := Wd.rot (w1 := cw Z hc x ++ bl Z hb0 hk hc hm wg mo n o) (wc := [el Z out 1 r]) hW
  have hW : Wd Z A s.heap (mw Z hq ad cd n wg K F S T D V ++ ((el Z out 1 r :: (cw Z hc x ++ bl Z hb0 hk hc hm wg mo n o)) ++ (eo hk 1 [.ref hc] :: vs))) _ _ := Wd.rot hW
  refine lv_aload_n hx hb dL_law_1030 rfl (lv_at hl 2 rfl) ?_
  refine c_virt (As := []) (rest := [.int (nI wg)]) (wc := mw Z hq ad cd n wg K F S T D V) (wr := (el Z out 1 r :: (cw Z hc x ++ bl Z hb0 hk hc hm wg mo n o)) ++ (eo hk 1 [.ref hc] :: vs)) (nl := 0) hx hb hml hown hts hK hG rfl hA hl (k_mweight l Z hq ad cd n wg K F S T D V) hW trivial (hW.at 0 rfl) rfl rfl tb_910 tb_911 tb_912 tb_7 tb_913 (nA := 0) (by decide +kernel) rfl ⟨by omega, by omega⟩ ⟨by omega, by omega⟩ rfl (Nat.le_of_ble_eq_true rfl) dL_law_1031 (fun v w1 H1 L1 hp hW hzz hkk hdd => ?_)
  obtain ⟨rfl, rfl⟩ := hp
  clear hzz hkk hdd
  generalize H1 = H at hW ⊢
  generalize L1 = locs at hW ⊢
  refine W.eq (g2 := F0 m 1034 ls [.int (nI wg), .int (nI wg)]) rfl ?_
  refine n_eq_t (tgt := 1052) hx hb rfl dL_law_1034 (by decide) ?_
  have hW : Wd Z A s.heap ((el Z out 1 r :: (cw Z hc x ++ bl Z hb0 hk hc hm wg mo n o)) ++ (mw Z hq ad 0 n wg K F S T D V ++ (eo hk 1 [.ref hc] :: vs))) _ _ := Wd.rot (w1 := mw Z hq ad 0 n wg K F S T D V) (wc := el Z out 1 r :: (cw Z hc x ++ bl Z hb0 hk hc hm wg mo n o)) hW
  exact kk _ _ _ _ ls ⟨x, σ, mo, n, wg, o, vd, vb, stb, rw, r, 0, K, F, S, T, D, V, vs, ⟨hvs, fun _ => hJ, by omega, by omega, by omega, by omega, by omega⟩, hW⟩ (lv_sub hl [0, 1, 2, 3, 4] rfl)
set_option maxHeartbeats 4000000 in
set_option maxRecDepth 100000 in
theorem c_vectors {p : Program} (l : Launch) (hst : l.stackTraces = false) {e : Env} {R : Room} {s : State} {m : MethodId} {below : List Frame} {meth : Method} {c : Code} {b L : Nat} {xs : Nat → Int32} {Z : Zt} {A : Nat → Prop} (C : LC p R s m meth c b L xs Z A) (hL : L ≤ 2048) {Q : State → Prop} {t hb0 hk hc hm out hq : Nat} {ad : MA} (ht : 4 * t + 4 ≤ L)
    (kk : ∀ (H : Heap) (locs : List Loc) (cells slots : Nat) (ls : Array Slot), LE Z A s.heap H locs (t + 1) cells slots hb0 hk hc hm out hq ad → lv_has ls 8 [(0, .ref b), (1, .ref hb0), (2, .ref hq), (3, .ref out), (4, .int (nI (4 * t)))] → W p l e R s m #[Value.ref b] below meth c H locs cells slots Q (F0 m 1052 ls []))
    {H : Heap} {locs : List Loc} {cells slots : Nat} {ls : Array Slot} (hE : LE Z A s.heap H locs t cells slots hb0 hk hc hm out hq ad) (hl : lv_has ls 8 [(0, .ref b), (1, .ref hb0), (2, .ref hq), (3, .ref out), (4, .int (nI (4 * t)))]) : W p l e R s m #[Value.ref b] below meth c H locs cells slots Q (F0 m 1039 ls []) := by
  obtain ⟨hx, hb, hml, hown, hts, hX, hbl, hlk, hnc, hK, hG, hA, hbA, hRf, hRc, hRs, hRl⟩ := C
  obtain ⟨x, σ, mo, n, wg, o, vd, vb, stb, rw, r, cd, K, F, S, T, D, V, vs, ⟨hvs, hJ, hnt, hwg, hu, hcl, hsl⟩, hW⟩ := hE
  have hJ := hJ (by omega)
  have hbk := hJ.1
  have hxn := hbk.2.2.2.1
  have hwd := hbk.2.2.2.2.2
  have hD : ∀ i, i < n → D i ≤ 64 := fun i hi => (hwd i hi).2.1
  refine lv_aload_n hx hb dL_law_1039 rfl (lv_at hl 1 rfl) ?_
  have hW : Wd Z A s.heap ((cw Z hc x ++ bl Z hb0 hk hc hm wg mo n o) ++ ([el Z out 1 r] ++ (mw Z hq ad cd n wg K F S T D V ++ (eo hk 1 [.ref hc] :: vs)))) _ _ := Wd.rot (w1 := [el Z out 1 r]) (wc := cw Z hc x ++ bl Z hb0 hk hc hm wg mo n o) hW
  refine c_virt (As := []) (rest := []) (wc := cw Z hc x ++ bl Z hb0 hk hc hm wg mo n o) (wr := [el Z out 1 r] ++ (mw Z hq ad cd n wg K F S T D V ++ (eo hk 1 [.ref hc] :: vs))) (nl := 0) hx hb hml hown hts hK hG rfl hA hl (k_vectors l Z hb0 hk hc hm x σ mo n wg o vd vb stb D rw) hW trivial (hW.at 5 rfl) rfl rfl tb_114 tb_115 tb_116 tb_1 tb_117 (nA := 0) (by decide +kernel) rfl ⟨by omega, by omega⟩ ⟨by omega, by omega⟩ rfl (Nat.le_of_ble_eq_true rfl) dL_law_1040 (fun v w1 H1 L1 hp hW hzz hkk hdd => ?_)
  obtain ⟨rfl, rfl⟩ := hp
  clear hzz hkk hdd
  generalize H1 = H at hW ⊢
  generalize L1 = locs at hW ⊢
  refine W.eq (g2 := F0 m 1043 ls [.int (nI n)]) rfl ?_
  have hW : Wd Z A s.heap ((el Z out 1 r :: (cw Z hc x ++ bl Z hb0 hk hc hm wg mo n o)) ++ (mw Z hq ad cd n wg K F S T D V ++ (eo hk 1 [.ref hc] :: vs))) _ _ := Wd.rot (w1 := cw Z hc x ++ bl Z hb0 hk hc hm wg mo n o) (wc := [el Z out 1 r]) hW
  have hW : Wd Z A s.heap (mw Z hq ad cd n wg K F S T D V ++ ((el Z out 1 r :: (cw Z hc x ++ bl Z hb0 hk hc hm wg mo n o)) ++ (eo hk 1 [.ref hc] :: vs))) _ _ := Wd.rot hW
  refine lv_aload_n hx hb dL_law_1043 rfl (lv_at hl 2 rfl) ?_
  refine c_virt (As := []) (rest := [.int (nI n)]) (wc := mw Z hq ad cd n wg K F S T D V) (wr := (el Z out 1 r :: (cw Z hc x ++ bl Z hb0 hk hc hm wg mo n o)) ++ (eo hk 1 [.ref hc] :: vs)) (nl := 0) hx hb hml hown hts hK hG rfl hA hl (k_mvectors l Z hq ad cd n wg K F S T D V) hW trivial (hW.at 0 rfl) rfl rfl tb_914 tb_915 tb_916 tb_7 tb_917 (nA := 0) (by decide +kernel) rfl ⟨by omega, by omega⟩ ⟨by omega, by omega⟩ rfl (Nat.le_of_ble_eq_true rfl) dL_law_1044 (fun v w1 H1 L1 hp hW hzz hkk hdd => ?_)
  obtain ⟨rfl, rfl⟩ := hp
  clear hzz hkk hdd
  generalize H1 = H at hW ⊢
  generalize L1 = locs at hW ⊢
  refine W.eq (g2 := F0 m 1047 ls [.int (nI n), .int (nI n)]) rfl ?_
  refine n_eq_t (tgt := 1052) hx hb rfl dL_law_1047 (by decide) ?_
  have hW : Wd Z A s.heap ((el Z out 1 r :: (cw Z hc x ++ bl Z hb0 hk hc hm wg mo n o)) ++ (mw Z hq ad 0 n wg K F S T D V ++ (eo hk 1 [.ref hc] :: vs))) _ _ := Wd.rot (w1 := mw Z hq ad 0 n wg K F S T D V) (wc := el Z out 1 r :: (cw Z hc x ++ bl Z hb0 hk hc hm wg mo n o)) hW
  exact kk _ _ _ _ ls ⟨x, σ, mo, n, wg, o, vd, vb, stb, rw, r, 0, K, F, S, T, D, V, vs, ⟨hvs, fun _ => hJ, by omega, by omega, by omega, by omega, by omega⟩, hW⟩ (lv_sub hl [0, 1, 2, 3, 4] rfl)
