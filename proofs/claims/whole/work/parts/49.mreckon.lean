set_option maxHeartbeats 4000000 in
set_option maxRecDepth 100000 in
theorem k_reckon (l : Launch) (Z : Zt) (hm : Nat) (ad : MA) (cd n wg : Nat) (K F S T D V : Nat → Nat) (v : Nat) (hv : v < n) (hn : n ≤ 4000) (hwf : ∀ i, i < n → wfv K F S T D i) (hV : ∀ i, i < n → V i < 2 ^ D i) : MC l yX4_reckon cX4_reckon 6 (some .long) 4 220 (0) (0) Z (mw Z hm ad cd n wg K F S T D V) (fun _ => True) [.ref hm, .int (nI v)] (fun o w1 => ∃ r : Int64, o = some (.long r) ∧ w1 = mw Z hm ad cd n wg K F S T D V ∧ uN r % 2 ^ D v = NV K F S T D V v) := by
  refine mc_of (by decide) (Nat.le_of_ble_eq_true rfl) (fun p e s m below meth c ls A hx hb hr hts hown hlk hml hin hK hG hW hA hAe hro hl R hRf hRc hRs hRl => ?_)
  have hl : lv_has ls 6 [(0, .ref hm), (1, .int (nI v))] := hl
  have hW : Wd Z A s.heap ([eo hm 4 [.int (nI cd), .int (nI n), .int (nI wg), .ref ad.1, .ref ad.2.1, .ref ad.2.2.1, .ref ad.2.2.2.1, .ref ad.2.2.2.2.1, .ref ad.2.2.2.2.2], ey Z ad.1 4000 K, ea Z ad.2.1 4000 F, ea Z ad.2.2.1 4000 S, ea Z ad.2.2.2.1 4000 T, ea Z ad.2.2.2.2.1 4000 D, el Z ad.2.2.2.2.2 4000 V]) _ _ := hW
  obtain ⟨hd1, hd2, hcs⟩ := hwf v hv
  have hF : F v < n := by omega
  have hF1 := hV (F v) hF
  have hFd := (hwf (F v) hF).1
  have hFd2 := (hwf (F v) hF).2.1
  refine lv_aload_n hx hb dX4_reckon_0 rfl (lv_at hl 0 rfl) ?_
  refine r_get hx hb hts hown hK (hW.at 0 rfl) rfl in_X4 3 (by decide) tb_782 (fun _ h => h) rfl dX4_reckon_1 ?_
  refine lv_iload_n hx hb dX4_reckon_4 rfl (lv_at hl 1 rfl) ?_
  refine r_bald (i := v) hx hb hK (hW.at 1 rfl) (by omega) (by omega) dX4_reckon_5 ?_
  refine lv_istore_n (lv' := [(2, .int (nI (K v))), (0, .ref hm), (1, .int (nI v))]) hx hb dX4_reckon_6 rfl hl (by decide) rfl (fun ls hl => ?_)
  refine lv_aload_n hx hb dX4_reckon_7 rfl (lv_at hl 1 rfl) ?_
  refine r_get hx hb hts hown hK (hW.at 0 rfl) rfl in_X4 8 (by decide) tb_787 (fun _ h => h) rfl dX4_reckon_8 ?_
  refine lv_aload_n hx hb dX4_reckon_11 rfl (lv_at hl 1 rfl) ?_
  refine r_get hx hb hts hown hK (hW.at 0 rfl) rfl in_X4 4 (by decide) tb_783 (fun _ h => h) rfl dX4_reckon_12 ?_
  refine lv_iload_n hx hb dX4_reckon_15 rfl (lv_at hl 2 rfl) ?_
  refine r_ald (i := v) hx hb hK (hW.at 2 rfl) (by omega) (by omega) dX4_reckon_16 ?_
  refine r_lald (i := (F v)) hx hb hK (hW.at 6 rfl) (by omega) (by omega) dX4_reckon_17 ?_
  refine lv_lstore_n (lv' := [(3, .long (lN (V (F v)))), (2, .int (nI (K v))), (0, .ref hm), (1, .int (nI v))]) hx hb dX4_reckon_18 rfl hl (by decide) rfl (fun ls hl => ?_)
  refine lv_aload_n hx hb dX4_reckon_19 rfl (lv_at hl 2 rfl) ?_
  refine r_get hx hb hts hown hK (hW.at 0 rfl) rfl in_X4 7 (by decide) tb_786 (fun _ h => h) rfl dX4_reckon_20 ?_
  refine lv_aload_n hx hb dX4_reckon_23 rfl (lv_at hl 2 rfl) ?_
  refine r_get hx hb hts hown hK (hW.at 0 rfl) rfl in_X4 4 (by decide) tb_783 (fun _ h => h) rfl dX4_reckon_24 ?_
  refine lv_iload_n hx hb dX4_reckon_27 rfl (lv_at hl 3 rfl) ?_
  refine r_ald (i := v) hx hb hK (hW.at 2 rfl) (by omega) (by omega) dX4_reckon_28 ?_
  refine r_ald (i := (F v)) hx hb hK (hW.at 5 rfl) (by omega) (by omega) dX4_reckon_29 ?_
  refine lv_istore (lv' := [(5, .int (nI (D (F v)))), (3, .long (lN (V (F v)))), (2, .int (nI (K v))), (0, .ref hm), (1, .int (nI v))]) hx hb dX4_reckon_30 hl (by decide) rfl (fun ls hl => ?_)
  refine lv_iload_n hx hb dX4_reckon_32 rfl (lv_at hl 2 rfl) ?_
  refine lv_iconst (v := nI 2) hx hb dX4_reckon_33 (by decide) ?_
  rcases hcs with ⟨c1, c2⟩ | ⟨c1, c2, c3, c4⟩ | ⟨c1, c2, c3, c4, c5, c6⟩ | ⟨c1, c2, c3, c4, c5, c6⟩ | ⟨c1, c3, c4, c5, c6, c7, c8⟩ | ⟨c1, c3, c4, c5⟩ | ⟨c1, c3, c5⟩ | ⟨c1, c2, c3, c4⟩
  · refine n_ge_f (tgt := 44) hx hb (by omega) (by omega) dX4_reckon_34 (by decide) ?_
    refine lv_aload_n hx hb dX4_reckon_37 rfl (lv_at hl 3 rfl) ?_
    refine r_get hx hb hts hown hK (hW.at 0 rfl) rfl in_X4 8 (by decide) tb_787 (fun _ h => h) rfl dX4_reckon_38 ?_
    refine lv_iload_n hx hb dX4_reckon_41 rfl (lv_at hl 4 rfl) ?_
    refine r_lald (i := v) hx hb hK (hW.at 6 rfl) (by omega) (by omega) dX4_reckon_42 ?_
    refine e_long hx hb hr hlk hAe hW (by omega) (by omega) dX4_reckon_43 ⟨_, rfl, rfl, ?_⟩
    rw [pos_uN hd2 (hV v hv)]
    unfold NV NR
    rw [if_pos (by omega)]
  · refine n_ge_t (tgt := 44) hx hb (by omega) (by omega) dX4_reckon_34 (by decide) ?_
    refine lv_iload_n hx hb dX4_reckon_44 rfl (lv_at hl 2 rfl) ?_
    refine lv_bipush (v := nI 20) hx hb dX4_reckon_45 (by decide) ?_
    refine n_ge_f (tgt := 67) hx hb (by omega) (by omega) dX4_reckon_47 (by decide) ?_
    rcases (show K v = 10 ∨ K v = 11 by omega) with e1 | e1
    · refine lv_iload_n hx hb dX4_reckon_50 rfl (lv_at hl 2 rfl) ?_
      refine lv_bipush (v := nI 10) hx hb dX4_reckon_51 (by decide) ?_
      refine n_ne_f (tgt := 64) hx hb (by omega) dX4_reckon_53 (by decide) ?_
      refine lv_lload_n hx hb dX4_reckon_56 rfl (lv_at hl 1 rfl) ?_
      refine lv_ldc2 (v := (-1)) hx hb hown (hts _ tb_828) dX4_reckon_57 ?_
      refine lv_lxor hx hb dX4_reckon_60 ?_
      refine lv_goto (tgt := 66) hx hb dX4_reckon_61 (by decide) ?_
      refine e_long hx hb hr hlk hAe hW (by omega) (by omega) dX4_reckon_66 ⟨_, rfl, rfl, ?_⟩
      rw [c4, not_val hFd2 hF1]
      unfold NV NR
      rw [e1]; rfl
    · refine lv_iload_n hx hb dX4_reckon_50 rfl (lv_at hl 2 rfl) ?_
      refine lv_bipush (v := nI 10) hx hb dX4_reckon_51 (by decide) ?_
      refine n_ne_t (tgt := 64) hx hb (by omega) (by omega) (by omega) dX4_reckon_53 (by decide) ?_
      refine lv_lload_n hx hb dX4_reckon_64 rfl (lv_at hl 1 rfl) ?_
      refine lv_lneg hx hb dX4_reckon_65 ?_
      refine e_long hx hb hr hlk hAe hW (by omega) (by omega) dX4_reckon_66 ⟨_, rfl, rfl, ?_⟩
      rw [c4, neg_uN hFd2 hF1]
      unfold NV NR
      rw [e1]; rfl
  · refine n_ge_t (tgt := 44) hx hb (by omega) (by omega) dX4_reckon_34 (by decide) ?_
    refine lv_iload_n hx hb dX4_reckon_44 rfl (lv_at hl 2 rfl) ?_
    refine lv_bipush (v := nI 20) hx hb dX4_reckon_45 (by decide) ?_
    refine n_ge_t (tgt := 67) hx hb (by omega) (by omega) dX4_reckon_47 (by decide) ?_
    refine lv_iload_n hx hb dX4_reckon_67 rfl (lv_at hl 2 rfl) ?_
    refine lv_bipush (v := nI 40) hx hb dX4_reckon_68 (by decide) ?_
    refine n_ge_f (tgt := 95) hx hb (by omega) (by omega) dX4_reckon_70 (by decide) ?_
    refine lv_iload_n hx hb dX4_reckon_73 rfl (lv_at hl 2 rfl) ?_
    refine lv_bipush (v := nI 20) hx hb dX4_reckon_74 (by decide) ?_
    refine n_isub hx hb (by omega) dX4_reckon_76 ?_
    have hS1 : V (S v) < 2 ^ D (F v) := by rw [← c5]; exact hV (S v) (by omega)
    refine lv_lload_n hx hb dX4_reckon_77 rfl (lv_at hl 1 rfl) ?_
    refine lv_aload_n hx hb dX4_reckon_78 rfl (lv_at hl 3 rfl) ?_
    refine r_get hx hb hts hown hK (hW.at 0 rfl) rfl in_X4 8 (by decide) tb_787 (fun _ h => h) rfl dX4_reckon_79 ?_
    refine lv_aload_n hx hb dX4_reckon_82 rfl (lv_at hl 3 rfl) ?_
    refine r_get hx hb hts hown hK (hW.at 0 rfl) rfl in_X4 5 (by decide) tb_784 (fun _ h => h) rfl dX4_reckon_83 ?_
    refine lv_iload_n hx hb dX4_reckon_86 rfl (lv_at hl 4 rfl) ?_
    refine r_ald (i := v) hx hb hK (hW.at 3 rfl) (by omega) (by omega) dX4_reckon_87 ?_
    refine r_lald (i := (S v)) hx hb hK (hW.at 6 rfl) (by omega) (by omega) dX4_reckon_88 ?_
    refine lv_iload hx hb dX4_reckon_89 (lv_at hl 0 rfl) ?_
    refine c_stat (As := [.int (nI ((K v) - 20)), .long (lN (V (F v))), .long (lN (V (S v))), .int (nI (D (F v)))]) (rest := []) (wc := []) (wr := [eo hm 4 [.int (nI cd), .int (nI n), .int (nI wg), .ref ad.1, .ref ad.2.1, .ref ad.2.2.1, .ref ad.2.2.2.1, .ref ad.2.2.2.2.1, .ref ad.2.2.2.2.2], ey Z ad.1 4000 K, ea Z ad.2.1 4000 F, ea Z ad.2.2.1 4000 S, ea Z ad.2.2.2.1 4000 T, ea Z ad.2.2.2.2.1 4000 D, el Z ad.2.2.2.2.2 4000 V]) hx hb hml hown hts hK hG rfl hA hl (k_both l Z (K v - 20) (V (F v)) (V (S v)) (D (F v)) (by omega) hFd hFd2 hF1 hS1) hW trivial tb_884 tb_885 tb_7 tb_886 (nA := 4) (by decide +kernel) rfl ⟨by omega, by omega⟩ ⟨by omega, by omega⟩ rfl (Nat.le_of_ble_eq_true rfl) dX4_reckon_91 (fun v w1 H1 L1 hp hW hzz hkk hdd => ?_)
    obtain ⟨r, rfl, rfl, hr2⟩ := hp
    clear hzz hkk hdd
    generalize H1 = H at hW  ⊢
    generalize L1 = locs at hW ⊢
    have hW : Wd Z A s.heap ([eo hm 4 [.int (nI cd), .int (nI n), .int (nI wg), .ref ad.1, .ref ad.2.1, .ref ad.2.2.1, .ref ad.2.2.2.1, .ref ad.2.2.2.2.1, .ref ad.2.2.2.2.2], ey Z ad.1 4000 K, ea Z ad.2.1 4000 F, ea Z ad.2.2.1 4000 S, ea Z ad.2.2.2.1 4000 T, ea Z ad.2.2.2.2.1 4000 D, el Z ad.2.2.2.2.2 4000 V]) _ _ := hW
    refine W.eq (g2 := F0 m 94 ls [.long r]) rfl ?_
    refine e_long hx hb hr hlk hAe hW (by omega) (by omega) dX4_reckon_94 ⟨_, rfl, rfl, ?_⟩
    rw [c6, hr2]
    unfold NV NR
    rw [if_neg (by omega), if_neg (by omega), if_pos (by omega)]
  · refine n_ge_t (tgt := 44) hx hb (by omega) (by omega) dX4_reckon_34 (by decide) ?_
    refine lv_iload_n hx hb dX4_reckon_44 rfl (lv_at hl 2 rfl) ?_
    refine lv_bipush (v := nI 20) hx hb dX4_reckon_45 (by decide) ?_
    refine n_ge_t (tgt := 67) hx hb (by omega) (by omega) dX4_reckon_47 (by decide) ?_
    refine lv_iload_n hx hb dX4_reckon_67 rfl (lv_at hl 2 rfl) ?_
    refine lv_bipush (v := nI 40) hx hb dX4_reckon_68 (by decide) ?_
    refine n_ge_t (tgt := 95) hx hb (by omega) (by omega) dX4_reckon_70 (by decide) ?_
    refine lv_iload_n hx hb dX4_reckon_95 rfl (lv_at hl 2 rfl) ?_
    refine lv_bipush (v := nI 50) hx hb dX4_reckon_96 (by decide) ?_
    refine n_ge_f (tgt := 131) hx hb (by omega) (by omega) dX4_reckon_98 (by decide) ?_
    refine lv_iload_n hx hb dX4_reckon_101 rfl (lv_at hl 2 rfl) ?_
    refine lv_bipush (v := nI 40) hx hb dX4_reckon_102 (by decide) ?_
    refine n_isub hx hb (by omega) dX4_reckon_104 ?_
    have hS1 : V (S v) < 2 ^ D (F v) := by rw [← c5]; exact hV (S v) (by omega)
    refine lv_lload_n hx hb dX4_reckon_105 rfl (lv_at hl 1 rfl) ?_
    refine lv_aload_n hx hb dX4_reckon_106 rfl (lv_at hl 3 rfl) ?_
    refine r_get hx hb hts hown hK (hW.at 0 rfl) rfl in_X4 8 (by decide) tb_787 (fun _ h => h) rfl dX4_reckon_107 ?_
    refine lv_aload_n hx hb dX4_reckon_110 rfl (lv_at hl 3 rfl) ?_
    refine r_get hx hb hts hown hK (hW.at 0 rfl) rfl in_X4 5 (by decide) tb_784 (fun _ h => h) rfl dX4_reckon_111 ?_
    refine lv_iload_n hx hb dX4_reckon_114 rfl (lv_at hl 4 rfl) ?_
    refine r_ald (i := v) hx hb hK (hW.at 3 rfl) (by omega) (by omega) dX4_reckon_115 ?_
    refine r_lald (i := (S v)) hx hb hK (hW.at 6 rfl) (by omega) (by omega) dX4_reckon_116 ?_
    refine lv_iload hx hb dX4_reckon_117 (lv_at hl 0 rfl) ?_
    refine c_stat (As := [.int (nI ((K v) - 40)), .long (lN (V (F v))), .long (lN (V (S v))), .int (nI (D (F v)))]) (rest := []) (wc := []) (wr := [eo hm 4 [.int (nI cd), .int (nI n), .int (nI wg), .ref ad.1, .ref ad.2.1, .ref ad.2.2.1, .ref ad.2.2.2.1, .ref ad.2.2.2.2.1, .ref ad.2.2.2.2.2], ey Z ad.1 4000 K, ea Z ad.2.1 4000 F, ea Z ad.2.2.1 4000 S, ea Z ad.2.2.2.1 4000 T, ea Z ad.2.2.2.2.1 4000 D, el Z ad.2.2.2.2.2 4000 V]) hx hb hml hown hts hK hG rfl hA hl (k_holds l Z (K v - 40) (V (F v)) (V (S v)) (D (F v)) (by omega) hFd hFd2 hF1 hS1) hW trivial tb_903 tb_904 tb_7 tb_905 (nA := 4) (by decide +kernel) rfl ⟨by omega, by omega⟩ ⟨by omega, by omega⟩ rfl (Nat.le_of_ble_eq_true rfl) dX4_reckon_119 (fun v w1 H1 L1 hp hW hzz hkk hdd => ?_)
    obtain ⟨rfl, rfl⟩ := hp
    clear hzz hkk hdd
    generalize H1 = H at hW  ⊢
    generalize L1 = locs at hW ⊢
    have hW : Wd Z A s.heap ([eo hm 4 [.int (nI cd), .int (nI n), .int (nI wg), .ref ad.1, .ref ad.2.1, .ref ad.2.2.1, .ref ad.2.2.2.1, .ref ad.2.2.2.2.1, .ref ad.2.2.2.2.2], ey Z ad.1 4000 K, ea Z ad.2.1 4000 F, ea Z ad.2.2.1 4000 S, ea Z ad.2.2.2.1 4000 T, ea Z ad.2.2.2.2.1 4000 D, el Z ad.2.2.2.2.2 4000 V]) _ _ := hW
    refine W.eq (g2 := F0 m 122 ls [.int (nI (NC (K v - 40) (V (F v)) (V (S v)) (D (F v))).toNat)]) rfl ?_
    have hNV : NV K F S T D V v = (NC (K v - 40) (V (F v)) (V (S v)) (D (F v))).toNat := by
      unfold NV NR
      rw [if_neg (by omega), if_neg (by omega), if_neg (by omega), if_pos (by omega)]
    cases hc : NC (K v - 40) (V (F v)) (V (S v)) (D (F v))
    · rw [show (false : Bool).toNat = 0 from rfl]
      refine n_zeq_t (tgt := 129) hx hb rfl dX4_reckon_122 (by decide) ?_
      refine lv_lconst (v := 0) hx hb dX4_reckon_129 (by decide) ?_
      refine e_long hx hb hr hlk hAe hW (by omega) (by omega) dX4_reckon_130 ⟨_, rfl, rfl, ?_⟩
      rw [hNV, hc, c6]; rfl
    · rw [show (true : Bool).toNat = 1 from rfl]
      refine n_zeq_f (tgt := 129) hx hb (by decide) (by omega) dX4_reckon_122 (by decide) ?_
      refine lv_lconst (v := 1) hx hb dX4_reckon_125 (by decide) ?_
      refine lv_goto (tgt := 130) hx hb dX4_reckon_126 (by decide) ?_
      refine e_long hx hb hr hlk hAe hW (by omega) (by omega) dX4_reckon_130 ⟨_, rfl, rfl, ?_⟩
      rw [hNV, hc, c6]; rfl
  · refine n_ge_t (tgt := 44) hx hb (by omega) (by omega) dX4_reckon_34 (by decide) ?_
    refine lv_iload_n hx hb dX4_reckon_44 rfl (lv_at hl 2 rfl) ?_
    refine lv_bipush (v := nI 20) hx hb dX4_reckon_45 (by decide) ?_
    refine n_ge_t (tgt := 67) hx hb (by omega) (by omega) dX4_reckon_47 (by decide) ?_
    refine lv_iload_n hx hb dX4_reckon_67 rfl (lv_at hl 2 rfl) ?_
    refine lv_bipush (v := nI 40) hx hb dX4_reckon_68 (by decide) ?_
    refine n_ge_t (tgt := 95) hx hb (by omega) (by omega) dX4_reckon_70 (by decide) ?_
    refine lv_iload_n hx hb dX4_reckon_95 rfl (lv_at hl 2 rfl) ?_
    refine lv_bipush (v := nI 50) hx hb dX4_reckon_96 (by decide) ?_
    refine n_ge_t (tgt := 131) hx hb (by omega) (by omega) dX4_reckon_98 (by decide) ?_
    rw [c1] at hl
    refine lv_iload_n hx hb dX4_reckon_131 rfl (lv_at hl 2 rfl) ?_
    refine lv_tableIn (off := 32) (tgt := 164) hx hb dX4_reckon_132 (by decide) (by decide) (by decide) (by decide) ?_
    refine lv_aload_n hx hb dX4_reckon_164 rfl (lv_at hl 3 rfl) ?_
    refine r_get hx hb hts hown hK (hW.at 0 rfl) rfl in_X4 8 (by decide) tb_787 (fun _ h => h) rfl dX4_reckon_165 ?_
    refine lv_aload_n hx hb dX4_reckon_168 rfl (lv_at hl 3 rfl) ?_
    refine r_get hx hb hts hown hK (hW.at 0 rfl) rfl in_X4 6 (by decide) tb_785 (fun _ h => h) rfl dX4_reckon_169 ?_
    refine lv_iload_n hx hb dX4_reckon_172 rfl (lv_at hl 4 rfl) ?_
    refine r_ald (i := v) hx hb hK (hW.at 4 rfl) (by omega) (by omega) dX4_reckon_173 ?_
    refine r_lald (i := (T v)) hx hb hK (hW.at 6 rfl) (by omega) (by omega) dX4_reckon_174 ?_
    refine lv_lconst (v := 1) hx hb dX4_reckon_175 (by decide) ?_
    refine W.lcmp hx hb dX4_reckon_176 ?_
    have hT1 : V (T v) < 2 ^ 1 := by rw [← c8]; exact hV (T v) (by omega)
    have hS1 : V (S v) < 2 ^ D (F v) := by rw [← c6]; exact hV (S v) (by omega)
    have hNV : NV K F S T D V v = if V (T v) = 1 then V (F v) else V (S v) := by
      unfold NV NR
      rw [c1]; rfl
    by_cases hq : V (T v) = 1
    · refine lv_if_ne (tgt := 184) hx hb dX4_reckon_177 (by decide) (fun q => absurd ((lg_cmp_eq _ _).mpr (by rw [hq]; rfl)) q) (fun _ => ?_)
      refine lv_lload_n hx hb dX4_reckon_180 rfl (lv_at hl 1 rfl) ?_
      refine lv_goto (tgt := 195) hx hb dX4_reckon_181 (by decide) ?_
      refine e_long hx hb hr hlk hAe hW (by omega) (by omega) dX4_reckon_195 ⟨_, rfl, rfl, ?_⟩
      rw [hNV, if_pos hq, c7, pos_uN hFd2 hF1]
    · refine lv_if_ne (tgt := 184) hx hb dX4_reckon_177 (by decide) (fun _ => ?_) (fun q => absurd ((lg_cmp_eq _ _).mp q) (fun q => hq (by have := congrArg uN q; rw [uN_le (w := 1) (by decide) hT1] at this; exact this)))
      refine lv_aload_n hx hb dX4_reckon_184 rfl (lv_at hl 3 rfl) ?_
      refine r_get hx hb hts hown hK (hW.at 0 rfl) rfl in_X4 8 (by decide) tb_787 (fun _ h => h) rfl dX4_reckon_185 ?_
      refine lv_aload_n hx hb dX4_reckon_188 rfl (lv_at hl 3 rfl) ?_
      refine r_get hx hb hts hown hK (hW.at 0 rfl) rfl in_X4 5 (by decide) tb_784 (fun _ h => h) rfl dX4_reckon_189 ?_
      refine lv_iload_n hx hb dX4_reckon_192 rfl (lv_at hl 4 rfl) ?_
      refine r_ald (i := v) hx hb hK (hW.at 3 rfl) (by omega) (by omega) dX4_reckon_193 ?_
      refine r_lald (i := (S v)) hx hb hK (hW.at 6 rfl) (by omega) (by omega) dX4_reckon_194 ?_
      refine e_long hx hb hr hlk hAe hW (by omega) (by omega) dX4_reckon_195 ⟨_, rfl, rfl, ?_⟩
      rw [hNV, if_neg hq, c7, pos_uN hFd2 hS1]
  · refine n_ge_t (tgt := 44) hx hb (by omega) (by omega) dX4_reckon_34 (by decide) ?_
    refine lv_iload_n hx hb dX4_reckon_44 rfl (lv_at hl 2 rfl) ?_
    refine lv_bipush (v := nI 20) hx hb dX4_reckon_45 (by decide) ?_
    refine n_ge_t (tgt := 67) hx hb (by omega) (by omega) dX4_reckon_47 (by decide) ?_
    refine lv_iload_n hx hb dX4_reckon_67 rfl (lv_at hl 2 rfl) ?_
    refine lv_bipush (v := nI 40) hx hb dX4_reckon_68 (by decide) ?_
    refine n_ge_t (tgt := 95) hx hb (by omega) (by omega) dX4_reckon_70 (by decide) ?_
    refine lv_iload_n hx hb dX4_reckon_95 rfl (lv_at hl 2 rfl) ?_
    refine lv_bipush (v := nI 50) hx hb dX4_reckon_96 (by decide) ?_
    refine n_ge_t (tgt := 131) hx hb (by omega) (by omega) dX4_reckon_98 (by decide) ?_
    rw [c1] at hl
    refine lv_iload_n hx hb dX4_reckon_131 rfl (lv_at hl 2 rfl) ?_
    refine lv_tableIn (off := 64) (tgt := 196) hx hb dX4_reckon_132 (by decide) (by decide) (by decide) (by decide) ?_
    refine lv_lload_n hx hb dX4_reckon_196 rfl (lv_at hl 1 rfl) ?_
    refine lv_aload_n hx hb dX4_reckon_197 rfl (lv_at hl 3 rfl) ?_
    refine r_get hx hb hts hown hK (hW.at 0 rfl) rfl in_X4 7 (by decide) tb_786 (fun _ h => h) rfl dX4_reckon_198 ?_
    refine lv_iload_n hx hb dX4_reckon_201 rfl (lv_at hl 4 rfl) ?_
    refine r_ald (i := v) hx hb hK (hW.at 5 rfl) (by omega) (by omega) dX4_reckon_202 ?_
    refine lv_iload hx hb dX4_reckon_203 (lv_at hl 0 rfl) ?_
    refine n_isub hx hb (by omega) dX4_reckon_205 ?_
    refine lv_lshl (v := ((lN (V (F v))) <<< ((nI ((D v) - (D (F v)))).toInt64 &&& 63))) hx hb dX4_reckon_206 rfl ?_
    refine lv_aload_n hx hb dX4_reckon_207 rfl (lv_at hl 3 rfl) ?_
    refine r_get hx hb hts hown hK (hW.at 0 rfl) rfl in_X4 8 (by decide) tb_787 (fun _ h => h) rfl dX4_reckon_208 ?_
    refine lv_aload_n hx hb dX4_reckon_211 rfl (lv_at hl 3 rfl) ?_
    refine r_get hx hb hts hown hK (hW.at 0 rfl) rfl in_X4 5 (by decide) tb_784 (fun _ h => h) rfl dX4_reckon_212 ?_
    refine lv_iload_n hx hb dX4_reckon_215 rfl (lv_at hl 4 rfl) ?_
    refine r_ald (i := v) hx hb hK (hW.at 3 rfl) (by omega) (by omega) dX4_reckon_216 ?_
    refine r_lald (i := (S v)) hx hb hK (hW.at 6 rfl) (by omega) (by omega) dX4_reckon_217 ?_
    refine lv_lor hx hb dX4_reckon_218 ?_
    have hS1 := hV (S v) (show S v < n by omega)
    have hz : D v - D (F v) = D (S v) := by omega
    refine e_long hx hb hr hlk hAe hW (by omega) (by omega) dX4_reckon_219 ⟨_, rfl, rfl, ?_⟩
    rw [hz]
    have h := cat_val hFd (show D (F v) + D (S v) ≤ 64 by omega) hF1 hS1
    rw [← c5] at h
    rw [h]
    unfold NV NR
    rw [c1, hz]; rfl
  · refine n_ge_t (tgt := 44) hx hb (by omega) (by omega) dX4_reckon_34 (by decide) ?_
    refine lv_iload_n hx hb dX4_reckon_44 rfl (lv_at hl 2 rfl) ?_
    refine lv_bipush (v := nI 20) hx hb dX4_reckon_45 (by decide) ?_
    refine n_ge_t (tgt := 67) hx hb (by omega) (by omega) dX4_reckon_47 (by decide) ?_
    refine lv_iload_n hx hb dX4_reckon_67 rfl (lv_at hl 2 rfl) ?_
    refine lv_bipush (v := nI 40) hx hb dX4_reckon_68 (by decide) ?_
    refine n_ge_t (tgt := 95) hx hb (by omega) (by omega) dX4_reckon_70 (by decide) ?_
    refine lv_iload_n hx hb dX4_reckon_95 rfl (lv_at hl 2 rfl) ?_
    refine lv_bipush (v := nI 50) hx hb dX4_reckon_96 (by decide) ?_
    refine n_ge_t (tgt := 131) hx hb (by omega) (by omega) dX4_reckon_98 (by decide) ?_
    rw [c1] at hl
    refine lv_iload_n hx hb dX4_reckon_131 rfl (lv_at hl 2 rfl) ?_
    refine lv_tableIn (off := 88) (tgt := 220) hx hb dX4_reckon_132 (by decide) (by decide) (by decide) (by decide) ?_
    refine lv_lload_n hx hb dX4_reckon_220 rfl (lv_at hl 1 rfl) ?_
    refine lv_aload_n hx hb dX4_reckon_221 rfl (lv_at hl 3 rfl) ?_
    refine r_get hx hb hts hown hK (hW.at 0 rfl) rfl in_X4 5 (by decide) tb_784 (fun _ h => h) rfl dX4_reckon_222 ?_
    refine lv_iload_n hx hb dX4_reckon_225 rfl (lv_at hl 4 rfl) ?_
    refine r_ald (i := v) hx hb hK (hW.at 3 rfl) (by omega) (by omega) dX4_reckon_226 ?_
    refine lv_lushr (v := ((lN (V (F v))).toUInt64 >>> ((nI (S v)).toInt64.toUInt64 &&& Int64.toUInt64 63)).toInt64) hx hb dX4_reckon_227 rfl ?_
    refine e_long hx hb hr hlk hAe hW (by omega) (by omega) dX4_reckon_228 ⟨_, rfl, rfl, ?_⟩
    rw [uN_ushr _ (by omega), uN_le hFd2 hF1]
    unfold NV NR
    rw [c1]; rfl
  · rcases (show K v = 53 ∨ K v = 54 by omega) with e1 | e1
    · refine n_ge_t (tgt := 44) hx hb (by omega) (by omega) dX4_reckon_34 (by decide) ?_
      refine lv_iload_n hx hb dX4_reckon_44 rfl (lv_at hl 2 rfl) ?_
      refine lv_bipush (v := nI 20) hx hb dX4_reckon_45 (by decide) ?_
      refine n_ge_t (tgt := 67) hx hb (by omega) (by omega) dX4_reckon_47 (by decide) ?_
      refine lv_iload_n hx hb dX4_reckon_67 rfl (lv_at hl 2 rfl) ?_
      refine lv_bipush (v := nI 40) hx hb dX4_reckon_68 (by decide) ?_
      refine n_ge_t (tgt := 95) hx hb (by omega) (by omega) dX4_reckon_70 (by decide) ?_
      refine lv_iload_n hx hb dX4_reckon_95 rfl (lv_at hl 2 rfl) ?_
      refine lv_bipush (v := nI 50) hx hb dX4_reckon_96 (by decide) ?_
      refine n_ge_t (tgt := 131) hx hb (by omega) (by omega) dX4_reckon_98 (by decide) ?_
      rw [e1] at hl
      refine lv_iload_n hx hb dX4_reckon_131 rfl (lv_at hl 2 rfl) ?_
      refine lv_tableIn (off := 97) (tgt := 229) hx hb dX4_reckon_132 (by decide) (by decide) (by decide) (by decide) ?_
      refine lv_lload_n hx hb dX4_reckon_229 rfl (lv_at hl 1 rfl) ?_
      refine e_long hx hb hr hlk hAe hW (by omega) (by omega) dX4_reckon_230 ⟨_, rfl, rfl, ?_⟩
      have hle : V (F v) < 2 ^ D v := Nat.lt_of_lt_of_le hF1 (Nat.pow_le_pow_right (by decide) c4)
      rw [pos_uN hd2 hle]
      unfold NV NR
      rw [e1]; rfl
    · refine n_ge_t (tgt := 44) hx hb (by omega) (by omega) dX4_reckon_34 (by decide) ?_
      refine lv_iload_n hx hb dX4_reckon_44 rfl (lv_at hl 2 rfl) ?_
      refine lv_bipush (v := nI 20) hx hb dX4_reckon_45 (by decide) ?_
      refine n_ge_t (tgt := 67) hx hb (by omega) (by omega) dX4_reckon_47 (by decide) ?_
      refine lv_iload_n hx hb dX4_reckon_67 rfl (lv_at hl 2 rfl) ?_
      refine lv_bipush (v := nI 40) hx hb dX4_reckon_68 (by decide) ?_
      refine n_ge_t (tgt := 95) hx hb (by omega) (by omega) dX4_reckon_70 (by decide) ?_
      refine lv_iload_n hx hb dX4_reckon_95 rfl (lv_at hl 2 rfl) ?_
      refine lv_bipush (v := nI 50) hx hb dX4_reckon_96 (by decide) ?_
      refine n_ge_t (tgt := 131) hx hb (by omega) (by omega) dX4_reckon_98 (by decide) ?_
      rw [e1] at hl
      refine lv_iload_n hx hb dX4_reckon_131 rfl (lv_at hl 2 rfl) ?_
      refine lv_tableOut (tgt := 231) hx hb dX4_reckon_132 (by decide) (by decide) ?_
      refine lv_lload_n hx hb dX4_reckon_231 rfl (lv_at hl 1 rfl) ?_
      refine lv_iload hx hb dX4_reckon_232 (lv_at hl 0 rfl) ?_
      refine c_stat (As := [.long (lN (V (F v))), .int (nI (D (F v)))]) (rest := []) (wc := []) (wr := [eo hm 4 [.int (nI cd), .int (nI n), .int (nI wg), .ref ad.1, .ref ad.2.1, .ref ad.2.2.1, .ref ad.2.2.2.1, .ref ad.2.2.2.2.1, .ref ad.2.2.2.2.2], ey Z ad.1 4000 K, ea Z ad.2.1 4000 F, ea Z ad.2.2.1 4000 S, ea Z ad.2.2.2.1 4000 T, ea Z ad.2.2.2.2.1 4000 D, el Z ad.2.2.2.2.2 4000 V]) hx hb hml hown hts hK hG rfl hA hl (k_signed l Z (lN (V (F v))) (D (F v)) hFd hFd2 (by rw [uN_le hFd2 hF1]; exact hF1)) hW trivial tb_897 tb_898 tb_7 tb_899 (nA := 2) (by decide +kernel) rfl ⟨by omega, by omega⟩ ⟨by omega, by omega⟩ rfl (Nat.le_of_ble_eq_true rfl) dX4_reckon_234 (fun v w1 H1 L1 hp hW hzz hkk hdd => ?_)
      obtain ⟨r, rfl, rfl, hr2⟩ := hp
      clear hzz hkk hdd
      generalize H1 = H at hW  ⊢
      generalize L1 = locs at hW ⊢
      have hW : Wd Z A s.heap ([eo hm 4 [.int (nI cd), .int (nI n), .int (nI wg), .ref ad.1, .ref ad.2.1, .ref ad.2.2.1, .ref ad.2.2.2.1, .ref ad.2.2.2.2.1, .ref ad.2.2.2.2.2], ey Z ad.1 4000 K, ea Z ad.2.1 4000 F, ea Z ad.2.2.1 4000 S, ea Z ad.2.2.2.1 4000 T, ea Z ad.2.2.2.2.1 4000 D, el Z ad.2.2.2.2.2 4000 V]) _ _ := hW
      refine W.eq (g2 := F0 m 237 ls [.long r]) rfl ?_
      refine e_long hx hb hr hlk hAe hW (by omega) (by omega) dX4_reckon_237 ⟨_, rfl, rfl, ?_⟩
      rw [uN_le hFd2 hF1] at hr2
      rw [ext_val hFd c4 hd2 hF1 hr2]
      unfold NV NR
      rw [e1]; rfl
