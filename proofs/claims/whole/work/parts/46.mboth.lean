theorem sub_mod {M N w : Nat} (hw : w ≤ 64) (hN : N < 2 ^ w) : (2 ^ 64 - N + M) % 2 ^ w = (M + (2 ^ w - 1 - N) + 1) % 2 ^ w := by
  obtain ⟨q, hq, hq1⟩ := mul_q hw
  obtain ⟨t, rfl⟩ : ∃ t, q = t + 1 := ⟨q - 1, by omega⟩
  rw [hq, Nat.mul_add, Nat.mul_one, show 2 ^ w * t + 2 ^ w - N + M = (M + (2 ^ w - 1 - N) + 1) + 2 ^ w * t by omega, Nat.add_mul_mod_self_left]
theorem b_op {M N w : Nat} (hw : w ≤ 64) (hM : M < 2 ^ w) (hN : N < 2 ^ w) : uN (lN M &&& lN N) % 2 ^ w = N2 0 M N w ∧ uN (lN M ||| lN N) % 2 ^ w = N2 1 M N w ∧ uN (lN M ^^^ lN N) % 2 ^ w = N2 2 M N w ∧ uN (lN M + lN N) % 2 ^ w = N2 3 M N w ∧ uN (lN M - lN N) % 2 ^ w = N2 4 M N w ∧ uN (lN M * lN N) % 2 ^ w = N2 5 M N w := by
  refine ⟨?_, ?_, ?_, ?_, ?_, ?_⟩
  · rw [uN_and, uN_le hw hM, uN_le hw hN]
    exact Nat.mod_eq_of_lt (Nat.and_lt_two_pow _ hN)
  · rw [uN_or, uN_le hw hM, uN_le hw hN]
    exact Nat.mod_eq_of_lt (Nat.or_lt_two_pow hM hN)
  · rw [uN_xor, uN_le hw hM, uN_le hw hN]
    exact Nat.mod_eq_of_lt (Nat.xor_lt_two_pow hM hN)
  · rw [uN_add, uN_le hw hM, uN_le hw hN, mod_mod_two hw]; rfl
  · rw [uN_sub, uN_le hw hM, uN_le hw hN, mod_mod_two hw, sub_mod hw hN]; rfl
  · rw [uN_mul, uN_le hw hM, uN_le hw hN, mod_mod_two hw]; rfl
set_option maxHeartbeats 4000000 in
set_option maxRecDepth 100000 in
theorem k_both (l : Launch) (Z : Zt) (k M N w : Nat) (hk : k ≤ 12) (hw1 : 1 ≤ w) (hw : w ≤ 64) (hMw : M < 2 ^ w) (hNw : N < 2 ^ w) : MC l yX4_both cX4_both 6 (some .long) 3 160 (0) (0) Z ([]) (fun _ => True) [.int (nI k), .long (lN M), .long (lN N), .int (nI w)] (fun v w1 => ∃ r : Int64, v = some (.long r) ∧ w1 = [] ∧ uN r % 2 ^ w = N2 k M N w) := by
  refine mc_of (by decide) (Nat.le_of_ble_eq_true rfl) (fun p e s m below meth c ls A hx hb hr hts hown hlk hml hin hK hG hW hA hAe hro hl R hRf hRc hRs hRl => ?_)
  have hl : lv_has ls 6 [(0, .int (nI k)), (1, .long (lN M)), (3, .long (lN N)), (5, .int (nI w))] := hl
  have hop := b_op hw hMw hNw
  rcases (show k = 0 ∨ k = 1 ∨ k = 2 ∨ k = 3 ∨ k = 4 ∨ k = 5 ∨ k = 6 ∨ k = 7 ∨ k = 8 ∨ k = 9 ∨ k = 10 ∨ k = 11 ∨ k = 12 by omega) with rfl | rfl | rfl | rfl | rfl | rfl | rfl | rfl | rfl | rfl | rfl | rfl | rfl
  · refine lv_iload_n hx hb dX4_both_0 rfl (lv_at hl 0 rfl) ?_
    refine lv_tableIn (off := 55) (tgt := 56) hx hb dX4_both_1 (by decide) (by decide) (by decide) (by decide) ?_
    refine lv_lload_n hx hb dX4_both_56 rfl (lv_at hl 1 rfl) ?_
    refine lv_lload_n hx hb dX4_both_57 rfl (lv_at hl 2 rfl) ?_
    refine lv_land hx hb dX4_both_58 ?_
    exact e_long hx hb hr hlk hAe hW (by omega) (by omega) dX4_both_59 ⟨_, rfl, rfl, hop.1⟩
  · refine lv_iload_n hx hb dX4_both_0 rfl (lv_at hl 0 rfl) ?_
    refine lv_tableIn (off := 59) (tgt := 60) hx hb dX4_both_1 (by decide) (by decide) (by decide) (by decide) ?_
    refine lv_lload_n hx hb dX4_both_60 rfl (lv_at hl 1 rfl) ?_
    refine lv_lload_n hx hb dX4_both_61 rfl (lv_at hl 2 rfl) ?_
    refine lv_lor hx hb dX4_both_62 ?_
    exact e_long hx hb hr hlk hAe hW (by omega) (by omega) dX4_both_63 ⟨_, rfl, rfl, hop.2.1⟩
  · refine lv_iload_n hx hb dX4_both_0 rfl (lv_at hl 0 rfl) ?_
    refine lv_tableIn (off := 63) (tgt := 64) hx hb dX4_both_1 (by decide) (by decide) (by decide) (by decide) ?_
    refine lv_lload_n hx hb dX4_both_64 rfl (lv_at hl 1 rfl) ?_
    refine lv_lload_n hx hb dX4_both_65 rfl (lv_at hl 2 rfl) ?_
    refine lv_lxor hx hb dX4_both_66 ?_
    exact e_long hx hb hr hlk hAe hW (by omega) (by omega) dX4_both_67 ⟨_, rfl, rfl, hop.2.2.1⟩
  · refine lv_iload_n hx hb dX4_both_0 rfl (lv_at hl 0 rfl) ?_
    refine lv_tableIn (off := 67) (tgt := 68) hx hb dX4_both_1 (by decide) (by decide) (by decide) (by decide) ?_
    refine lv_lload_n hx hb dX4_both_68 rfl (lv_at hl 1 rfl) ?_
    refine lv_lload_n hx hb dX4_both_69 rfl (lv_at hl 2 rfl) ?_
    refine lv_ladd hx hb dX4_both_70 ?_
    exact e_long hx hb hr hlk hAe hW (by omega) (by omega) dX4_both_71 ⟨_, rfl, rfl, hop.2.2.2.1⟩
  · refine lv_iload_n hx hb dX4_both_0 rfl (lv_at hl 0 rfl) ?_
    refine lv_tableIn (off := 71) (tgt := 72) hx hb dX4_both_1 (by decide) (by decide) (by decide) (by decide) ?_
    refine lv_lload_n hx hb dX4_both_72 rfl (lv_at hl 1 rfl) ?_
    refine lv_lload_n hx hb dX4_both_73 rfl (lv_at hl 2 rfl) ?_
    refine lv_lsub hx hb dX4_both_74 ?_
    exact e_long hx hb hr hlk hAe hW (by omega) (by omega) dX4_both_75 ⟨_, rfl, rfl, hop.2.2.2.2.1⟩
  · refine lv_iload_n hx hb dX4_both_0 rfl (lv_at hl 0 rfl) ?_
    refine lv_tableIn (off := 75) (tgt := 76) hx hb dX4_both_1 (by decide) (by decide) (by decide) (by decide) ?_
    refine lv_lload_n hx hb dX4_both_76 rfl (lv_at hl 1 rfl) ?_
    refine lv_lload_n hx hb dX4_both_77 rfl (lv_at hl 2 rfl) ?_
    refine lv_lmul hx hb dX4_both_78 ?_
    exact e_long hx hb hr hlk hAe hW (by omega) (by omega) dX4_both_79 ⟨_, rfl, rfl, hop.2.2.2.2.2⟩
  · refine lv_iload_n hx hb dX4_both_0 rfl (lv_at hl 0 rfl) ?_
    refine lv_tableIn (off := 79) (tgt := 80) hx hb dX4_both_1 (by decide) (by decide) (by decide) (by decide) ?_
    refine lv_iload_n hx hb dX4_both_80 rfl (lv_at hl 0 rfl) ?_
    refine lv_lload_n hx hb dX4_both_81 rfl (lv_at hl 1 rfl) ?_
    refine lv_lload_n hx hb dX4_both_82 rfl (lv_at hl 2 rfl) ?_
    refine lv_iload hx hb dX4_both_83 (lv_at hl 3 rfl) ?_
    refine c_stat (As := [.int (nI 6), .long (lN M), .long (lN N), .int (nI w)]) (rest := []) (wc := []) (wr := []) hx hb hml hown hts hK hG rfl hA hl (k_divided6 l Z M N w hw1 hw hMw hNw) hW trivial tb_887 tb_888 tb_7 tb_889 (nA := 4) (by decide +kernel) rfl ⟨by omega, by omega⟩ ⟨by omega, by omega⟩ rfl (Nat.le_of_ble_eq_true rfl) dX4_both_85 (fun v w1 H1 L1 hp hW hzz hkk hdd => ?_)
    obtain ⟨r, rfl, rfl, hr2⟩ := hp
    clear hzz hkk hdd
    generalize H1 = H at hW  ⊢
    generalize L1 = locs at hW ⊢
    have hW : Wd Z A s.heap ([]) _ _ := hW
    refine W.eq (g2 := F0 m 88 ls [.long r]) rfl ?_
    exact e_long hx hb hr hlk hAe hW (by omega) (by omega) dX4_both_88 ⟨_, rfl, rfl, hr2⟩
  · refine lv_iload_n hx hb dX4_both_0 rfl (lv_at hl 0 rfl) ?_
    refine lv_tableIn (off := 79) (tgt := 80) hx hb dX4_both_1 (by decide) (by decide) (by decide) (by decide) ?_
    refine lv_iload_n hx hb dX4_both_80 rfl (lv_at hl 0 rfl) ?_
    refine lv_lload_n hx hb dX4_both_81 rfl (lv_at hl 1 rfl) ?_
    refine lv_lload_n hx hb dX4_both_82 rfl (lv_at hl 2 rfl) ?_
    refine lv_iload hx hb dX4_both_83 (lv_at hl 3 rfl) ?_
    refine c_stat (As := [.int (nI 7), .long (lN M), .long (lN N), .int (nI w)]) (rest := []) (wc := []) (wr := []) hx hb hml hown hts hK hG rfl hA hl (k_divided7 l Z M N w hw1 hw hMw hNw) hW trivial tb_887 tb_888 tb_7 tb_889 (nA := 4) (by decide +kernel) rfl ⟨by omega, by omega⟩ ⟨by omega, by omega⟩ rfl (Nat.le_of_ble_eq_true rfl) dX4_both_85 (fun v w1 H1 L1 hp hW hzz hkk hdd => ?_)
    obtain ⟨r, rfl, rfl, hr2⟩ := hp
    clear hzz hkk hdd
    generalize H1 = H at hW  ⊢
    generalize L1 = locs at hW ⊢
    have hW : Wd Z A s.heap ([]) _ _ := hW
    refine W.eq (g2 := F0 m 88 ls [.long r]) rfl ?_
    exact e_long hx hb hr hlk hAe hW (by omega) (by omega) dX4_both_88 ⟨_, rfl, rfl, hr2⟩
  · refine lv_iload_n hx hb dX4_both_0 rfl (lv_at hl 0 rfl) ?_
    refine lv_tableIn (off := 79) (tgt := 80) hx hb dX4_both_1 (by decide) (by decide) (by decide) (by decide) ?_
    refine lv_iload_n hx hb dX4_both_80 rfl (lv_at hl 0 rfl) ?_
    refine lv_lload_n hx hb dX4_both_81 rfl (lv_at hl 1 rfl) ?_
    refine lv_lload_n hx hb dX4_both_82 rfl (lv_at hl 2 rfl) ?_
    refine lv_iload hx hb dX4_both_83 (lv_at hl 3 rfl) ?_
    refine c_stat (As := [.int (nI 8), .long (lN M), .long (lN N), .int (nI w)]) (rest := []) (wc := []) (wr := []) hx hb hml hown hts hK hG rfl hA hl (k_divided8 l Z M N w hw1 hw hMw hNw) hW trivial tb_887 tb_888 tb_7 tb_889 (nA := 4) (by decide +kernel) rfl ⟨by omega, by omega⟩ ⟨by omega, by omega⟩ rfl (Nat.le_of_ble_eq_true rfl) dX4_both_85 (fun v w1 H1 L1 hp hW hzz hkk hdd => ?_)
    obtain ⟨r, rfl, rfl, hr2⟩ := hp
    clear hzz hkk hdd
    generalize H1 = H at hW  ⊢
    generalize L1 = locs at hW ⊢
    have hW : Wd Z A s.heap ([]) _ _ := hW
    refine W.eq (g2 := F0 m 88 ls [.long r]) rfl ?_
    exact e_long hx hb hr hlk hAe hW (by omega) (by omega) dX4_both_88 ⟨_, rfl, rfl, hr2⟩
  · refine lv_iload_n hx hb dX4_both_0 rfl (lv_at hl 0 rfl) ?_
    refine lv_tableIn (off := 79) (tgt := 80) hx hb dX4_both_1 (by decide) (by decide) (by decide) (by decide) ?_
    refine lv_iload_n hx hb dX4_both_80 rfl (lv_at hl 0 rfl) ?_
    refine lv_lload_n hx hb dX4_both_81 rfl (lv_at hl 1 rfl) ?_
    refine lv_lload_n hx hb dX4_both_82 rfl (lv_at hl 2 rfl) ?_
    refine lv_iload hx hb dX4_both_83 (lv_at hl 3 rfl) ?_
    refine c_stat (As := [.int (nI 9), .long (lN M), .long (lN N), .int (nI w)]) (rest := []) (wc := []) (wr := []) hx hb hml hown hts hK hG rfl hA hl (k_divided9 l Z M N w hw1 hw hMw hNw) hW trivial tb_887 tb_888 tb_7 tb_889 (nA := 4) (by decide +kernel) rfl ⟨by omega, by omega⟩ ⟨by omega, by omega⟩ rfl (Nat.le_of_ble_eq_true rfl) dX4_both_85 (fun v w1 H1 L1 hp hW hzz hkk hdd => ?_)
    obtain ⟨r, rfl, rfl, hr2⟩ := hp
    clear hzz hkk hdd
    generalize H1 = H at hW  ⊢
    generalize L1 = locs at hW ⊢
    have hW : Wd Z A s.heap ([]) _ _ := hW
    refine W.eq (g2 := F0 m 88 ls [.long r]) rfl ?_
    exact e_long hx hb hr hlk hAe hW (by omega) (by omega) dX4_both_88 ⟨_, rfl, rfl, hr2⟩
  · refine lv_iload_n hx hb dX4_both_0 rfl (lv_at hl 0 rfl) ?_
    refine lv_tableOut (tgt := 89) hx hb dX4_both_1 (by decide) (by decide) ?_
    refine lv_iload_n hx hb dX4_both_89 rfl (lv_at hl 0 rfl) ?_
    refine lv_lload_n hx hb dX4_both_90 rfl (lv_at hl 1 rfl) ?_
    refine lv_lload_n hx hb dX4_both_91 rfl (lv_at hl 2 rfl) ?_
    refine lv_iload hx hb dX4_both_92 (lv_at hl 3 rfl) ?_
    refine c_stat (As := [.int (nI 10), .long (lN M), .long (lN N), .int (nI w)]) (rest := []) (wc := []) (wr := []) hx hb hml hown hts hK hG rfl hA hl (k_shifted10 l Z M N w hw1 hw hMw hNw) hW trivial tb_900 tb_901 tb_7 tb_902 (nA := 4) (by decide +kernel) rfl ⟨by omega, by omega⟩ ⟨by omega, by omega⟩ rfl (Nat.le_of_ble_eq_true rfl) dX4_both_94 (fun v w1 H1 L1 hp hW hzz hkk hdd => ?_)
    obtain ⟨r, rfl, rfl, hr2⟩ := hp
    clear hzz hkk hdd
    generalize H1 = H at hW  ⊢
    generalize L1 = locs at hW ⊢
    have hW : Wd Z A s.heap ([]) _ _ := hW
    refine W.eq (g2 := F0 m 97 ls [.long r]) rfl ?_
    exact e_long hx hb hr hlk hAe hW (by omega) (by omega) dX4_both_97 ⟨_, rfl, rfl, hr2⟩
  · refine lv_iload_n hx hb dX4_both_0 rfl (lv_at hl 0 rfl) ?_
    refine lv_tableOut (tgt := 89) hx hb dX4_both_1 (by decide) (by decide) ?_
    refine lv_iload_n hx hb dX4_both_89 rfl (lv_at hl 0 rfl) ?_
    refine lv_lload_n hx hb dX4_both_90 rfl (lv_at hl 1 rfl) ?_
    refine lv_lload_n hx hb dX4_both_91 rfl (lv_at hl 2 rfl) ?_
    refine lv_iload hx hb dX4_both_92 (lv_at hl 3 rfl) ?_
    refine c_stat (As := [.int (nI 11), .long (lN M), .long (lN N), .int (nI w)]) (rest := []) (wc := []) (wr := []) hx hb hml hown hts hK hG rfl hA hl (k_shifted11 l Z M N w hw1 hw hMw hNw) hW trivial tb_900 tb_901 tb_7 tb_902 (nA := 4) (by decide +kernel) rfl ⟨by omega, by omega⟩ ⟨by omega, by omega⟩ rfl (Nat.le_of_ble_eq_true rfl) dX4_both_94 (fun v w1 H1 L1 hp hW hzz hkk hdd => ?_)
    obtain ⟨r, rfl, rfl, hr2⟩ := hp
    clear hzz hkk hdd
    generalize H1 = H at hW  ⊢
    generalize L1 = locs at hW ⊢
    have hW : Wd Z A s.heap ([]) _ _ := hW
    refine W.eq (g2 := F0 m 97 ls [.long r]) rfl ?_
    exact e_long hx hb hr hlk hAe hW (by omega) (by omega) dX4_both_97 ⟨_, rfl, rfl, hr2⟩
  · refine lv_iload_n hx hb dX4_both_0 rfl (lv_at hl 0 rfl) ?_
    refine lv_tableOut (tgt := 89) hx hb dX4_both_1 (by decide) (by decide) ?_
    refine lv_iload_n hx hb dX4_both_89 rfl (lv_at hl 0 rfl) ?_
    refine lv_lload_n hx hb dX4_both_90 rfl (lv_at hl 1 rfl) ?_
    refine lv_lload_n hx hb dX4_both_91 rfl (lv_at hl 2 rfl) ?_
    refine lv_iload hx hb dX4_both_92 (lv_at hl 3 rfl) ?_
    refine c_stat (As := [.int (nI 12), .long (lN M), .long (lN N), .int (nI w)]) (rest := []) (wc := []) (wr := []) hx hb hml hown hts hK hG rfl hA hl (k_shifted12 l Z M N w hw1 hw hMw hNw) hW trivial tb_900 tb_901 tb_7 tb_902 (nA := 4) (by decide +kernel) rfl ⟨by omega, by omega⟩ ⟨by omega, by omega⟩ rfl (Nat.le_of_ble_eq_true rfl) dX4_both_94 (fun v w1 H1 L1 hp hW hzz hkk hdd => ?_)
    obtain ⟨r, rfl, rfl, hr2⟩ := hp
    clear hzz hkk hdd
    generalize H1 = H at hW  ⊢
    generalize L1 = locs at hW ⊢
    have hW : Wd Z A s.heap ([]) _ _ := hW
    refine W.eq (g2 := F0 m 97 ls [.long r]) rfl ?_
    exact e_long hx hb hr hlk hAe hW (by omega) (by omega) dX4_both_97 ⟨_, rfl, rfl, hr2⟩
set_option maxHeartbeats 4000000 in
set_option maxRecDepth 100000 in
theorem k_holds (l : Launch) (Z : Zt) (k M N w : Nat) (hk : k ≤ 4) (hw1 : 1 ≤ w) (hw : w ≤ 64) (hMw : M < 2 ^ w) (hNw : N < 2 ^ w) : MC l yX4_holds cX4_holds 6 (some .boolean) 1 60 (0) (0) Z ([]) (fun _ => True) [.int (nI k), .long (lN M), .long (lN N), .int (nI w)] (fun v w1 => v = some (.int (nI (NC k M N w).toNat)) ∧ w1 = []) := by
  refine mc_of (by decide) (Nat.le_of_ble_eq_true rfl) (fun p e s m below meth c ls A hx hb hr hts hown hlk hml hin hK hG hW hA hAe hro hl R hRf hRc hRs hRl => ?_)
  have hl : lv_has ls 6 [(0, .int (nI k)), (1, .long (lN M)), (3, .long (lN N)), (5, .int (nI w))] := hl
  rcases (show k = 0 ∨ k = 1 ∨ k = 2 ∨ k = 3 ∨ k = 4 by omega) with rfl | rfl | rfl | rfl | rfl
  · refine lv_iload_n hx hb dX4_holds_0 rfl (lv_at hl 0 rfl) ?_
    refine lv_tableIn (off := 31) (tgt := 32) hx hb dX4_holds_1 (by decide) (by decide) (by decide) (by decide) ?_
    refine lv_lload_n hx hb dX4_holds_32 rfl (lv_at hl 1 rfl) ?_
    refine lv_lload_n hx hb dX4_holds_33 rfl (lv_at hl 2 rfl) ?_
    refine W.lcmp hx hb dX4_holds_34 ?_
    by_cases h : M = N
    · refine lv_if_ne (tgt := 42) hx hb dX4_holds_35 (by decide) (fun q => absurd ((lg_cmp_eq _ _).mpr (congrArg lN h)) q) (fun _ => ?_)
      refine lv_iconst (v := nI 1) hx hb dX4_holds_38 (by decide) ?_
      refine lv_goto (tgt := 43) hx hb dX4_holds_39 (by decide) ?_
      exact e_bool hx hb hr hlk hAe hW (by omega) (by omega) (by first | rfl | decide) dX4_holds_43 ⟨by rw [NC, decide_eq_true h]; rfl, rfl⟩
    · refine lv_if_ne (tgt := 42) hx hb dX4_holds_35 (by decide) (fun _ => ?_) (fun q => absurd ((lg_cmp_eq _ _).mp q) (fun q => h (by rw [← uN_le hw hMw, ← uN_le hw hNw, q])))
      refine lv_iconst (v := nI 0) hx hb dX4_holds_42 (by decide) ?_
      exact e_bool hx hb hr hlk hAe hW (by omega) (by omega) (by first | rfl | decide) dX4_holds_43 ⟨by rw [NC, decide_eq_false h]; rfl, rfl⟩
  · refine lv_iload_n hx hb dX4_holds_0 rfl (lv_at hl 0 rfl) ?_
    refine lv_tableIn (off := 43) (tgt := 44) hx hb dX4_holds_1 (by decide) (by decide) (by decide) (by decide) ?_
    refine lv_lload_n hx hb dX4_holds_44 rfl (lv_at hl 1 rfl) ?_
    refine lv_lload_n hx hb dX4_holds_45 rfl (lv_at hl 2 rfl) ?_
    refine c_stat (As := [.long (lN M), .long (lN N)]) (rest := []) (wc := []) (wr := []) hx hb hml hown hts hK hG rfl hA hl (k_isBelow l Z (lN M) (lN N)) hW trivial tb_893 tb_894 tb_7 tb_895 (nA := 2) (by decide +kernel) rfl ⟨by omega, by omega⟩ ⟨by omega, by omega⟩ rfl (Nat.le_of_ble_eq_true rfl) dX4_holds_46 (fun v w1 H1 L1 hp hW hzz hkk hdd => ?_)
    obtain ⟨rfl, rfl⟩ := hp
    clear hzz hkk hdd
    generalize H1 = H at hW  ⊢
    generalize L1 = locs at hW ⊢
    have hW : Wd Z A s.heap ([]) _ _ := hW
    refine W.eq (g2 := F0 m 49 ls [.int (nI (decide (uN (lN M) < uN (lN N))).toNat)]) rfl ?_
    rw [uN_le hw hMw, uN_le hw hNw]
    exact e_bool hx hb hr hlk hAe hW (by omega) (by omega) (by cases decide (M < N) <;> decide) dX4_holds_49 ⟨rfl, rfl⟩
  · refine lv_iload_n hx hb dX4_holds_0 rfl (lv_at hl 0 rfl) ?_
    refine lv_tableIn (off := 49) (tgt := 50) hx hb dX4_holds_1 (by decide) (by decide) (by decide) (by decide) ?_
    refine lv_lload_n hx hb dX4_holds_50 rfl (lv_at hl 2 rfl) ?_
    refine lv_lload_n hx hb dX4_holds_51 rfl (lv_at hl 1 rfl) ?_
    refine c_stat (As := [.long (lN N), .long (lN M)]) (rest := []) (wc := []) (wr := []) hx hb hml hown hts hK hG rfl hA hl (k_isBelow l Z (lN N) (lN M)) hW trivial tb_893 tb_894 tb_7 tb_895 (nA := 2) (by decide +kernel) rfl ⟨by omega, by omega⟩ ⟨by omega, by omega⟩ rfl (Nat.le_of_ble_eq_true rfl) dX4_holds_52 (fun v w1 H1 L1 hp hW hzz hkk hdd => ?_)
    obtain ⟨rfl, rfl⟩ := hp
    clear hzz hkk hdd
    generalize H1 = H at hW  ⊢
    generalize L1 = locs at hW ⊢
    have hW : Wd Z A s.heap ([]) _ _ := hW
    refine W.eq (g2 := F0 m 55 ls [.int (nI (decide (uN (lN N) < uN (lN M))).toNat)]) rfl ?_
    rw [uN_le hw hMw, uN_le hw hNw]
    by_cases h : N < M
    · rw [decide_eq_true h, show (true : Bool).toNat = 1 from rfl]
      refine n_zne_t (tgt := 62) hx hb (by omega) (by omega) dX4_holds_55 (by decide) ?_
      refine lv_iconst (v := nI 0) hx hb dX4_holds_62 (by decide) ?_
      exact e_bool hx hb hr hlk hAe hW (by omega) (by omega) (by first | rfl | decide) dX4_holds_63 ⟨by rw [NC, decide_eq_false (by omega)]; rfl, rfl⟩
    · rw [decide_eq_false h, show (false : Bool).toNat = 0 from rfl]
      refine n_zne_f (tgt := 62) hx hb rfl dX4_holds_55 (by decide) ?_
      refine lv_iconst (v := nI 1) hx hb dX4_holds_58 (by decide) ?_
      refine lv_goto (tgt := 63) hx hb dX4_holds_59 (by decide) ?_
      exact e_bool hx hb hr hlk hAe hW (by omega) (by omega) (by first | rfl | decide) dX4_holds_63 ⟨by rw [NC, decide_eq_true (by omega)]; rfl, rfl⟩
  · refine lv_iload_n hx hb dX4_holds_0 rfl (lv_at hl 0 rfl) ?_
    refine lv_tableIn (off := 63) (tgt := 64) hx hb dX4_holds_1 (by decide) (by decide) (by decide) (by decide) ?_
    refine lv_lload_n hx hb dX4_holds_64 rfl (lv_at hl 1 rfl) ?_
    refine lv_iload hx hb dX4_holds_65 (lv_at hl 3 rfl) ?_
    refine c_stat (As := [.long (lN M), .int (nI w)]) (rest := []) (wc := []) (wr := []) hx hb hml hown hts hK hG rfl hA hl (k_signed l Z (lN M) w hw1 hw (by rw [uN_le hw hMw]; exact hMw)) hW trivial tb_897 tb_898 tb_7 tb_899 (nA := 2) (by decide +kernel) rfl ⟨by omega, by omega⟩ ⟨by omega, by omega⟩ rfl (Nat.le_of_ble_eq_true rfl) dX4_holds_67 (fun v w1 H1 L1 hp hW hzz hkk hdd => ?_)
    obtain ⟨x, rfl, rfl, hx1⟩ := hp
    clear hzz hkk hdd
    generalize H1 = H at hW  ⊢
    generalize L1 = locs at hW ⊢
    have hW : Wd Z A s.heap ([]) _ _ := hW
    refine W.eq (g2 := F0 m 70 ls [.long x]) rfl ?_
    rw [uN_le hw hMw] at hx1
    refine lv_lload_n hx hb dX4_holds_70 rfl (lv_at hl 2 rfl) ?_
    refine lv_iload hx hb dX4_holds_71 (lv_at hl 3 rfl) ?_
    refine c_stat (As := [.long (lN N), .int (nI w)]) (rest := [.long x]) (wc := []) (wr := []) hx hb hml hown hts hK hG rfl hA hl (k_signed l Z (lN N) w hw1 hw (by rw [uN_le hw hNw]; exact hNw)) hW trivial tb_897 tb_898 tb_7 tb_899 (nA := 2) (by decide +kernel) rfl ⟨by omega, by omega⟩ ⟨by omega, by omega⟩ rfl (Nat.le_of_ble_eq_true rfl) dX4_holds_73 (fun v w1 H1 L1 hp hW hzz hkk hdd => ?_)
    obtain ⟨y, rfl, rfl, hy1⟩ := hp
    clear hzz hkk hdd
    generalize H1 = H at hW  ⊢
    generalize L1 = locs at hW ⊢
    have hW : Wd Z A s.heap ([]) _ _ := hW
    refine W.eq (g2 := F0 m 76 ls [.long y, .long x]) rfl ?_
    rw [uN_le hw hNw] at hy1
    refine W.lcmp hx hb dX4_holds_76 ?_
    by_cases h : sI M w < sI N w
    · refine lv_if_ge (tgt := 84) hx hb dX4_holds_77 (by decide) (fun q => absurd ((lg_cmp_ge _ _).mp q) (by rw [Int64.le_iff_toInt_le, hx1, hy1]; omega)) (fun _ => ?_)
      refine lv_iconst (v := nI 1) hx hb dX4_holds_80 (by decide) ?_
      refine lv_goto (tgt := 85) hx hb dX4_holds_81 (by decide) ?_
      exact e_bool hx hb hr hlk hAe hW (by omega) (by omega) (by first | rfl | decide) dX4_holds_85 ⟨by rw [NC, decide_eq_true h]; rfl, rfl⟩
    · refine lv_if_ge (tgt := 84) hx hb dX4_holds_77 (by decide) (fun _ => ?_) (fun q => absurd ((lg_cmp_ge _ _).mpr (by rw [Int64.le_iff_toInt_le, hx1, hy1]; omega)) q)
      refine lv_iconst (v := nI 0) hx hb dX4_holds_84 (by decide) ?_
      exact e_bool hx hb hr hlk hAe hW (by omega) (by omega) (by first | rfl | decide) dX4_holds_85 ⟨by rw [NC, decide_eq_false h]; rfl, rfl⟩
  · refine lv_iload_n hx hb dX4_holds_0 rfl (lv_at hl 0 rfl) ?_
    refine lv_tableOut (tgt := 86) hx hb dX4_holds_1 (by decide) (by decide) ?_
    refine lv_lload_n hx hb dX4_holds_86 rfl (lv_at hl 1 rfl) ?_
    refine lv_iload hx hb dX4_holds_87 (lv_at hl 3 rfl) ?_
    refine c_stat (As := [.long (lN M), .int (nI w)]) (rest := []) (wc := []) (wr := []) hx hb hml hown hts hK hG rfl hA hl (k_signed l Z (lN M) w hw1 hw (by rw [uN_le hw hMw]; exact hMw)) hW trivial tb_897 tb_898 tb_7 tb_899 (nA := 2) (by decide +kernel) rfl ⟨by omega, by omega⟩ ⟨by omega, by omega⟩ rfl (Nat.le_of_ble_eq_true rfl) dX4_holds_89 (fun v w1 H1 L1 hp hW hzz hkk hdd => ?_)
    obtain ⟨x, rfl, rfl, hx1⟩ := hp
    clear hzz hkk hdd
    generalize H1 = H at hW  ⊢
    generalize L1 = locs at hW ⊢
    have hW : Wd Z A s.heap ([]) _ _ := hW
    refine W.eq (g2 := F0 m 92 ls [.long x]) rfl ?_
    rw [uN_le hw hMw] at hx1
    refine lv_lload_n hx hb dX4_holds_92 rfl (lv_at hl 2 rfl) ?_
    refine lv_iload hx hb dX4_holds_93 (lv_at hl 3 rfl) ?_
    refine c_stat (As := [.long (lN N), .int (nI w)]) (rest := [.long x]) (wc := []) (wr := []) hx hb hml hown hts hK hG rfl hA hl (k_signed l Z (lN N) w hw1 hw (by rw [uN_le hw hNw]; exact hNw)) hW trivial tb_897 tb_898 tb_7 tb_899 (nA := 2) (by decide +kernel) rfl ⟨by omega, by omega⟩ ⟨by omega, by omega⟩ rfl (Nat.le_of_ble_eq_true rfl) dX4_holds_95 (fun v w1 H1 L1 hp hW hzz hkk hdd => ?_)
    obtain ⟨y, rfl, rfl, hy1⟩ := hp
    clear hzz hkk hdd
    generalize H1 = H at hW  ⊢
    generalize L1 = locs at hW ⊢
    have hW : Wd Z A s.heap ([]) _ _ := hW
    refine W.eq (g2 := F0 m 98 ls [.long y, .long x]) rfl ?_
    rw [uN_le hw hNw] at hy1
    refine W.lcmp hx hb dX4_holds_98 ?_
    by_cases h : sI M w ≤ sI N w
    · refine lv_if_gt (tgt := 106) hx hb dX4_holds_99 (by decide) (fun q => absurd ((lg_cmp_gt _ _).mp q) (by rw [Int64.lt_iff_toInt_lt, hx1, hy1]; omega)) (fun _ => ?_)
      refine lv_iconst (v := nI 1) hx hb dX4_holds_102 (by decide) ?_
      refine lv_goto (tgt := 107) hx hb dX4_holds_103 (by decide) ?_
      exact e_bool hx hb hr hlk hAe hW (by omega) (by omega) (by first | rfl | decide) dX4_holds_107 ⟨by show _ = some (Value.int (nI (decide (sI M w ≤ sI N w)).toNat)); rw [decide_eq_true h]; rfl, rfl⟩
    · refine lv_if_gt (tgt := 106) hx hb dX4_holds_99 (by decide) (fun _ => ?_) (fun q => absurd ((lg_cmp_gt _ _).mpr (by rw [Int64.lt_iff_toInt_lt, hx1, hy1]; omega)) q)
      refine lv_iconst (v := nI 0) hx hb dX4_holds_106 (by decide) ?_
      exact e_bool hx hb hr hlk hAe hW (by omega) (by omega) (by first | rfl | decide) dX4_holds_107 ⟨by show _ = some (Value.int (nI (decide (sI M w ≤ sI N w)).toNat)); rw [decide_eq_false h]; rfl, rfl⟩
