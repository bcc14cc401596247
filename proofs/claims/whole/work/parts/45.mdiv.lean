theorem i2b_v {n : Nat} (h : n < 128) : (nI n).toInt8.toInt32 = nI n := by
  have : ∀ n, n < 128 → (nI n).toInt8.toInt32 = nI n := by decide +kernel
  exact this n h
theorem tbl_out {x : Int32} (h : ¬ knd x 12) : x.toInt < 0 ∨ 9 < x.toInt := by
  rw [knd_iff x (by decide)] at h
  omega
theorem uN_le {A w : Nat} (hw : w ≤ 64) (hA : A < 2 ^ w) : uN (lN A) = A := uN_lN' (Nat.lt_of_lt_of_le hA (two_le hw))
theorem lN_ne {A w : Nat} (hw : w ≤ 64) (hA : A < 2 ^ w) (h : A ≠ 0) : lN A ≠ 0 := fun q => h (by rw [← uN_le hw hA, q]; rfl)
theorem sx_z {r : Int64} {A w : Nat} (hw : w ≤ 64) (hA : A < 2 ^ w) (hr : uN r = sx A w) : r = 0 ↔ A = 0 := by
  constructor
  · intro h
    rw [h] at hr
    have := sx_mod hw hA
    rw [← hr] at this
    exact this.symm.trans (Nat.zero_mod _)
  · intro h
    subst h
    rw [sx, Nat.zero_testBit, if_neg (by decide)] at hr
    exact uN_inj hr
theorem sx_neg {r : Int64} {A w : Nat} (hw1 : 1 ≤ w) (hA : A < 2 ^ w) (hr : r.toInt = sI A w) : ¬ 0 ≤ r ↔ A.testBit (w - 1) = true := by
  rw [← sI_neg hw1 hA, ← hr, Int64.le_iff_toInt_le]
  show ¬ (0 : Int) ≤ _ ↔ _
  omega
theorem dv_q {U V w : Nat} (hV : V ≠ 0) : dvN 0 U V w = U / V ∧ dvN 1 U V w = U % V := by
  refine ⟨?_, ?_⟩
  · rw [dvN, if_pos rfl, dQ, if_neg hV, Nat.pow_zero, Nat.div_one]
  · rw [dvN, if_neg (by decide), dR, if_neg hV, Nat.pow_zero, Nat.div_one]
theorem dv_z {U w : Nat} : dvN 0 U 0 w = 2 ^ w - 1 ∧ dvN 1 U 0 w = U := by
  refine ⟨?_, ?_⟩
  · rw [dvN, if_pos rfl, dQ, if_pos rfl]; rfl
  · rw [dvN, if_neg (by decide), dR, if_pos rfl, Nat.pow_zero, Nat.div_one]
set_option maxHeartbeats 4000000 in
set_option maxRecDepth 100000 in
theorem k_heavy (l : Launch) (Z : Zt) (k w : Nat) (hk : k ≤ 12) (hw : w ≤ 64) : MC l yX4_heavy cX4_heavy 2 (some .int) 0 0 (0) (0) Z ([]) (fun _ => True) [.int (nI k), .int (nI w)] (fun v w1 => v = some (.int (nI (wt2 k w))) ∧ w1 = []) := by
  refine mc_of (by decide) (Nat.le_of_ble_eq_true rfl) (fun p e s m below meth c ls A hx hb hr hts hown hlk hml hin hK hG hW hA hAe hro hl R hRf hRc hRs hRl => ?_)
  have hl : lv_has ls 2 [(0, .int (nI k)), (1, .int (nI w))] := hl
  rcases (show k = 0 ∨ k = 1 ∨ k = 2 ∨ k = 3 ∨ k = 4 ∨ k = 5 ∨ k = 6 ∨ k = 7 ∨ k = 8 ∨ k = 9 ∨ k = 10 ∨ k = 11 ∨ k = 12 by omega) with rfl | rfl | rfl | rfl | rfl | rfl | rfl | rfl | rfl | rfl | rfl | rfl | rfl
  · refine lv_iload_n hx hb dX4_heavy_0 rfl (lv_at hl 0 rfl) ?_
    refine lv_tableIn (off := 55) (tgt := 56) hx hb dX4_heavy_1 (by decide) (by decide) (by decide) (by decide) ?_
    refine lv_iconst (v := nI 4) hx hb dX4_heavy_56 (by decide) ?_
    refine lv_iload_n hx hb dX4_heavy_57 rfl (lv_at hl 1 rfl) ?_
    refine n_imul hx hb dX4_heavy_58 ?_
    exact e_int hx hb hr hlk hAe hW (by omega) (by omega) dX4_heavy_59 ⟨rfl, rfl⟩
  · refine lv_iload_n hx hb dX4_heavy_0 rfl (lv_at hl 0 rfl) ?_
    refine lv_tableIn (off := 55) (tgt := 56) hx hb dX4_heavy_1 (by decide) (by decide) (by decide) (by decide) ?_
    refine lv_iconst (v := nI 4) hx hb dX4_heavy_56 (by decide) ?_
    refine lv_iload_n hx hb dX4_heavy_57 rfl (lv_at hl 1 rfl) ?_
    refine n_imul hx hb dX4_heavy_58 ?_
    exact e_int hx hb hr hlk hAe hW (by omega) (by omega) dX4_heavy_59 ⟨rfl, rfl⟩
  · refine lv_iload_n hx hb dX4_heavy_0 rfl (lv_at hl 0 rfl) ?_
    refine lv_tableIn (off := 55) (tgt := 56) hx hb dX4_heavy_1 (by decide) (by decide) (by decide) (by decide) ?_
    refine lv_iconst (v := nI 4) hx hb dX4_heavy_56 (by decide) ?_
    refine lv_iload_n hx hb dX4_heavy_57 rfl (lv_at hl 1 rfl) ?_
    refine n_imul hx hb dX4_heavy_58 ?_
    exact e_int hx hb hr hlk hAe hW (by omega) (by omega) dX4_heavy_59 ⟨rfl, rfl⟩
  · refine lv_iload_n hx hb dX4_heavy_0 rfl (lv_at hl 0 rfl) ?_
    refine lv_tableIn (off := 59) (tgt := 60) hx hb dX4_heavy_1 (by decide) (by decide) (by decide) (by decide) ?_
    refine lv_bipush (v := nI 10) hx hb dX4_heavy_60 (by decide) ?_
    refine lv_iload_n hx hb dX4_heavy_62 rfl (lv_at hl 1 rfl) ?_
    refine n_imul hx hb dX4_heavy_63 ?_
    exact e_int hx hb hr hlk hAe hW (by omega) (by omega) dX4_heavy_64 ⟨rfl, rfl⟩
  · refine lv_iload_n hx hb dX4_heavy_0 rfl (lv_at hl 0 rfl) ?_
    refine lv_tableIn (off := 59) (tgt := 60) hx hb dX4_heavy_1 (by decide) (by decide) (by decide) (by decide) ?_
    refine lv_bipush (v := nI 10) hx hb dX4_heavy_60 (by decide) ?_
    refine lv_iload_n hx hb dX4_heavy_62 rfl (lv_at hl 1 rfl) ?_
    refine n_imul hx hb dX4_heavy_63 ?_
    exact e_int hx hb hr hlk hAe hW (by omega) (by omega) dX4_heavy_64 ⟨rfl, rfl⟩
  · refine lv_iload_n hx hb dX4_heavy_0 rfl (lv_at hl 0 rfl) ?_
    refine lv_tableIn (off := 64) (tgt := 65) hx hb dX4_heavy_1 (by decide) (by decide) (by decide) (by decide) ?_
    refine lv_bipush (v := nI 14) hx hb dX4_heavy_65 (by decide) ?_
    refine lv_iload_n hx hb dX4_heavy_67 rfl (lv_at hl 1 rfl) ?_
    refine n_imul hx hb dX4_heavy_68 ?_
    refine lv_iload_n hx hb dX4_heavy_69 rfl (lv_at hl 1 rfl) ?_
    refine n_imul hx hb dX4_heavy_70 ?_
    exact e_int hx hb hr hlk hAe hW (by omega) (by omega) dX4_heavy_71 ⟨rfl, rfl⟩
  · refine lv_iload_n hx hb dX4_heavy_0 rfl (lv_at hl 0 rfl) ?_
    refine lv_tableIn (off := 71) (tgt := 72) hx hb dX4_heavy_1 (by decide) (by decide) (by decide) (by decide) ?_
    refine lv_bipush (v := nI 16) hx hb dX4_heavy_72 (by decide) ?_
    refine lv_iload_n hx hb dX4_heavy_74 rfl (lv_at hl 1 rfl) ?_
    refine n_imul hx hb dX4_heavy_75 ?_
    refine lv_iload_n hx hb dX4_heavy_76 rfl (lv_at hl 1 rfl) ?_
    refine n_imul hx hb dX4_heavy_77 ?_
    refine lv_bipush (v := nI 32) hx hb dX4_heavy_78 (by decide) ?_
    refine lv_iload_n hx hb dX4_heavy_80 rfl (lv_at hl 1 rfl) ?_
    refine n_imul hx hb dX4_heavy_81 ?_
    refine n_iadd hx hb dX4_heavy_82 ?_
    exact e_int hx hb hr hlk hAe hW (by omega) (by omega) dX4_heavy_83 ⟨rfl, rfl⟩
  · refine lv_iload_n hx hb dX4_heavy_0 rfl (lv_at hl 0 rfl) ?_
    refine lv_tableIn (off := 71) (tgt := 72) hx hb dX4_heavy_1 (by decide) (by decide) (by decide) (by decide) ?_
    refine lv_bipush (v := nI 16) hx hb dX4_heavy_72 (by decide) ?_
    refine lv_iload_n hx hb dX4_heavy_74 rfl (lv_at hl 1 rfl) ?_
    refine n_imul hx hb dX4_heavy_75 ?_
    refine lv_iload_n hx hb dX4_heavy_76 rfl (lv_at hl 1 rfl) ?_
    refine n_imul hx hb dX4_heavy_77 ?_
    refine lv_bipush (v := nI 32) hx hb dX4_heavy_78 (by decide) ?_
    refine lv_iload_n hx hb dX4_heavy_80 rfl (lv_at hl 1 rfl) ?_
    refine n_imul hx hb dX4_heavy_81 ?_
    refine n_iadd hx hb dX4_heavy_82 ?_
    exact e_int hx hb hr hlk hAe hW (by omega) (by omega) dX4_heavy_83 ⟨rfl, rfl⟩
  · refine lv_iload_n hx hb dX4_heavy_0 rfl (lv_at hl 0 rfl) ?_
    refine lv_tableIn (off := 83) (tgt := 84) hx hb dX4_heavy_1 (by decide) (by decide) (by decide) (by decide) ?_
    refine lv_bipush (v := nI 16) hx hb dX4_heavy_84 (by decide) ?_
    refine lv_iload_n hx hb dX4_heavy_86 rfl (lv_at hl 1 rfl) ?_
    refine n_imul hx hb dX4_heavy_87 ?_
    refine lv_iload_n hx hb dX4_heavy_88 rfl (lv_at hl 1 rfl) ?_
    refine n_imul hx hb dX4_heavy_89 ?_
    refine lv_bipush (v := nI 80) hx hb dX4_heavy_90 (by decide) ?_
    refine lv_iload_n hx hb dX4_heavy_92 rfl (lv_at hl 1 rfl) ?_
    refine n_imul hx hb dX4_heavy_93 ?_
    refine n_iadd hx hb dX4_heavy_94 ?_
    exact e_int hx hb hr hlk hAe hW (by omega) (by omega) dX4_heavy_95 ⟨rfl, rfl⟩
  · refine lv_iload_n hx hb dX4_heavy_0 rfl (lv_at hl 0 rfl) ?_
    refine lv_tableIn (off := 83) (tgt := 84) hx hb dX4_heavy_1 (by decide) (by decide) (by decide) (by decide) ?_
    refine lv_bipush (v := nI 16) hx hb dX4_heavy_84 (by decide) ?_
    refine lv_iload_n hx hb dX4_heavy_86 rfl (lv_at hl 1 rfl) ?_
    refine n_imul hx hb dX4_heavy_87 ?_
    refine lv_iload_n hx hb dX4_heavy_88 rfl (lv_at hl 1 rfl) ?_
    refine n_imul hx hb dX4_heavy_89 ?_
    refine lv_bipush (v := nI 80) hx hb dX4_heavy_90 (by decide) ?_
    refine lv_iload_n hx hb dX4_heavy_92 rfl (lv_at hl 1 rfl) ?_
    refine n_imul hx hb dX4_heavy_93 ?_
    refine n_iadd hx hb dX4_heavy_94 ?_
    exact e_int hx hb hr hlk hAe hW (by omega) (by omega) dX4_heavy_95 ⟨rfl, rfl⟩
  · refine lv_iload_n hx hb dX4_heavy_0 rfl (lv_at hl 0 rfl) ?_
    refine lv_tableOut (tgt := 96) hx hb dX4_heavy_1 (by decide) (by decide) ?_
    refine lv_bipush (v := nI 30) hx hb dX4_heavy_96 (by decide) ?_
    refine lv_iload_n hx hb dX4_heavy_98 rfl (lv_at hl 1 rfl) ?_
    refine n_imul hx hb dX4_heavy_99 ?_
    exact e_int hx hb hr hlk hAe hW (by omega) (by omega) dX4_heavy_100 ⟨rfl, rfl⟩
  · refine lv_iload_n hx hb dX4_heavy_0 rfl (lv_at hl 0 rfl) ?_
    refine lv_tableOut (tgt := 96) hx hb dX4_heavy_1 (by decide) (by decide) ?_
    refine lv_bipush (v := nI 30) hx hb dX4_heavy_96 (by decide) ?_
    refine lv_iload_n hx hb dX4_heavy_98 rfl (lv_at hl 1 rfl) ?_
    refine n_imul hx hb dX4_heavy_99 ?_
    exact e_int hx hb hr hlk hAe hW (by omega) (by omega) dX4_heavy_100 ⟨rfl, rfl⟩
  · refine lv_iload_n hx hb dX4_heavy_0 rfl (lv_at hl 0 rfl) ?_
    refine lv_tableOut (tgt := 96) hx hb dX4_heavy_1 (by decide) (by decide) ?_
    refine lv_bipush (v := nI 30) hx hb dX4_heavy_96 (by decide) ?_
    refine lv_iload_n hx hb dX4_heavy_98 rfl (lv_at hl 1 rfl) ?_
    refine n_imul hx hb dX4_heavy_99 ?_
    exact e_int hx hb hr hlk hAe hW (by omega) (by omega) dX4_heavy_100 ⟨rfl, rfl⟩
set_option maxHeartbeats 4000000 in
set_option maxRecDepth 100000 in
theorem k_heavyX (l : Launch) (Z : Zt) (xk : Int32) (w : Nat) (hk : ¬ knd xk 12) : MC l yX4_heavy cX4_heavy 2 (some .int) 0 0 (0) (0) Z ([]) (fun _ => True) [.int xk, .int (nI w)] (fun v w1 => (∃ h : Int32, v = some (.int h)) ∧ w1 = []) := by
  refine mc_of (by decide) (Nat.le_of_ble_eq_true rfl) (fun p e s m below meth c ls A hx hb hr hts hown hlk hml hin hK hG hW hA hAe hro hl R hRf hRc hRs hRl => ?_)
  have hl : lv_has ls 2 [(0, .int xk), (1, .int (nI w))] := hl
  refine lv_iload_n hx hb dX4_heavy_0 rfl (lv_at hl 0 rfl) ?_
  refine lv_tableOut (tgt := 96) hx hb dX4_heavy_1 (tbl_out hk) (by decide) ?_
  refine lv_bipush (v := nI 30) hx hb dX4_heavy_96 (by decide) ?_
  refine lv_iload_n hx hb dX4_heavy_98 rfl (lv_at hl 1 rfl) ?_
  refine n_imul hx hb dX4_heavy_99 ?_
  exact e_int hx hb hr hlk hAe hW (by omega) (by omega) dX4_heavy_100 ⟨⟨_, rfl⟩, rfl⟩
set_option maxHeartbeats 4000000 in
set_option maxRecDepth 100000 in
theorem k_divided6 (l : Launch) (Z : Zt) (M N w : Nat) (hw1 : 1 ≤ w) (hw : w ≤ 64) (hMw : M < 2 ^ w) (hNw : N < 2 ^ w) : MC l yX4_divided cX4_divided 13 (some .long) 2 120 (0) (0) Z ([]) (fun _ => True) [.int (nI 6), .long (lN M), .long (lN N), .int (nI w)] (fun v w1 => ∃ r : Int64, v = some (.long r) ∧ w1 = [] ∧ uN r % 2 ^ w = N2 6 M N w) := by
  refine mc_of (by decide) (Nat.le_of_ble_eq_true rfl) (fun p e s m below meth c ls A hx hb hr hts hown hlk hml hin hK hG hW hA hAe hro hl R hRf hRc hRs hRl => ?_)
  have hl : lv_has ls 13 [(0, .int (nI 6)), (1, .long (lN M)), (3, .long (lN N)), (5, .int (nI w))] := hl
  refine lv_iload_n hx hb dX4_divided_0 rfl (lv_at hl 0 rfl) ?_
  refine lv_bipush (v := nI 8) hx hb dX4_divided_1 (by decide) ?_
  refine n_ge_f (tgt := 45) hx hb (by omega) (by omega) dX4_divided_3 (by decide) ?_
  refine lv_lload_n hx hb dX4_divided_6 rfl (lv_at hl 2 rfl) ?_
  refine lv_lconst (v := 0) hx hb dX4_divided_7 (by decide) ?_
  refine W.lcmp hx hb dX4_divided_8 ?_
  by_cases hB0 : N = 0
  · subst hB0
    refine lv_if_ne (tgt := 28) hx hb dX4_divided_9 (by decide) (fun q => absurd ((lg_cmp_eq _ _).mpr rfl) q) (fun _ => ?_)
    refine lv_iload_n hx hb dX4_divided_12 rfl (lv_at hl 0 rfl) ?_
    refine lv_bipush (v := nI 6) hx hb dX4_divided_13 (by decide) ?_
    refine n_ne_f (tgt := 24) hx hb (by omega) dX4_divided_15 (by decide) ?_
    refine lv_ldc2 (v := (-1)) hx hb hown (hts _ tb_828) dX4_divided_18 ?_
    refine lv_goto (tgt := 44) hx hb dX4_divided_21 (by decide) ?_
    have e := mone_uN hw
    exact e_long hx hb hr hlk hAe hW (by omega) (by omega) dX4_divided_44 ⟨_, rfl, rfl, e.trans (dv_z (U := M)).1.symm⟩
  · refine lv_if_ne (tgt := 28) hx hb dX4_divided_9 (by decide) (fun _ => ?_) (fun q => absurd ((lg_cmp_eq _ _).mp q) (lN_ne hw hNw hB0))
    refine lv_lload_n hx hb dX4_divided_28 rfl (lv_at hl 1 rfl) ?_
    refine lv_lload_n hx hb dX4_divided_29 rfl (lv_at hl 2 rfl) ?_
    refine lv_iload_n hx hb dX4_divided_30 rfl (lv_at hl 0 rfl) ?_
    refine lv_bipush (v := nI 7) hx hb dX4_divided_31 (by decide) ?_
    refine n_ne_t (tgt := 40) hx hb (by omega) (by omega) (by omega) dX4_divided_33 (by decide) ?_
    refine lv_iconst (v := nI 0) hx hb dX4_divided_40 (by decide) ?_
    refine c_stat (As := [.long (lN M), .long (lN N), .int (nI 0)]) (rest := []) (wc := []) (wr := []) hx hb hml hown hts hK hG rfl hA hl (k_divide l Z (lN M) (lN N) 0 (by rw [uN_le hw hNw]; exact hB0) (by decide)) hW trivial tb_890 tb_891 tb_7 tb_892 (nA := 3) (by decide +kernel) rfl ⟨by omega, by omega⟩ ⟨by omega, by omega⟩ rfl (Nat.le_of_ble_eq_true rfl) dX4_divided_41 (fun v w1 H1 L1 hp hW hzz hkk hdd => ?_)
    obtain ⟨rfl, rfl⟩ := hp
    clear hzz hkk hdd
    generalize H1 = H at hW  ⊢
    generalize L1 = locs at hW ⊢
    have hW : Wd Z A s.heap ([]) _ _ := hW
    refine W.eq (g2 := F0 m 44 ls [.long (if 0 = 0 then lN (uN (lN M) / uN (lN N)) else lN (uN (lN M) % uN (lN N)))]) rfl ?_
    rw [if_pos rfl, uN_le hw hMw, uN_le hw hNw]
    have hlt := Nat.lt_of_le_of_lt (Nat.div_le_self M N) hMw
    exact e_long hx hb hr hlk hAe hW (by omega) (by omega) dX4_divided_44 ⟨_, rfl, rfl, (pos_uN hw hlt).trans (dv_q hB0).1.symm⟩
set_option maxHeartbeats 4000000 in
set_option maxRecDepth 100000 in
theorem k_divided7 (l : Launch) (Z : Zt) (M N w : Nat) (hw1 : 1 ≤ w) (hw : w ≤ 64) (hMw : M < 2 ^ w) (hNw : N < 2 ^ w) : MC l yX4_divided cX4_divided 13 (some .long) 2 120 (0) (0) Z ([]) (fun _ => True) [.int (nI 7), .long (lN M), .long (lN N), .int (nI w)] (fun v w1 => ∃ r : Int64, v = some (.long r) ∧ w1 = [] ∧ uN r % 2 ^ w = N2 7 M N w) := by
  refine mc_of (by decide) (Nat.le_of_ble_eq_true rfl) (fun p e s m below meth c ls A hx hb hr hts hown hlk hml hin hK hG hW hA hAe hro hl R hRf hRc hRs hRl => ?_)
  have hl : lv_has ls 13 [(0, .int (nI 7)), (1, .long (lN M)), (3, .long (lN N)), (5, .int (nI w))] := hl
  refine lv_iload_n hx hb dX4_divided_0 rfl (lv_at hl 0 rfl) ?_
  refine lv_bipush (v := nI 8) hx hb dX4_divided_1 (by decide) ?_
  refine n_ge_f (tgt := 45) hx hb (by omega) (by omega) dX4_divided_3 (by decide) ?_
  refine lv_lload_n hx hb dX4_divided_6 rfl (lv_at hl 2 rfl) ?_
  refine lv_lconst (v := 0) hx hb dX4_divided_7 (by decide) ?_
  refine W.lcmp hx hb dX4_divided_8 ?_
  by_cases hB0 : N = 0
  · subst hB0
    refine lv_if_ne (tgt := 28) hx hb dX4_divided_9 (by decide) (fun q => absurd ((lg_cmp_eq _ _).mpr rfl) q) (fun _ => ?_)
    refine lv_iload_n hx hb dX4_divided_12 rfl (lv_at hl 0 rfl) ?_
    refine lv_bipush (v := nI 6) hx hb dX4_divided_13 (by decide) ?_
    refine n_ne_t (tgt := 24) hx hb (by omega) (by omega) (by omega) dX4_divided_15 (by decide) ?_
    refine lv_lload_n hx hb dX4_divided_24 rfl (lv_at hl 1 rfl) ?_
    refine lv_goto (tgt := 44) hx hb dX4_divided_25 (by decide) ?_
    exact e_long hx hb hr hlk hAe hW (by omega) (by omega) dX4_divided_44 ⟨_, rfl, rfl, (pos_uN hw hMw).trans (dv_z (w := w)).2.symm⟩
  · refine lv_if_ne (tgt := 28) hx hb dX4_divided_9 (by decide) (fun _ => ?_) (fun q => absurd ((lg_cmp_eq _ _).mp q) (lN_ne hw hNw hB0))
    refine lv_lload_n hx hb dX4_divided_28 rfl (lv_at hl 1 rfl) ?_
    refine lv_lload_n hx hb dX4_divided_29 rfl (lv_at hl 2 rfl) ?_
    refine lv_iload_n hx hb dX4_divided_30 rfl (lv_at hl 0 rfl) ?_
    refine lv_bipush (v := nI 7) hx hb dX4_divided_31 (by decide) ?_
    refine n_ne_f (tgt := 40) hx hb (by omega) dX4_divided_33 (by decide) ?_
    refine lv_iconst (v := nI 1) hx hb dX4_divided_36 (by decide) ?_
    refine lv_goto (tgt := 41) hx hb dX4_divided_37 (by decide) ?_
    refine c_stat (As := [.long (lN M), .long (lN N), .int (nI 1)]) (rest := []) (wc := []) (wr := []) hx hb hml hown hts hK hG rfl hA hl (k_divide l Z (lN M) (lN N) 1 (by rw [uN_le hw hNw]; exact hB0) (by decide)) hW trivial tb_890 tb_891 tb_7 tb_892 (nA := 3) (by decide +kernel) rfl ⟨by omega, by omega⟩ ⟨by omega, by omega⟩ rfl (Nat.le_of_ble_eq_true rfl) dX4_divided_41 (fun v w1 H1 L1 hp hW hzz hkk hdd => ?_)
    obtain ⟨rfl, rfl⟩ := hp
    clear hzz hkk hdd
    generalize H1 = H at hW  ⊢
    generalize L1 = locs at hW ⊢
    have hW : Wd Z A s.heap ([]) _ _ := hW
    refine W.eq (g2 := F0 m 44 ls [.long (if 1 = 0 then lN (uN (lN M) / uN (lN N)) else lN (uN (lN M) % uN (lN N)))]) rfl ?_
    rw [if_neg (by decide), uN_le hw hMw, uN_le hw hNw]
    have hlt := Nat.lt_of_le_of_lt (Nat.mod_le M N) hMw
    exact e_long hx hb hr hlk hAe hW (by omega) (by omega) dX4_divided_44 ⟨_, rfl, rfl, (pos_uN hw hlt).trans (dv_q (w := w) hB0).2.symm⟩
set_option maxHeartbeats 4000000 in
set_option maxRecDepth 100000 in
theorem k_divided8 (l : Launch) (Z : Zt) (M N w : Nat) (hw1 : 1 ≤ w) (hw : w ≤ 64) (hMw : M < 2 ^ w) (hNw : N < 2 ^ w) : MC l yX4_divided cX4_divided 13 (some .long) 2 120 (0) (0) Z ([]) (fun _ => True) [.int (nI 8), .long (lN M), .long (lN N), .int (nI w)] (fun v w1 => ∃ r : Int64, v = some (.long r) ∧ w1 = [] ∧ uN r % 2 ^ w = N2 8 M N w) := by
  refine mc_of (by decide) (Nat.le_of_ble_eq_true rfl) (fun p e s m below meth c ls A hx hb hr hts hown hlk hml hin hK hG hW hA hAe hro hl R hRf hRc hRs hRl => ?_)
  have hl : lv_has ls 13 [(0, .int (nI 8)), (1, .long (lN M)), (3, .long (lN N)), (5, .int (nI w))] := hl
  refine lv_iload_n hx hb dX4_divided_0 rfl (lv_at hl 0 rfl) ?_
  refine lv_bipush (v := nI 8) hx hb dX4_divided_1 (by decide) ?_
  refine n_ge_t (tgt := 45) hx hb (by omega) (by omega) dX4_divided_3 (by decide) ?_
  refine lv_lload_n hx hb dX4_divided_45 rfl (lv_at hl 1 rfl) ?_
  refine lv_iload hx hb dX4_divided_46 (lv_at hl 3 rfl) ?_
  refine c_stat (As := [.long (lN M), .int (nI w)]) (rest := []) (wc := []) (wr := []) hx hb hml hown hts hK hG rfl hA hl (k_signed l Z (lN M) w hw1 hw (by rw [uN_le hw hMw]; exact hMw)) hW trivial tb_897 tb_898 tb_7 tb_899 (nA := 2) (by decide +kernel) rfl ⟨by omega, by omega⟩ ⟨by omega, by omega⟩ rfl (Nat.le_of_ble_eq_true rfl) dX4_divided_48 (fun v w1 H1 L1 hp hW hzz hkk hdd => ?_)
  obtain ⟨x, rfl, rfl, hx1⟩ := hp
  clear hzz hkk hdd
  generalize H1 = H at hW  ⊢
  generalize L1 = locs at hW ⊢
  have hW : Wd Z A s.heap ([]) _ _ := hW
  refine W.eq (g2 := F0 m 51 ls [.long x]) rfl ?_
  rw [uN_le hw hMw] at hx1
  have hsx := sx_of hw1 hw hMw hx1
  refine lv_lstore (lv' := [(6, .long x), (0, .int (nI 8)), (1, .long (lN M)), (3, .long (lN N)), (5, .int (nI w))]) hx hb dX4_divided_51 hl (by decide) rfl (fun ls hl => ?_)
  refine lv_lload_n hx hb dX4_divided_53 rfl (lv_at hl 3 rfl) ?_
  refine lv_iload hx hb dX4_divided_54 (lv_at hl 4 rfl) ?_
  refine c_stat (As := [.long (lN N), .int (nI w)]) (rest := []) (wc := []) (wr := []) hx hb hml hown hts hK hG rfl hA hl (k_signed l Z (lN N) w hw1 hw (by rw [uN_le hw hNw]; exact hNw)) hW trivial tb_897 tb_898 tb_7 tb_899 (nA := 2) (by decide +kernel) rfl ⟨by omega, by omega⟩ ⟨by omega, by omega⟩ rfl (Nat.le_of_ble_eq_true rfl) dX4_divided_56 (fun v w1 H1 L1 hp hW hzz hkk hdd => ?_)
  obtain ⟨y, rfl, rfl, hy1⟩ := hp
  clear hzz hkk hdd
  generalize H1 = H at hW  ⊢
  generalize L1 = locs at hW ⊢
  have hW : Wd Z A s.heap ([]) _ _ := hW
  refine W.eq (g2 := F0 m 59 ls [.long y]) rfl ?_
  rw [uN_le hw hNw] at hy1
  have hsy := sx_of hw1 hw hNw hy1
  refine lv_lstore (lv' := [(8, .long y), (6, .long x), (0, .int (nI 8)), (1, .long (lN M)), (3, .long (lN N)), (5, .int (nI w))]) hx hb dX4_divided_59 hl (by decide) rfl (fun ls hl => ?_)
  refine lv_lload hx hb dX4_divided_61 (lv_at hl 0 rfl) ?_
  refine lv_lconst (v := 0) hx hb dX4_divided_63 (by decide) ?_
  refine W.lcmp hx hb dX4_divided_64 ?_
  by_cases hB0 : N = 0
  · have hy0 : y = 0 := (sx_z hw hNw hsy).mpr hB0
    refine lv_if_ne (tgt := 94) hx hb dX4_divided_65 (by decide) (fun q => absurd ((lg_cmp_eq _ _).mpr hy0) q) (fun _ => ?_)
    refine lv_iload_n hx hb dX4_divided_68 rfl (lv_at hl 2 rfl) ?_
    refine lv_bipush (v := nI 9) hx hb dX4_divided_69 (by decide) ?_
    have hsb : N.testBit (w - 1) = false := by rw [hB0, Nat.zero_testBit]
    refine n_ne_t (tgt := 79) hx hb (by omega) (by omega) (by omega) dX4_divided_71 (by decide) ?_
    refine lv_lload hx hb dX4_divided_79 (lv_at hl 1 rfl) ?_
    refine lv_lconst (v := 0) hx hb dX4_divided_81 (by decide) ?_
    refine W.lcmp hx hb dX4_divided_82 ?_
    have h1 : 1 < 2 ^ w := Nat.one_lt_two_pow (by omega)
    have e0 : N2 8 M N w = ngN (M.testBit (w - 1)) (2 ^ w - 1) w := by
      show sdN 0 _ _ M N w = _
      rw [sdN, hB0, if_pos rfl, Nat.zero_testBit, show ngN false 0 w = 0 from rfl, dv_z.1, Bool.xor_false]
    cases hsa : M.testBit (w - 1)
    · refine lv_if_ge (tgt := 90) hx hb dX4_divided_83 (by decide) (fun _ => ?_) (fun q => absurd ((lg_cmp_ge _ _).mpr (Decidable.not_not.mp (fun q => by have := (sx_neg hw1 hMw hx1).mp q; rw [hsa] at this; cases this))) q)
      refine lv_ldc2 (v := (-1)) hx hb hown (hts _ tb_828) dX4_divided_90 ?_
      refine e_long hx hb hr hlk hAe hW (by omega) (by omega) dX4_divided_93 ⟨_, rfl, rfl, ?_⟩
      rw [e0, hsa, mone_uN hw]; rfl
    · refine lv_if_ge (tgt := 90) hx hb dX4_divided_83 (by decide) (fun q => absurd ((lg_cmp_ge _ _).mp q) ((sx_neg hw1 hMw hx1).mpr hsa)) (fun _ => ?_)
      refine lv_lconst (v := 1) hx hb dX4_divided_86 (by decide) ?_
      refine lv_goto (tgt := 93) hx hb dX4_divided_87 (by decide) ?_
      refine e_long hx hb hr hlk hAe hW (by omega) (by omega) dX4_divided_93 ⟨_, rfl, rfl, ?_⟩
      rw [e0, hsa, ngN, if_pos rfl, show 2 ^ w - (2 ^ w - 1) = 1 by omega]; rfl
  · have hy0 : y ≠ 0 := fun q => hB0 ((sx_z hw hNw hsy).mp q)
    refine lv_if_ne (tgt := 94) hx hb dX4_divided_65 (by decide) (fun _ => ?_) (fun q => absurd ((lg_cmp_eq _ _).mp q) hy0)
    refine lv_lload hx hb dX4_divided_94 (lv_at hl 1 rfl) ?_
    refine lv_lconst (v := 0) hx hb dX4_divided_96 (by decide) ?_
    refine W.lcmp hx hb dX4_divided_97 ?_
    have hUl : ∀ s, ngN s M w < 2 ^ w := fun s => ngN_lt hMw
    have hVl : ∀ s, ngN s N w < 2 ^ w := fun s => ngN_lt hNw
    have hV0 : ∀ s, ngN s N w ≠ 0 := fun s q => hB0 ((ngN_0 hNw).mp q)
    cases hsa : M.testBit (w - 1)
    all_goals cases hsb : N.testBit (w - 1)
    · refine lv_if_ge (tgt := 107) hx hb dX4_divided_98 (by decide) (fun _ => ?_) (fun q => absurd ((lg_cmp_ge _ _).mpr (Decidable.not_not.mp (fun q => by have := (sx_neg hw1 hMw hx1).mp q; rw [hsa] at this; cases this))) q)
      refine lv_lload hx hb dX4_divided_107 (lv_at hl 1 rfl) ?_
      refine lv_lload hx hb dX4_divided_109 (lv_at hl 0 rfl) ?_
      refine lv_lconst (v := 0) hx hb dX4_divided_111 (by decide) ?_
      refine W.lcmp hx hb dX4_divided_112 ?_
      refine lv_if_ge (tgt := 122) hx hb dX4_divided_113 (by decide) (fun _ => ?_) (fun q => absurd ((lg_cmp_ge _ _).mpr (Decidable.not_not.mp (fun q => by have := (sx_neg hw1 hNw hy1).mp q; rw [hsb] at this; cases this))) q)
      refine lv_lload hx hb dX4_divided_122 (lv_at hl 0 rfl) ?_
      rw [show x = lN (ngN false M w) from mag_p hsx hsa, show y = lN (ngN false N w) from mag_p hsy hsb]
      refine lv_iload_n hx hb dX4_divided_124 rfl (lv_at hl 2 rfl) ?_
      refine lv_bipush (v := nI 9) hx hb dX4_divided_125 (by decide) ?_
      refine n_ne_t (tgt := 134) hx hb (by omega) (by omega) (by omega) dX4_divided_127 (by decide) ?_
      refine lv_iconst (v := nI 0) hx hb dX4_divided_134 (by decide) ?_
      refine c_stat (As := [.long (lN (ngN false M w)), .long (lN (ngN false N w)), .int (nI 0)]) (rest := []) (wc := []) (wr := []) hx hb hml hown hts hK hG rfl hA hl (k_divide l Z (lN (ngN false M w)) (lN (ngN false N w)) 0 (by rw [uN_le hw (hVl _)]; exact hV0 _) (by decide)) hW trivial tb_890 tb_891 tb_7 tb_892 (nA := 3) (by decide +kernel) rfl ⟨by omega, by omega⟩ ⟨by omega, by omega⟩ rfl (Nat.le_of_ble_eq_true rfl) dX4_divided_135 (fun v w1 H1 L1 hp hW hzz hkk hdd => ?_)
      obtain ⟨rfl, rfl⟩ := hp
      clear hzz hkk hdd
      generalize H1 = H at hW  ⊢
      generalize L1 = locs at hW ⊢
      have hW : Wd Z A s.heap ([]) _ _ := hW
      refine W.eq (g2 := F0 m 138 ls [.long (if 0 = 0 then lN (uN (lN (ngN false M w)) / uN (lN (ngN false N w))) else lN (uN (lN (ngN false M w)) % uN (lN (ngN false N w))))]) rfl ?_
      rw [if_pos rfl, uN_le hw (hUl _), uN_le hw (hVl _)]
      obtain ⟨D, hD⟩ : ∃ D, D = (ngN false M w) / (ngN false N w) := ⟨_, rfl⟩
      rw [← hD]
      have hDl : D < 2 ^ w := by rw [hD]; exact Nat.lt_of_le_of_lt (Nat.div_le_self _ _) (hUl _)
      have hDv : dvN 0 (ngN false M w) (ngN false N w) w = D := by rw [hD]; exact (dv_q (w := w) (hV0 _)).1
      refine lv_lstore (lv' := [(10, .long (lN D)), (8, .long y), (6, .long x), (0, .int (nI 8)), (1, .long (lN M)), (3, .long (lN N)), (5, .int (nI w))]) hx hb dX4_divided_138 hl (by decide) rfl (fun ls hl => ?_)
      refine lv_iload_n hx hb dX4_divided_140 rfl (lv_at hl 3 rfl) ?_
      refine lv_bipush (v := nI 9) hx hb dX4_divided_141 (by decide) ?_
      refine n_ne_t (tgt := 161) hx hb (by omega) (by omega) (by omega) dX4_divided_143 (by decide) ?_
      refine lv_lload hx hb dX4_divided_161 (lv_at hl 2 rfl) ?_
      refine lv_lconst (v := 0) hx hb dX4_divided_163 (by decide) ?_
      refine W.lcmp hx hb dX4_divided_164 ?_
      refine lv_if_ge (tgt := 172) hx hb dX4_divided_165 (by decide) (fun _ => ?_) (fun q => absurd ((lg_cmp_ge _ _).mpr (Decidable.not_not.mp (fun q => by have := (sx_neg hw1 hMw hx1).mp q; rw [hsa] at this; cases this))) q)
      refine lv_iconst (v := nI 0) hx hb dX4_divided_172 (by decide) ?_
      refine lv_lload hx hb dX4_divided_173 (lv_at hl 1 rfl) ?_
      refine lv_lconst (v := 0) hx hb dX4_divided_175 (by decide) ?_
      refine W.lcmp hx hb dX4_divided_176 ?_
      refine lv_if_ge (tgt := 184) hx hb dX4_divided_177 (by decide) (fun _ => ?_) (fun q => absurd ((lg_cmp_ge _ _).mpr (Decidable.not_not.mp (fun q => by have := (sx_neg hw1 hNw hy1).mp q; rw [hsb] at this; cases this))) q)
      refine lv_iconst (v := nI 0) hx hb dX4_divided_184 (by decide) ?_
      refine n_eq_t (tgt := 192) hx hb (by omega) dX4_divided_185 (by decide) ?_
      refine lv_iconst (v := nI 0) hx hb dX4_divided_192 (by decide) ?_
      refine lv_istore (lv' := [(12, .int (nI 0)), (10, .long (lN D)), (8, .long y), (6, .long x), (0, .int (nI 8)), (1, .long (lN M)), (3, .long (lN N)), (5, .int (nI w))]) hx hb dX4_divided_193 hl (by decide) rfl (fun ls hl => ?_)
      refine lv_iload hx hb dX4_divided_195 (lv_at hl 0 rfl) ?_
      refine n_zeq_t (tgt := 206) hx hb (by omega) dX4_divided_197 (by decide) ?_
      refine lv_lload hx hb dX4_divided_206 (lv_at hl 1 rfl) ?_
      refine e_long hx hb hr hlk hAe hW (by omega) (by omega) dX4_divided_208 ⟨_, rfl, rfl, ?_⟩
      rw [pos_uN hw hDl]
      show _ = sdN 0 _ _ M N w
      rw [sdN, hsa, hsb, hDv]; rfl
    · refine lv_if_ge (tgt := 107) hx hb dX4_divided_98 (by decide) (fun _ => ?_) (fun q => absurd ((lg_cmp_ge _ _).mpr (Decidable.not_not.mp (fun q => by have := (sx_neg hw1 hMw hx1).mp q; rw [hsa] at this; cases this))) q)
      refine lv_lload hx hb dX4_divided_107 (lv_at hl 1 rfl) ?_
      refine lv_lload hx hb dX4_divided_109 (lv_at hl 0 rfl) ?_
      refine lv_lconst (v := 0) hx hb dX4_divided_111 (by decide) ?_
      refine W.lcmp hx hb dX4_divided_112 ?_
      refine lv_if_ge (tgt := 122) hx hb dX4_divided_113 (by decide) (fun q => absurd ((lg_cmp_ge _ _).mp q) ((sx_neg hw1 hNw hy1).mpr hsb)) (fun _ => ?_)
      refine lv_lload hx hb dX4_divided_116 (lv_at hl 0 rfl) ?_
      refine lv_lneg hx hb dX4_divided_118 ?_
      refine lv_goto (tgt := 124) hx hb dX4_divided_119 (by decide) ?_
      rw [show x = lN (ngN false M w) from mag_p hsx hsa, show -y = lN (ngN true N w) from mag_n hw1 hw hNw hsy hsb]
      refine lv_iload_n hx hb dX4_divided_124 rfl (lv_at hl 2 rfl) ?_
      refine lv_bipush (v := nI 9) hx hb dX4_divided_125 (by decide) ?_
      refine n_ne_t (tgt := 134) hx hb (by omega) (by omega) (by omega) dX4_divided_127 (by decide) ?_
      refine lv_iconst (v := nI 0) hx hb dX4_divided_134 (by decide) ?_
      refine c_stat (As := [.long (lN (ngN false M w)), .long (lN (ngN true N w)), .int (nI 0)]) (rest := []) (wc := []) (wr := []) hx hb hml hown hts hK hG rfl hA hl (k_divide l Z (lN (ngN false M w)) (lN (ngN true N w)) 0 (by rw [uN_le hw (hVl _)]; exact hV0 _) (by decide)) hW trivial tb_890 tb_891 tb_7 tb_892 (nA := 3) (by decide +kernel) rfl ⟨by omega, by omega⟩ ⟨by omega, by omega⟩ rfl (Nat.le_of_ble_eq_true rfl) dX4_divided_135 (fun v w1 H1 L1 hp hW hzz hkk hdd => ?_)
      obtain ⟨rfl, rfl⟩ := hp
      clear hzz hkk hdd
      generalize H1 = H at hW  ⊢
      generalize L1 = locs at hW ⊢
      have hW : Wd Z A s.heap ([]) _ _ := hW
      refine W.eq (g2 := F0 m 138 ls [.long (if 0 = 0 then lN (uN (lN (ngN false M w)) / uN (lN (ngN true N w))) else lN (uN (lN (ngN false M w)) % uN (lN (ngN true N w))))]) rfl ?_
      rw [if_pos rfl, uN_le hw (hUl _), uN_le hw (hVl _)]
      obtain ⟨D, hD⟩ : ∃ D, D = (ngN false M w) / (ngN true N w) := ⟨_, rfl⟩
      rw [← hD]
      have hDl : D < 2 ^ w := by rw [hD]; exact Nat.lt_of_le_of_lt (Nat.div_le_self _ _) (hUl _)
      have hDv : dvN 0 (ngN false M w) (ngN true N w) w = D := by rw [hD]; exact (dv_q (w := w) (hV0 _)).1
      refine lv_lstore (lv' := [(10, .long (lN D)), (8, .long y), (6, .long x), (0, .int (nI 8)), (1, .long (lN M)), (3, .long (lN N)), (5, .int (nI w))]) hx hb dX4_divided_138 hl (by decide) rfl (fun ls hl => ?_)
      refine lv_iload_n hx hb dX4_divided_140 rfl (lv_at hl 3 rfl) ?_
      refine lv_bipush (v := nI 9) hx hb dX4_divided_141 (by decide) ?_
      refine n_ne_t (tgt := 161) hx hb (by omega) (by omega) (by omega) dX4_divided_143 (by decide) ?_
      refine lv_lload hx hb dX4_divided_161 (lv_at hl 2 rfl) ?_
      refine lv_lconst (v := 0) hx hb dX4_divided_163 (by decide) ?_
      refine W.lcmp hx hb dX4_divided_164 ?_
      refine lv_if_ge (tgt := 172) hx hb dX4_divided_165 (by decide) (fun _ => ?_) (fun q => absurd ((lg_cmp_ge _ _).mpr (Decidable.not_not.mp (fun q => by have := (sx_neg hw1 hMw hx1).mp q; rw [hsa] at this; cases this))) q)
      refine lv_iconst (v := nI 0) hx hb dX4_divided_172 (by decide) ?_
      refine lv_lload hx hb dX4_divided_173 (lv_at hl 1 rfl) ?_
      refine lv_lconst (v := 0) hx hb dX4_divided_175 (by decide) ?_
      refine W.lcmp hx hb dX4_divided_176 ?_
      refine lv_if_ge (tgt := 184) hx hb dX4_divided_177 (by decide) (fun q => absurd ((lg_cmp_ge _ _).mp q) ((sx_neg hw1 hNw hy1).mpr hsb)) (fun _ => ?_)
      refine lv_iconst (v := nI 1) hx hb dX4_divided_180 (by decide) ?_
      refine lv_goto (tgt := 185) hx hb dX4_divided_181 (by decide) ?_
      refine n_eq_f (tgt := 192) hx hb (by omega) (by omega) (by omega) dX4_divided_185 (by decide) ?_
      refine lv_iconst (v := nI 1) hx hb dX4_divided_188 (by decide) ?_
      refine lv_goto (tgt := 193) hx hb dX4_divided_189 (by decide) ?_
      refine lv_istore (lv' := [(12, .int (nI 1)), (10, .long (lN D)), (8, .long y), (6, .long x), (0, .int (nI 8)), (1, .long (lN M)), (3, .long (lN N)), (5, .int (nI w))]) hx hb dX4_divided_193 hl (by decide) rfl (fun ls hl => ?_)
      refine lv_iload hx hb dX4_divided_195 (lv_at hl 0 rfl) ?_
      refine n_zeq_f (tgt := 206) hx hb (by omega) (by omega) dX4_divided_197 (by decide) ?_
      refine lv_lload hx hb dX4_divided_200 (lv_at hl 1 rfl) ?_
      refine lv_lneg hx hb dX4_divided_202 ?_
      refine lv_goto (tgt := 208) hx hb dX4_divided_203 (by decide) ?_
      refine e_long hx hb hr hlk hAe hW (by omega) (by omega) dX4_divided_208 ⟨_, rfl, rfl, ?_⟩
      rw [neg_uN hw hDl]
      show _ = sdN 0 _ _ M N w
      rw [sdN, hsa, hsb, hDv]; rfl
    · refine lv_if_ge (tgt := 107) hx hb dX4_divided_98 (by decide) (fun q => absurd ((lg_cmp_ge _ _).mp q) ((sx_neg hw1 hMw hx1).mpr hsa)) (fun _ => ?_)
      refine lv_lload hx hb dX4_divided_101 (lv_at hl 1 rfl) ?_
      refine lv_lneg hx hb dX4_divided_103 ?_
      refine lv_goto (tgt := 109) hx hb dX4_divided_104 (by decide) ?_
      refine lv_lload hx hb dX4_divided_109 (lv_at hl 0 rfl) ?_
      refine lv_lconst (v := 0) hx hb dX4_divided_111 (by decide) ?_
      refine W.lcmp hx hb dX4_divided_112 ?_
      refine lv_if_ge (tgt := 122) hx hb dX4_divided_113 (by decide) (fun _ => ?_) (fun q => absurd ((lg_cmp_ge _ _).mpr (Decidable.not_not.mp (fun q => by have := (sx_neg hw1 hNw hy1).mp q; rw [hsb] at this; cases this))) q)
      refine lv_lload hx hb dX4_divided_122 (lv_at hl 0 rfl) ?_
      rw [show -x = lN (ngN true M w) from mag_n hw1 hw hMw hsx hsa, show y = lN (ngN false N w) from mag_p hsy hsb]
      refine lv_iload_n hx hb dX4_divided_124 rfl (lv_at hl 2 rfl) ?_
      refine lv_bipush (v := nI 9) hx hb dX4_divided_125 (by decide) ?_
      refine n_ne_t (tgt := 134) hx hb (by omega) (by omega) (by omega) dX4_divided_127 (by decide) ?_
      refine lv_iconst (v := nI 0) hx hb dX4_divided_134 (by decide) ?_
      refine c_stat (As := [.long (lN (ngN true M w)), .long (lN (ngN false N w)), .int (nI 0)]) (rest := []) (wc := []) (wr := []) hx hb hml hown hts hK hG rfl hA hl (k_divide l Z (lN (ngN true M w)) (lN (ngN false N w)) 0 (by rw [uN_le hw (hVl _)]; exact hV0 _) (by decide)) hW trivial tb_890 tb_891 tb_7 tb_892 (nA := 3) (by decide +kernel) rfl ⟨by omega, by omega⟩ ⟨by omega, by omega⟩ rfl (Nat.le_of_ble_eq_true rfl) dX4_divided_135 (fun v w1 H1 L1 hp hW hzz hkk hdd => ?_)
      obtain ⟨rfl, rfl⟩ := hp
      clear hzz hkk hdd
      generalize H1 = H at hW  ⊢
      generalize L1 = locs at hW ⊢
      have hW : Wd Z A s.heap ([]) _ _ := hW
      refine W.eq (g2 := F0 m 138 ls [.long (if 0 = 0 then lN (uN (lN (ngN true M w)) / uN (lN (ngN false N w))) else lN (uN (lN (ngN true M w)) % uN (lN (ngN false N w))))]) rfl ?_
      rw [if_pos rfl, uN_le hw (hUl _), uN_le hw (hVl _)]
      obtain ⟨D, hD⟩ : ∃ D, D = (ngN true M w) / (ngN false N w) := ⟨_, rfl⟩
      rw [← hD]
      have hDl : D < 2 ^ w := by rw [hD]; exact Nat.lt_of_le_of_lt (Nat.div_le_self _ _) (hUl _)
      have hDv : dvN 0 (ngN true M w) (ngN false N w) w = D := by rw [hD]; exact (dv_q (w := w) (hV0 _)).1
      refine lv_lstore (lv' := [(10, .long (lN D)), (8, .long y), (6, .long x), (0, .int (nI 8)), (1, .long (lN M)), (3, .long (lN N)), (5, .int (nI w))]) hx hb dX4_divided_138 hl (by decide) rfl (fun ls hl => ?_)
      refine lv_iload_n hx hb dX4_divided_140 rfl (lv_at hl 3 rfl) ?_
      refine lv_bipush (v := nI 9) hx hb dX4_divided_141 (by decide) ?_
      refine n_ne_t (tgt := 161) hx hb (by omega) (by omega) (by omega) dX4_divided_143 (by decide) ?_
      refine lv_lload hx hb dX4_divided_161 (lv_at hl 2 rfl) ?_
      refine lv_lconst (v := 0) hx hb dX4_divided_163 (by decide) ?_
      refine W.lcmp hx hb dX4_divided_164 ?_
      refine lv_if_ge (tgt := 172) hx hb dX4_divided_165 (by decide) (fun q => absurd ((lg_cmp_ge _ _).mp q) ((sx_neg hw1 hMw hx1).mpr hsa)) (fun _ => ?_)
      refine lv_iconst (v := nI 1) hx hb dX4_divided_168 (by decide) ?_
      refine lv_goto (tgt := 173) hx hb dX4_divided_169 (by decide) ?_
      refine lv_lload hx hb dX4_divided_173 (lv_at hl 1 rfl) ?_
      refine lv_lconst (v := 0) hx hb dX4_divided_175 (by decide) ?_
      refine W.lcmp hx hb dX4_divided_176 ?_
      refine lv_if_ge (tgt := 184) hx hb dX4_divided_177 (by decide) (fun _ => ?_) (fun q => absurd ((lg_cmp_ge _ _).mpr (Decidable.not_not.mp (fun q => by have := (sx_neg hw1 hNw hy1).mp q; rw [hsb] at this; cases this))) q)
      refine lv_iconst (v := nI 0) hx hb dX4_divided_184 (by decide) ?_
      refine n_eq_f (tgt := 192) hx hb (by omega) (by omega) (by omega) dX4_divided_185 (by decide) ?_
      refine lv_iconst (v := nI 1) hx hb dX4_divided_188 (by decide) ?_
      refine lv_goto (tgt := 193) hx hb dX4_divided_189 (by decide) ?_
      refine lv_istore (lv' := [(12, .int (nI 1)), (10, .long (lN D)), (8, .long y), (6, .long x), (0, .int (nI 8)), (1, .long (lN M)), (3, .long (lN N)), (5, .int (nI w))]) hx hb dX4_divided_193 hl (by decide) rfl (fun ls hl => ?_)
      refine lv_iload hx hb dX4_divided_195 (lv_at hl 0 rfl) ?_
      refine n_zeq_f (tgt := 206) hx hb (by omega) (by omega) dX4_divided_197 (by decide) ?_
      refine lv_lload hx hb dX4_divided_200 (lv_at hl 1 rfl) ?_
      refine lv_lneg hx hb dX4_divided_202 ?_
      refine lv_goto (tgt := 208) hx hb dX4_divided_203 (by decide) ?_
      refine e_long hx hb hr hlk hAe hW (by omega) (by omega) dX4_divided_208 ⟨_, rfl, rfl, ?_⟩
      rw [neg_uN hw hDl]
      show _ = sdN 0 _ _ M N w
      rw [sdN, hsa, hsb, hDv]; rfl
    · refine lv_if_ge (tgt := 107) hx hb dX4_divided_98 (by decide) (fun q => absurd ((lg_cmp_ge _ _).mp q) ((sx_neg hw1 hMw hx1).mpr hsa)) (fun _ => ?_)
      refine lv_lload hx hb dX4_divided_101 (lv_at hl 1 rfl) ?_
      refine lv_lneg hx hb dX4_divided_103 ?_
      refine lv_goto (tgt := 109) hx hb dX4_divided_104 (by decide) ?_
      refine lv_lload hx hb dX4_divided_109 (lv_at hl 0 rfl) ?_
      refine lv_lconst (v := 0) hx hb dX4_divided_111 (by decide) ?_
      refine W.lcmp hx hb dX4_divided_112 ?_
      refine lv_if_ge (tgt := 122) hx hb dX4_divided_113 (by decide) (fun q => absurd ((lg_cmp_ge _ _).mp q) ((sx_neg hw1 hNw hy1).mpr hsb)) (fun _ => ?_)
      refine lv_lload hx hb dX4_divided_116 (lv_at hl 0 rfl) ?_
      refine lv_lneg hx hb dX4_divided_118 ?_
      refine lv_goto (tgt := 124) hx hb dX4_divided_119 (by decide) ?_
      rw [show -x = lN (ngN true M w) from mag_n hw1 hw hMw hsx hsa, show -y = lN (ngN true N w) from mag_n hw1 hw hNw hsy hsb]
      refine lv_iload_n hx hb dX4_divided_124 rfl (lv_at hl 2 rfl) ?_
      refine lv_bipush (v := nI 9) hx hb dX4_divided_125 (by decide) ?_
      refine n_ne_t (tgt := 134) hx hb (by omega) (by omega) (by omega) dX4_divided_127 (by decide) ?_
      refine lv_iconst (v := nI 0) hx hb dX4_divided_134 (by decide) ?_
      refine c_stat (As := [.long (lN (ngN true M w)), .long (lN (ngN true N w)), .int (nI 0)]) (rest := []) (wc := []) (wr := []) hx hb hml hown hts hK hG rfl hA hl (k_divide l Z (lN (ngN true M w)) (lN (ngN true N w)) 0 (by rw [uN_le hw (hVl _)]; exact hV0 _) (by decide)) hW trivial tb_890 tb_891 tb_7 tb_892 (nA := 3) (by decide +kernel) rfl ⟨by omega, by omega⟩ ⟨by omega, by omega⟩ rfl (Nat.le_of_ble_eq_true rfl) dX4_divided_135 (fun v w1 H1 L1 hp hW hzz hkk hdd => ?_)
      obtain ⟨rfl, rfl⟩ := hp
      clear hzz hkk hdd
      generalize H1 = H at hW  ⊢
      generalize L1 = locs at hW ⊢
      have hW : Wd Z A s.heap ([]) _ _ := hW
      refine W.eq (g2 := F0 m 138 ls [.long (if 0 = 0 then lN (uN (lN (ngN true M w)) / uN (lN (ngN true N w))) else lN (uN (lN (ngN true M w)) % uN (lN (ngN true N w))))]) rfl ?_
      rw [if_pos rfl, uN_le hw (hUl _), uN_le hw (hVl _)]
      obtain ⟨D, hD⟩ : ∃ D, D = (ngN true M w) / (ngN true N w) := ⟨_, rfl⟩
      rw [← hD]
      have hDl : D < 2 ^ w := by rw [hD]; exact Nat.lt_of_le_of_lt (Nat.div_le_self _ _) (hUl _)
      have hDv : dvN 0 (ngN true M w) (ngN true N w) w = D := by rw [hD]; exact (dv_q (w := w) (hV0 _)).1
      refine lv_lstore (lv' := [(10, .long (lN D)), (8, .long y), (6, .long x), (0, .int (nI 8)), (1, .long (lN M)), (3, .long (lN N)), (5, .int (nI w))]) hx hb dX4_divided_138 hl (by decide) rfl (fun ls hl => ?_)
      refine lv_iload_n hx hb dX4_divided_140 rfl (lv_at hl 3 rfl) ?_
      refine lv_bipush (v := nI 9) hx hb dX4_divided_141 (by decide) ?_
      refine n_ne_t (tgt := 161) hx hb (by omega) (by omega) (by omega) dX4_divided_143 (by decide) ?_
      refine lv_lload hx hb dX4_divided_161 (lv_at hl 2 rfl) ?_
      refine lv_lconst (v := 0) hx hb dX4_divided_163 (by decide) ?_
      refine W.lcmp hx hb dX4_divided_164 ?_
      refine lv_if_ge (tgt := 172) hx hb dX4_divided_165 (by decide) (fun q => absurd ((lg_cmp_ge _ _).mp q) ((sx_neg hw1 hMw hx1).mpr hsa)) (fun _ => ?_)
      refine lv_iconst (v := nI 1) hx hb dX4_divided_168 (by decide) ?_
      refine lv_goto (tgt := 173) hx hb dX4_divided_169 (by decide) ?_
      refine lv_lload hx hb dX4_divided_173 (lv_at hl 1 rfl) ?_
      refine lv_lconst (v := 0) hx hb dX4_divided_175 (by decide) ?_
      refine W.lcmp hx hb dX4_divided_176 ?_
      refine lv_if_ge (tgt := 184) hx hb dX4_divided_177 (by decide) (fun q => absurd ((lg_cmp_ge _ _).mp q) ((sx_neg hw1 hNw hy1).mpr hsb)) (fun _ => ?_)
      refine lv_iconst (v := nI 1) hx hb dX4_divided_180 (by decide) ?_
      refine lv_goto (tgt := 185) hx hb dX4_divided_181 (by decide) ?_
      refine n_eq_t (tgt := 192) hx hb (by omega) dX4_divided_185 (by decide) ?_
      refine lv_iconst (v := nI 0) hx hb dX4_divided_192 (by decide) ?_
      refine lv_istore (lv' := [(12, .int (nI 0)), (10, .long (lN D)), (8, .long y), (6, .long x), (0, .int (nI 8)), (1, .long (lN M)), (3, .long (lN N)), (5, .int (nI w))]) hx hb dX4_divided_193 hl (by decide) rfl (fun ls hl => ?_)
      refine lv_iload hx hb dX4_divided_195 (lv_at hl 0 rfl) ?_
      refine n_zeq_t (tgt := 206) hx hb (by omega) dX4_divided_197 (by decide) ?_
      refine lv_lload hx hb dX4_divided_206 (lv_at hl 1 rfl) ?_
      refine e_long hx hb hr hlk hAe hW (by omega) (by omega) dX4_divided_208 ⟨_, rfl, rfl, ?_⟩
      rw [pos_uN hw hDl]
      show _ = sdN 0 _ _ M N w
      rw [sdN, hsa, hsb, hDv]; rfl
set_option maxHeartbeats 4000000 in
set_option maxRecDepth 100000 in
theorem k_divided9 (l : Launch) (Z : Zt) (M N w : Nat) (hw1 : 1 ≤ w) (hw : w ≤ 64) (hMw : M < 2 ^ w) (hNw : N < 2 ^ w) : MC l yX4_divided cX4_divided 13 (some .long) 2 120 (0) (0) Z ([]) (fun _ => True) [.int (nI 9), .long (lN M), .long (lN N), .int (nI w)] (fun v w1 => ∃ r : Int64, v = some (.long r) ∧ w1 = [] ∧ uN r % 2 ^ w = N2 9 M N w) := by
  refine mc_of (by decide) (Nat.le_of_ble_eq_true rfl) (fun p e s m below meth c ls A hx hb hr hts hown hlk hml hin hK hG hW hA hAe hro hl R hRf hRc hRs hRl => ?_)
  have hl : lv_has ls 13 [(0, .int (nI 9)), (1, .long (lN M)), (3, .long (lN N)), (5, .int (nI w))] := hl
  refine lv_iload_n hx hb dX4_divided_0 rfl (lv_at hl 0 rfl) ?_
  refine lv_bipush (v := nI 8) hx hb dX4_divided_1 (by decide) ?_
  refine n_ge_t (tgt := 45) hx hb (by omega) (by omega) dX4_divided_3 (by decide) ?_
  refine lv_lload_n hx hb dX4_divided_45 rfl (lv_at hl 1 rfl) ?_
  refine lv_iload hx hb dX4_divided_46 (lv_at hl 3 rfl) ?_
  refine c_stat (As := [.long (lN M), .int (nI w)]) (rest := []) (wc := []) (wr := []) hx hb hml hown hts hK hG rfl hA hl (k_signed l Z (lN M) w hw1 hw (by rw [uN_le hw hMw]; exact hMw)) hW trivial tb_897 tb_898 tb_7 tb_899 (nA := 2) (by decide +kernel) rfl ⟨by omega, by omega⟩ ⟨by omega, by omega⟩ rfl (Nat.le_of_ble_eq_true rfl) dX4_divided_48 (fun v w1 H1 L1 hp hW hzz hkk hdd => ?_)
  obtain ⟨x, rfl, rfl, hx1⟩ := hp
  clear hzz hkk hdd
  generalize H1 = H at hW  ⊢
  generalize L1 = locs at hW ⊢
  have hW : Wd Z A s.heap ([]) _ _ := hW
  refine W.eq (g2 := F0 m 51 ls [.long x]) rfl ?_
  rw [uN_le hw hMw] at hx1
  have hsx := sx_of hw1 hw hMw hx1
  refine lv_lstore (lv' := [(6, .long x), (0, .int (nI 9)), (1, .long (lN M)), (3, .long (lN N)), (5, .int (nI w))]) hx hb dX4_divided_51 hl (by decide) rfl (fun ls hl => ?_)
  refine lv_lload_n hx hb dX4_divided_53 rfl (lv_at hl 3 rfl) ?_
  refine lv_iload hx hb dX4_divided_54 (lv_at hl 4 rfl) ?_
  refine c_stat (As := [.long (lN N), .int (nI w)]) (rest := []) (wc := []) (wr := []) hx hb hml hown hts hK hG rfl hA hl (k_signed l Z (lN N) w hw1 hw (by rw [uN_le hw hNw]; exact hNw)) hW trivial tb_897 tb_898 tb_7 tb_899 (nA := 2) (by decide +kernel) rfl ⟨by omega, by omega⟩ ⟨by omega, by omega⟩ rfl (Nat.le_of_ble_eq_true rfl) dX4_divided_56 (fun v w1 H1 L1 hp hW hzz hkk hdd => ?_)
  obtain ⟨y, rfl, rfl, hy1⟩ := hp
  clear hzz hkk hdd
  generalize H1 = H at hW  ⊢
  generalize L1 = locs at hW ⊢
  have hW : Wd Z A s.heap ([]) _ _ := hW
  refine W.eq (g2 := F0 m 59 ls [.long y]) rfl ?_
  rw [uN_le hw hNw] at hy1
  have hsy := sx_of hw1 hw hNw hy1
  refine lv_lstore (lv' := [(8, .long y), (6, .long x), (0, .int (nI 9)), (1, .long (lN M)), (3, .long (lN N)), (5, .int (nI w))]) hx hb dX4_divided_59 hl (by decide) rfl (fun ls hl => ?_)
  refine lv_lload hx hb dX4_divided_61 (lv_at hl 0 rfl) ?_
  refine lv_lconst (v := 0) hx hb dX4_divided_63 (by decide) ?_
  refine W.lcmp hx hb dX4_divided_64 ?_
  by_cases hB0 : N = 0
  · have hy0 : y = 0 := (sx_z hw hNw hsy).mpr hB0
    refine lv_if_ne (tgt := 94) hx hb dX4_divided_65 (by decide) (fun q => absurd ((lg_cmp_eq _ _).mpr hy0) q) (fun _ => ?_)
    refine lv_iload_n hx hb dX4_divided_68 rfl (lv_at hl 2 rfl) ?_
    refine lv_bipush (v := nI 9) hx hb dX4_divided_69 (by decide) ?_
    have hsb : N.testBit (w - 1) = false := by rw [hB0, Nat.zero_testBit]
    refine n_ne_f (tgt := 79) hx hb (by omega) dX4_divided_71 (by decide) ?_
    refine lv_lload hx hb dX4_divided_74 (lv_at hl 1 rfl) ?_
    refine lv_goto (tgt := 93) hx hb dX4_divided_76 (by decide) ?_
    refine e_long hx hb hr hlk hAe hW (by omega) (by omega) dX4_divided_93 ⟨_, rfl, rfl, ?_⟩
    rw [hsx, sx_mod hw hMw]
    show M = sdN 1 _ _ M N w
    rw [sdN, hB0, if_neg (by decide), Nat.zero_testBit, show ngN false 0 w = 0 from rfl, dv_z.2, ngN_ng hMw]
  · have hy0 : y ≠ 0 := fun q => hB0 ((sx_z hw hNw hsy).mp q)
    refine lv_if_ne (tgt := 94) hx hb dX4_divided_65 (by decide) (fun _ => ?_) (fun q => absurd ((lg_cmp_eq _ _).mp q) hy0)
    refine lv_lload hx hb dX4_divided_94 (lv_at hl 1 rfl) ?_
    refine lv_lconst (v := 0) hx hb dX4_divided_96 (by decide) ?_
    refine W.lcmp hx hb dX4_divided_97 ?_
    have hUl : ∀ s, ngN s M w < 2 ^ w := fun s => ngN_lt hMw
    have hVl : ∀ s, ngN s N w < 2 ^ w := fun s => ngN_lt hNw
    have hV0 : ∀ s, ngN s N w ≠ 0 := fun s q => hB0 ((ngN_0 hNw).mp q)
    cases hsa : M.testBit (w - 1)
    all_goals cases hsb : N.testBit (w - 1)
    · refine lv_if_ge (tgt := 107) hx hb dX4_divided_98 (by decide) (fun _ => ?_) (fun q => absurd ((lg_cmp_ge _ _).mpr (Decidable.not_not.mp (fun q => by have := (sx_neg hw1 hMw hx1).mp q; rw [hsa] at this; cases this))) q)
      refine lv_lload hx hb dX4_divided_107 (lv_at hl 1 rfl) ?_
      refine lv_lload hx hb dX4_divided_109 (lv_at hl 0 rfl) ?_
      refine lv_lconst (v := 0) hx hb dX4_divided_111 (by decide) ?_
      refine W.lcmp hx hb dX4_divided_112 ?_
      refine lv_if_ge (tgt := 122) hx hb dX4_divided_113 (by decide) (fun _ => ?_) (fun q => absurd ((lg_cmp_ge _ _).mpr (Decidable.not_not.mp (fun q => by have := (sx_neg hw1 hNw hy1).mp q; rw [hsb] at this; cases this))) q)
      refine lv_lload hx hb dX4_divided_122 (lv_at hl 0 rfl) ?_
      rw [show x = lN (ngN false M w) from mag_p hsx hsa, show y = lN (ngN false N w) from mag_p hsy hsb]
      refine lv_iload_n hx hb dX4_divided_124 rfl (lv_at hl 2 rfl) ?_
      refine lv_bipush (v := nI 9) hx hb dX4_divided_125 (by decide) ?_
      refine n_ne_f (tgt := 134) hx hb (by omega) dX4_divided_127 (by decide) ?_
      refine lv_iconst (v := nI 1) hx hb dX4_divided_130 (by decide) ?_
      refine lv_goto (tgt := 135) hx hb dX4_divided_131 (by decide) ?_
      refine c_stat (As := [.long (lN (ngN false M w)), .long (lN (ngN false N w)), .int (nI 1)]) (rest := []) (wc := []) (wr := []) hx hb hml hown hts hK hG rfl hA hl (k_divide l Z (lN (ngN false M w)) (lN (ngN false N w)) 1 (by rw [uN_le hw (hVl _)]; exact hV0 _) (by decide)) hW trivial tb_890 tb_891 tb_7 tb_892 (nA := 3) (by decide +kernel) rfl ⟨by omega, by omega⟩ ⟨by omega, by omega⟩ rfl (Nat.le_of_ble_eq_true rfl) dX4_divided_135 (fun v w1 H1 L1 hp hW hzz hkk hdd => ?_)
      obtain ⟨rfl, rfl⟩ := hp
      clear hzz hkk hdd
      generalize H1 = H at hW  ⊢
      generalize L1 = locs at hW ⊢
      have hW : Wd Z A s.heap ([]) _ _ := hW
      refine W.eq (g2 := F0 m 138 ls [.long (if 1 = 0 then lN (uN (lN (ngN false M w)) / uN (lN (ngN false N w))) else lN (uN (lN (ngN false M w)) % uN (lN (ngN false N w))))]) rfl ?_
      rw [if_neg (by decide), uN_le hw (hUl _), uN_le hw (hVl _)]
      obtain ⟨D, hD⟩ : ∃ D, D = (ngN false M w) % (ngN false N w) := ⟨_, rfl⟩
      rw [← hD]
      have hDl : D < 2 ^ w := by rw [hD]; exact Nat.lt_of_le_of_lt (Nat.mod_le _ _) (hUl _)
      have hDv : dvN 1 (ngN false M w) (ngN false N w) w = D := by rw [hD]; exact (dv_q (w := w) (hV0 _)).2
      refine lv_lstore (lv' := [(10, .long (lN D)), (8, .long y), (6, .long x), (0, .int (nI 9)), (1, .long (lN M)), (3, .long (lN N)), (5, .int (nI w))]) hx hb dX4_divided_138 hl (by decide) rfl (fun ls hl => ?_)
      refine lv_iload_n hx hb dX4_divided_140 rfl (lv_at hl 3 rfl) ?_
      refine lv_bipush (v := nI 9) hx hb dX4_divided_141 (by decide) ?_
      refine n_ne_f (tgt := 161) hx hb (by omega) dX4_divided_143 (by decide) ?_
      refine lv_lload hx hb dX4_divided_146 (lv_at hl 2 rfl) ?_
      refine lv_lconst (v := 0) hx hb dX4_divided_148 (by decide) ?_
      refine W.lcmp hx hb dX4_divided_149 ?_
      refine lv_if_ge (tgt := 157) hx hb dX4_divided_150 (by decide) (fun _ => ?_) (fun q => absurd ((lg_cmp_ge _ _).mpr (Decidable.not_not.mp (fun q => by have := (sx_neg hw1 hMw hx1).mp q; rw [hsa] at this; cases this))) q)
      refine lv_iconst (v := nI 0) hx hb dX4_divided_157 (by decide) ?_
      refine lv_goto (tgt := 193) hx hb dX4_divided_158 (by decide) ?_
      refine lv_istore (lv' := [(12, .int (nI 0)), (10, .long (lN D)), (8, .long y), (6, .long x), (0, .int (nI 9)), (1, .long (lN M)), (3, .long (lN N)), (5, .int (nI w))]) hx hb dX4_divided_193 hl (by decide) rfl (fun ls hl => ?_)
      refine lv_iload hx hb dX4_divided_195 (lv_at hl 0 rfl) ?_
      refine n_zeq_t (tgt := 206) hx hb (by omega) dX4_divided_197 (by decide) ?_
      refine lv_lload hx hb dX4_divided_206 (lv_at hl 1 rfl) ?_
      refine e_long hx hb hr hlk hAe hW (by omega) (by omega) dX4_divided_208 ⟨_, rfl, rfl, ?_⟩
      rw [pos_uN hw hDl]
      show _ = sdN 1 _ _ M N w
      rw [sdN, hsa, hsb, hDv]; rfl
    · refine lv_if_ge (tgt := 107) hx hb dX4_divided_98 (by decide) (fun _ => ?_) (fun q => absurd ((lg_cmp_ge _ _).mpr (Decidable.not_not.mp (fun q => by have := (sx_neg hw1 hMw hx1).mp q; rw [hsa] at this; cases this))) q)
      refine lv_lload hx hb dX4_divided_107 (lv_at hl 1 rfl) ?_
      refine lv_lload hx hb dX4_divided_109 (lv_at hl 0 rfl) ?_
      refine lv_lconst (v := 0) hx hb dX4_divided_111 (by decide) ?_
      refine W.lcmp hx hb dX4_divided_112 ?_
      refine lv_if_ge (tgt := 122) hx hb dX4_divided_113 (by decide) (fun q => absurd ((lg_cmp_ge _ _).mp q) ((sx_neg hw1 hNw hy1).mpr hsb)) (fun _ => ?_)
      refine lv_lload hx hb dX4_divided_116 (lv_at hl 0 rfl) ?_
      refine lv_lneg hx hb dX4_divided_118 ?_
      refine lv_goto (tgt := 124) hx hb dX4_divided_119 (by decide) ?_
      rw [show x = lN (ngN false M w) from mag_p hsx hsa, show -y = lN (ngN true N w) from mag_n hw1 hw hNw hsy hsb]
      refine lv_iload_n hx hb dX4_divided_124 rfl (lv_at hl 2 rfl) ?_
      refine lv_bipush (v := nI 9) hx hb dX4_divided_125 (by decide) ?_
      refine n_ne_f (tgt := 134) hx hb (by omega) dX4_divided_127 (by decide) ?_
      refine lv_iconst (v := nI 1) hx hb dX4_divided_130 (by decide) ?_
      refine lv_goto (tgt := 135) hx hb dX4_divided_131 (by decide) ?_
      refine c_stat (As := [.long (lN (ngN false M w)), .long (lN (ngN true N w)), .int (nI 1)]) (rest := []) (wc := []) (wr := []) hx hb hml hown hts hK hG rfl hA hl (k_divide l Z (lN (ngN false M w)) (lN (ngN true N w)) 1 (by rw [uN_le hw (hVl _)]; exact hV0 _) (by decide)) hW trivial tb_890 tb_891 tb_7 tb_892 (nA := 3) (by decide +kernel) rfl ⟨by omega, by omega⟩ ⟨by omega, by omega⟩ rfl (Nat.le_of_ble_eq_true rfl) dX4_divided_135 (fun v w1 H1 L1 hp hW hzz hkk hdd => ?_)
      obtain ⟨rfl, rfl⟩ := hp
      clear hzz hkk hdd
      generalize H1 = H at hW  ⊢
      generalize L1 = locs at hW ⊢
      have hW : Wd Z A s.heap ([]) _ _ := hW
      refine W.eq (g2 := F0 m 138 ls [.long (if 1 = 0 then lN (uN (lN (ngN false M w)) / uN (lN (ngN true N w))) else lN (uN (lN (ngN false M w)) % uN (lN (ngN true N w))))]) rfl ?_
      rw [if_neg (by decide), uN_le hw (hUl _), uN_le hw (hVl _)]
      obtain ⟨D, hD⟩ : ∃ D, D = (ngN false M w) % (ngN true N w) := ⟨_, rfl⟩
      rw [← hD]
      have hDl : D < 2 ^ w := by rw [hD]; exact Nat.lt_of_le_of_lt (Nat.mod_le _ _) (hUl _)
      have hDv : dvN 1 (ngN false M w) (ngN true N w) w = D := by rw [hD]; exact (dv_q (w := w) (hV0 _)).2
      refine lv_lstore (lv' := [(10, .long (lN D)), (8, .long y), (6, .long x), (0, .int (nI 9)), (1, .long (lN M)), (3, .long (lN N)), (5, .int (nI w))]) hx hb dX4_divided_138 hl (by decide) rfl (fun ls hl => ?_)
      refine lv_iload_n hx hb dX4_divided_140 rfl (lv_at hl 3 rfl) ?_
      refine lv_bipush (v := nI 9) hx hb dX4_divided_141 (by decide) ?_
      refine n_ne_f (tgt := 161) hx hb (by omega) dX4_divided_143 (by decide) ?_
      refine lv_lload hx hb dX4_divided_146 (lv_at hl 2 rfl) ?_
      refine lv_lconst (v := 0) hx hb dX4_divided_148 (by decide) ?_
      refine W.lcmp hx hb dX4_divided_149 ?_
      refine lv_if_ge (tgt := 157) hx hb dX4_divided_150 (by decide) (fun _ => ?_) (fun q => absurd ((lg_cmp_ge _ _).mpr (Decidable.not_not.mp (fun q => by have := (sx_neg hw1 hMw hx1).mp q; rw [hsa] at this; cases this))) q)
      refine lv_iconst (v := nI 0) hx hb dX4_divided_157 (by decide) ?_
      refine lv_goto (tgt := 193) hx hb dX4_divided_158 (by decide) ?_
      refine lv_istore (lv' := [(12, .int (nI 0)), (10, .long (lN D)), (8, .long y), (6, .long x), (0, .int (nI 9)), (1, .long (lN M)), (3, .long (lN N)), (5, .int (nI w))]) hx hb dX4_divided_193 hl (by decide) rfl (fun ls hl => ?_)
      refine lv_iload hx hb dX4_divided_195 (lv_at hl 0 rfl) ?_
      refine n_zeq_t (tgt := 206) hx hb (by omega) dX4_divided_197 (by decide) ?_
      refine lv_lload hx hb dX4_divided_206 (lv_at hl 1 rfl) ?_
      refine e_long hx hb hr hlk hAe hW (by omega) (by omega) dX4_divided_208 ⟨_, rfl, rfl, ?_⟩
      rw [pos_uN hw hDl]
      show _ = sdN 1 _ _ M N w
      rw [sdN, hsa, hsb, hDv]; rfl
    · refine lv_if_ge (tgt := 107) hx hb dX4_divided_98 (by decide) (fun q => absurd ((lg_cmp_ge _ _).mp q) ((sx_neg hw1 hMw hx1).mpr hsa)) (fun _ => ?_)
      refine lv_lload hx hb dX4_divided_101 (lv_at hl 1 rfl) ?_
      refine lv_lneg hx hb dX4_divided_103 ?_
      refine lv_goto (tgt := 109) hx hb dX4_divided_104 (by decide) ?_
      refine lv_lload hx hb dX4_divided_109 (lv_at hl 0 rfl) ?_
      refine lv_lconst (v := 0) hx hb dX4_divided_111 (by decide) ?_
      refine W.lcmp hx hb dX4_divided_112 ?_
      refine lv_if_ge (tgt := 122) hx hb dX4_divided_113 (by decide) (fun _ => ?_) (fun q => absurd ((lg_cmp_ge _ _).mpr (Decidable.not_not.mp (fun q => by have := (sx_neg hw1 hNw hy1).mp q; rw [hsb] at this; cases this))) q)
      refine lv_lload hx hb dX4_divided_122 (lv_at hl 0 rfl) ?_
      rw [show -x = lN (ngN true M w) from mag_n hw1 hw hMw hsx hsa, show y = lN (ngN false N w) from mag_p hsy hsb]
      refine lv_iload_n hx hb dX4_divided_124 rfl (lv_at hl 2 rfl) ?_
      refine lv_bipush (v := nI 9) hx hb dX4_divided_125 (by decide) ?_
      refine n_ne_f (tgt := 134) hx hb (by omega) dX4_divided_127 (by decide) ?_
      refine lv_iconst (v := nI 1) hx hb dX4_divided_130 (by decide) ?_
      refine lv_goto (tgt := 135) hx hb dX4_divided_131 (by decide) ?_
      refine c_stat (As := [.long (lN (ngN true M w)), .long (lN (ngN false N w)), .int (nI 1)]) (rest := []) (wc := []) (wr := []) hx hb hml hown hts hK hG rfl hA hl (k_divide l Z (lN (ngN true M w)) (lN (ngN false N w)) 1 (by rw [uN_le hw (hVl _)]; exact hV0 _) (by decide)) hW trivial tb_890 tb_891 tb_7 tb_892 (nA := 3) (by decide +kernel) rfl ⟨by omega, by omega⟩ ⟨by omega, by omega⟩ rfl (Nat.le_of_ble_eq_true rfl) dX4_divided_135 (fun v w1 H1 L1 hp hW hzz hkk hdd => ?_)
      obtain ⟨rfl, rfl⟩ := hp
      clear hzz hkk hdd
      generalize H1 = H at hW  ⊢
      generalize L1 = locs at hW ⊢
      have hW : Wd Z A s.heap ([]) _ _ := hW
      refine W.eq (g2 := F0 m 138 ls [.long (if 1 = 0 then lN (uN (lN (ngN true M w)) / uN (lN (ngN false N w))) else lN (uN (lN (ngN true M w)) % uN (lN (ngN false N w))))]) rfl ?_
      rw [if_neg (by decide), uN_le hw (hUl _), uN_le hw (hVl _)]
      obtain ⟨D, hD⟩ : ∃ D, D = (ngN true M w) % (ngN false N w) := ⟨_, rfl⟩
      rw [← hD]
      have hDl : D < 2 ^ w := by rw [hD]; exact Nat.lt_of_le_of_lt (Nat.mod_le _ _) (hUl _)
      have hDv : dvN 1 (ngN true M w) (ngN false N w) w = D := by rw [hD]; exact (dv_q (w := w) (hV0 _)).2
      refine lv_lstore (lv' := [(10, .long (lN D)), (8, .long y), (6, .long x), (0, .int (nI 9)), (1, .long (lN M)), (3, .long (lN N)), (5, .int (nI w))]) hx hb dX4_divided_138 hl (by decide) rfl (fun ls hl => ?_)
      refine lv_iload_n hx hb dX4_divided_140 rfl (lv_at hl 3 rfl) ?_
      refine lv_bipush (v := nI 9) hx hb dX4_divided_141 (by decide) ?_
      refine n_ne_f (tgt := 161) hx hb (by omega) dX4_divided_143 (by decide) ?_
      refine lv_lload hx hb dX4_divided_146 (lv_at hl 2 rfl) ?_
      refine lv_lconst (v := 0) hx hb dX4_divided_148 (by decide) ?_
      refine W.lcmp hx hb dX4_divided_149 ?_
      refine lv_if_ge (tgt := 157) hx hb dX4_divided_150 (by decide) (fun q => absurd ((lg_cmp_ge _ _).mp q) ((sx_neg hw1 hMw hx1).mpr hsa)) (fun _ => ?_)
      refine lv_iconst (v := nI 1) hx hb dX4_divided_153 (by decide) ?_
      refine lv_goto (tgt := 193) hx hb dX4_divided_154 (by decide) ?_
      refine lv_istore (lv' := [(12, .int (nI 1)), (10, .long (lN D)), (8, .long y), (6, .long x), (0, .int (nI 9)), (1, .long (lN M)), (3, .long (lN N)), (5, .int (nI w))]) hx hb dX4_divided_193 hl (by decide) rfl (fun ls hl => ?_)
      refine lv_iload hx hb dX4_divided_195 (lv_at hl 0 rfl) ?_
      refine n_zeq_f (tgt := 206) hx hb (by omega) (by omega) dX4_divided_197 (by decide) ?_
      refine lv_lload hx hb dX4_divided_200 (lv_at hl 1 rfl) ?_
      refine lv_lneg hx hb dX4_divided_202 ?_
      refine lv_goto (tgt := 208) hx hb dX4_divided_203 (by decide) ?_
      refine e_long hx hb hr hlk hAe hW (by omega) (by omega) dX4_divided_208 ⟨_, rfl, rfl, ?_⟩
      rw [neg_uN hw hDl]
      show _ = sdN 1 _ _ M N w
      rw [sdN, hsa, hsb, hDv]; rfl
    · refine lv_if_ge (tgt := 107) hx hb dX4_divided_98 (by decide) (fun q => absurd ((lg_cmp_ge _ _).mp q) ((sx_neg hw1 hMw hx1).mpr hsa)) (fun _ => ?_)
      refine lv_lload hx hb dX4_divided_101 (lv_at hl 1 rfl) ?_
      refine lv_lneg hx hb dX4_divided_103 ?_
      refine lv_goto (tgt := 109) hx hb dX4_divided_104 (by decide) ?_
      refine lv_lload hx hb dX4_divided_109 (lv_at hl 0 rfl) ?_
      refine lv_lconst (v := 0) hx hb dX4_divided_111 (by decide) ?_
      refine W.lcmp hx hb dX4_divided_112 ?_
      refine lv_if_ge (tgt := 122) hx hb dX4_divided_113 (by decide) (fun q => absurd ((lg_cmp_ge _ _).mp q) ((sx_neg hw1 hNw hy1).mpr hsb)) (fun _ => ?_)
      refine lv_lload hx hb dX4_divided_116 (lv_at hl 0 rfl) ?_
      refine lv_lneg hx hb dX4_divided_118 ?_
      refine lv_goto (tgt := 124) hx hb dX4_divided_119 (by decide) ?_
      rw [show -x = lN (ngN true M w) from mag_n hw1 hw hMw hsx hsa, show -y = lN (ngN true N w) from mag_n hw1 hw hNw hsy hsb]
      refine lv_iload_n hx hb dX4_divided_124 rfl (lv_at hl 2 rfl) ?_
      refine lv_bipush (v := nI 9) hx hb dX4_divided_125 (by decide) ?_
      refine n_ne_f (tgt := 134) hx hb (by omega) dX4_divided_127 (by decide) ?_
      refine lv_iconst (v := nI 1) hx hb dX4_divided_130 (by decide) ?_
      refine lv_goto (tgt := 135) hx hb dX4_divided_131 (by decide) ?_
      refine c_stat (As := [.long (lN (ngN true M w)), .long (lN (ngN true N w)), .int (nI 1)]) (rest := []) (wc := []) (wr := []) hx hb hml hown hts hK hG rfl hA hl (k_divide l Z (lN (ngN true M w)) (lN (ngN true N w)) 1 (by rw [uN_le hw (hVl _)]; exact hV0 _) (by decide)) hW trivial tb_890 tb_891 tb_7 tb_892 (nA := 3) (by decide +kernel) rfl ⟨by omega, by omega⟩ ⟨by omega, by omega⟩ rfl (Nat.le_of_ble_eq_true rfl) dX4_divided_135 (fun v w1 H1 L1 hp hW hzz hkk hdd => ?_)
      obtain ⟨rfl, rfl⟩ := hp
      clear hzz hkk hdd
      generalize H1 = H at hW  ⊢
      generalize L1 = locs at hW ⊢
      have hW : Wd Z A s.heap ([]) _ _ := hW
      refine W.eq (g2 := F0 m 138 ls [.long (if 1 = 0 then lN (uN (lN (ngN true M w)) / uN (lN (ngN true N w))) else lN (uN (lN (ngN true M w)) % uN (lN (ngN true N w))))]) rfl ?_
      rw [if_neg (by decide), uN_le hw (hUl _), uN_le hw (hVl _)]
      obtain ⟨D, hD⟩ : ∃ D, D = (ngN true M w) % (ngN true N w) := ⟨_, rfl⟩
      rw [← hD]
      have hDl : D < 2 ^ w := by rw [hD]; exact Nat.lt_of_le_of_lt (Nat.mod_le _ _) (hUl _)
      have hDv : dvN 1 (ngN true M w) (ngN true N w) w = D := by rw [hD]; exact (dv_q (w := w) (hV0 _)).2
      refine lv_lstore (lv' := [(10, .long (lN D)), (8, .long y), (6, .long x), (0, .int (nI 9)), (1, .long (lN M)), (3, .long (lN N)), (5, .int (nI w))]) hx hb dX4_divided_138 hl (by decide) rfl (fun ls hl => ?_)
      refine lv_iload_n hx hb dX4_divided_140 rfl (lv_at hl 3 rfl) ?_
      refine lv_bipush (v := nI 9) hx hb dX4_divided_141 (by decide) ?_
      refine n_ne_f (tgt := 161) hx hb (by omega) dX4_divided_143 (by decide) ?_
      refine lv_lload hx hb dX4_divided_146 (lv_at hl 2 rfl) ?_
      refine lv_lconst (v := 0) hx hb dX4_divided_148 (by decide) ?_
      refine W.lcmp hx hb dX4_divided_149 ?_
      refine lv_if_ge (tgt := 157) hx hb dX4_divided_150 (by decide) (fun q => absurd ((lg_cmp_ge _ _).mp q) ((sx_neg hw1 hMw hx1).mpr hsa)) (fun _ => ?_)
      refine lv_iconst (v := nI 1) hx hb dX4_divided_153 (by decide) ?_
      refine lv_goto (tgt := 193) hx hb dX4_divided_154 (by decide) ?_
      refine lv_istore (lv' := [(12, .int (nI 1)), (10, .long (lN D)), (8, .long y), (6, .long x), (0, .int (nI 9)), (1, .long (lN M)), (3, .long (lN N)), (5, .int (nI w))]) hx hb dX4_divided_193 hl (by decide) rfl (fun ls hl => ?_)
      refine lv_iload hx hb dX4_divided_195 (lv_at hl 0 rfl) ?_
      refine n_zeq_f (tgt := 206) hx hb (by omega) (by omega) dX4_divided_197 (by decide) ?_
      refine lv_lload hx hb dX4_divided_200 (lv_at hl 1 rfl) ?_
      refine lv_lneg hx hb dX4_divided_202 ?_
      refine lv_goto (tgt := 208) hx hb dX4_divided_203 (by decide) ?_
      refine e_long hx hb hr hlk hAe hW (by omega) (by omega) dX4_divided_208 ⟨_, rfl, rfl, ?_⟩
      rw [neg_uN hw hDl]
      show _ = sdN 1 _ _ M N w
      rw [sdN, hsa, hsb, hDv]; rfl
set_option maxHeartbeats 4000000 in
set_option maxRecDepth 100000 in
theorem k_shifted10 (l : Launch) (Z : Zt) (M N w : Nat) (hw1 : 1 ≤ w) (hw : w ≤ 64) (hMw : M < 2 ^ w) (hNw : N < 2 ^ w) : MC l yX4_shifted cX4_shifted 10 (some .long) 1 60 (0) (0) Z ([]) (fun _ => True) [.int (nI 10), .long (lN M), .long (lN N), .int (nI w)] (fun v w1 => ∃ r : Int64, v = some (.long r) ∧ w1 = [] ∧ uN r % 2 ^ w = N2 10 M N w) := by
  refine mc_of (by decide) (Nat.le_of_ble_eq_true rfl) (fun p e s m below meth c ls A hx hb hr hts hown hlk hml hin hK hG hW hA hAe hro hl R hRf hRc hRs hRl => ?_)
  have hl : lv_has ls 10 [(0, .int (nI 10)), (1, .long (lN M)), (3, .long (lN N)), (5, .int (nI w))] := hl
  refine lv_lload_n hx hb dX4_shifted_0 rfl (lv_at hl 2 rfl) ?_
  refine lv_iload hx hb dX4_shifted_1 (lv_at hl 3 rfl) ?_
  refine lv_i2l (v := (nI w).toInt64) hx hb dX4_shifted_3 rfl ?_
  refine c_stat (As := [.long (lN N), .long (nI w).toInt64]) (rest := []) (wc := []) (wr := []) hx hb hml hown hts hK hG rfl hA hl (k_isBelow l Z (lN N) ((nI w).toInt64)) hW trivial tb_893 tb_894 tb_7 tb_895 (nA := 2) (by decide +kernel) rfl ⟨by omega, by omega⟩ ⟨by omega, by omega⟩ rfl (Nat.le_of_ble_eq_true rfl) dX4_shifted_4 (fun v w1 H1 L1 hp hW hzz hkk hdd => ?_)
  obtain ⟨rfl, rfl⟩ := hp
  clear hzz hkk hdd
  generalize H1 = H at hW  ⊢
  generalize L1 = locs at hW ⊢
  have hW : Wd Z A s.heap ([]) _ _ := hW
  refine W.eq (g2 := F0 m 7 ls [.int (nI (decide (uN (lN N) < uN ((nI w).toInt64))).toNat)]) rfl ?_
  rw [uN_le hw hNw, i2l_val w (by omega), uN_lN' (show w < 2 ^ 64 by omega)]
  refine lv_istore (lv' := [(6, .int (nI (decide (N < w)).toNat)), (0, .int (nI 10)), (1, .long (lN M)), (3, .long (lN N)), (5, .int (nI w))]) hx hb dX4_shifted_7 hl (by decide) rfl (fun ls hl => ?_)
  refine lv_iload_n hx hb dX4_shifted_9 rfl (lv_at hl 1 rfl) ?_
  refine lv_bipush (v := nI 12) hx hb dX4_shifted_10 (by decide) ?_
  refine n_ne_t (tgt := 24) hx hb (by omega) (by omega) (by omega) dX4_shifted_12 (by decide) ?_
  refine lv_lload_n hx hb dX4_shifted_24 rfl (lv_at hl 2 rfl) ?_
  refine lv_lstore (lv' := [(7, .long (lN M)), (6, .int (nI (decide (N < w)).toNat)), (0, .int (nI 10)), (1, .long (lN M)), (3, .long (lN N)), (5, .int (nI w))]) hx hb dX4_shifted_25 hl (by decide) rfl (fun ls hl => ?_)
  refine lv_iload hx hb dX4_shifted_27 (lv_at hl 1 rfl) ?_
  by_cases hNw2 : N < w
  · rw [decide_eq_true hNw2, show (true : Bool).toNat = 1 from rfl] at hl ⊢
    refine n_zne_t (tgt := 53) hx hb (by omega) (by omega) dX4_shifted_29 (by decide) ?_
    refine lv_lload_n hx hb dX4_shifted_53 rfl (lv_at hl 4 rfl) ?_
    refine lv_l2i (v := (lN N).toInt32) hx hb dX4_shifted_54 rfl ?_
    rw [l2i_val N (by omega)]
    refine lv_istore (lv' := [(9, .int (nI N)), (7, .long (lN M)), (6, .int (nI 1)), (0, .int (nI 10)), (1, .long (lN M)), (3, .long (lN N)), (5, .int (nI w))]) hx hb dX4_shifted_55 hl (by decide) rfl (fun ls hl => ?_)
    refine lv_iload_n hx hb dX4_shifted_57 rfl (lv_at hl 3 rfl) ?_
    refine lv_bipush (v := nI 10) hx hb dX4_shifted_58 (by decide) ?_
    refine n_ne_f (tgt := 71) hx hb (by omega) dX4_shifted_60 (by decide) ?_
    refine lv_lload hx hb dX4_shifted_63 (lv_at hl 1 rfl) ?_
    refine lv_iload hx hb dX4_shifted_65 (lv_at hl 0 rfl) ?_
    refine lv_lshl (v := ((lN M) <<< ((nI N).toInt64 &&& 63))) hx hb dX4_shifted_67 rfl ?_
    refine lv_goto (tgt := 90) hx hb dX4_shifted_68 (by decide) ?_
    exact e_long hx hb hr hlk hAe hW (by omega) (by omega) dX4_shifted_90 ⟨_, rfl, rfl, sh10 hw hMw hNw2⟩
  · rw [decide_eq_false hNw2, show (false : Bool).toNat = 0 from rfl] at hl ⊢
    refine n_zne_f (tgt := 53) hx hb rfl dX4_shifted_29 (by decide) ?_
    refine lv_iload_n hx hb dX4_shifted_32 rfl (lv_at hl 2 rfl) ?_
    refine lv_bipush (v := nI 12) hx hb dX4_shifted_33 (by decide) ?_
    have hfar := sh_far (A := M) (show w ≤ N by omega)
    refine n_ne_t (tgt := 51) hx hb (by omega) (by omega) (by omega) dX4_shifted_35 (by decide) ?_
    refine lv_lconst (v := 0) hx hb dX4_shifted_51 (by decide) ?_
    exact e_long hx hb hr hlk hAe hW (by omega) (by omega) dX4_shifted_52 ⟨_, rfl, rfl, by rw [hfar.1]; exact Nat.zero_mod _⟩
set_option maxHeartbeats 4000000 in
set_option maxRecDepth 100000 in
theorem k_shifted11 (l : Launch) (Z : Zt) (M N w : Nat) (hw1 : 1 ≤ w) (hw : w ≤ 64) (hMw : M < 2 ^ w) (hNw : N < 2 ^ w) : MC l yX4_shifted cX4_shifted 10 (some .long) 1 60 (0) (0) Z ([]) (fun _ => True) [.int (nI 11), .long (lN M), .long (lN N), .int (nI w)] (fun v w1 => ∃ r : Int64, v = some (.long r) ∧ w1 = [] ∧ uN r % 2 ^ w = N2 11 M N w) := by
  refine mc_of (by decide) (Nat.le_of_ble_eq_true rfl) (fun p e s m below meth c ls A hx hb hr hts hown hlk hml hin hK hG hW hA hAe hro hl R hRf hRc hRs hRl => ?_)
  have hl : lv_has ls 10 [(0, .int (nI 11)), (1, .long (lN M)), (3, .long (lN N)), (5, .int (nI w))] := hl
  refine lv_lload_n hx hb dX4_shifted_0 rfl (lv_at hl 2 rfl) ?_
  refine lv_iload hx hb dX4_shifted_1 (lv_at hl 3 rfl) ?_
  refine lv_i2l (v := (nI w).toInt64) hx hb dX4_shifted_3 rfl ?_
  refine c_stat (As := [.long (lN N), .long (nI w).toInt64]) (rest := []) (wc := []) (wr := []) hx hb hml hown hts hK hG rfl hA hl (k_isBelow l Z (lN N) ((nI w).toInt64)) hW trivial tb_893 tb_894 tb_7 tb_895 (nA := 2) (by decide +kernel) rfl ⟨by omega, by omega⟩ ⟨by omega, by omega⟩ rfl (Nat.le_of_ble_eq_true rfl) dX4_shifted_4 (fun v w1 H1 L1 hp hW hzz hkk hdd => ?_)
  obtain ⟨rfl, rfl⟩ := hp
  clear hzz hkk hdd
  generalize H1 = H at hW  ⊢
  generalize L1 = locs at hW ⊢
  have hW : Wd Z A s.heap ([]) _ _ := hW
  refine W.eq (g2 := F0 m 7 ls [.int (nI (decide (uN (lN N) < uN ((nI w).toInt64))).toNat)]) rfl ?_
  rw [uN_le hw hNw, i2l_val w (by omega), uN_lN' (show w < 2 ^ 64 by omega)]
  refine lv_istore (lv' := [(6, .int (nI (decide (N < w)).toNat)), (0, .int (nI 11)), (1, .long (lN M)), (3, .long (lN N)), (5, .int (nI w))]) hx hb dX4_shifted_7 hl (by decide) rfl (fun ls hl => ?_)
  refine lv_iload_n hx hb dX4_shifted_9 rfl (lv_at hl 1 rfl) ?_
  refine lv_bipush (v := nI 12) hx hb dX4_shifted_10 (by decide) ?_
  refine n_ne_t (tgt := 24) hx hb (by omega) (by omega) (by omega) dX4_shifted_12 (by decide) ?_
  refine lv_lload_n hx hb dX4_shifted_24 rfl (lv_at hl 2 rfl) ?_
  refine lv_lstore (lv' := [(7, .long (lN M)), (6, .int (nI (decide (N < w)).toNat)), (0, .int (nI 11)), (1, .long (lN M)), (3, .long (lN N)), (5, .int (nI w))]) hx hb dX4_shifted_25 hl (by decide) rfl (fun ls hl => ?_)
  refine lv_iload hx hb dX4_shifted_27 (lv_at hl 1 rfl) ?_
  by_cases hNw2 : N < w
  · rw [decide_eq_true hNw2, show (true : Bool).toNat = 1 from rfl] at hl ⊢
    refine n_zne_t (tgt := 53) hx hb (by omega) (by omega) dX4_shifted_29 (by decide) ?_
    refine lv_lload_n hx hb dX4_shifted_53 rfl (lv_at hl 4 rfl) ?_
    refine lv_l2i (v := (lN N).toInt32) hx hb dX4_shifted_54 rfl ?_
    rw [l2i_val N (by omega)]
    refine lv_istore (lv' := [(9, .int (nI N)), (7, .long (lN M)), (6, .int (nI 1)), (0, .int (nI 11)), (1, .long (lN M)), (3, .long (lN N)), (5, .int (nI w))]) hx hb dX4_shifted_55 hl (by decide) rfl (fun ls hl => ?_)
    refine lv_iload_n hx hb dX4_shifted_57 rfl (lv_at hl 3 rfl) ?_
    refine lv_bipush (v := nI 10) hx hb dX4_shifted_58 (by decide) ?_
    refine n_ne_t (tgt := 71) hx hb (by omega) (by omega) (by omega) dX4_shifted_60 (by decide) ?_
    refine lv_iload_n hx hb dX4_shifted_71 rfl (lv_at hl 3 rfl) ?_
    refine lv_bipush (v := nI 12) hx hb dX4_shifted_72 (by decide) ?_
    refine n_ne_t (tgt := 85) hx hb (by omega) (by omega) (by omega) dX4_shifted_74 (by decide) ?_
    refine lv_lload hx hb dX4_shifted_85 (lv_at hl 1 rfl) ?_
    refine lv_iload hx hb dX4_shifted_87 (lv_at hl 0 rfl) ?_
    refine lv_lushr (v := ((lN M).toUInt64 >>> ((nI N).toInt64.toUInt64 &&& Int64.toUInt64 63)).toInt64) hx hb dX4_shifted_89 rfl ?_
    exact e_long hx hb hr hlk hAe hW (by omega) (by omega) dX4_shifted_90 ⟨_, rfl, rfl, sh11 hw hMw hNw2⟩
  · rw [decide_eq_false hNw2, show (false : Bool).toNat = 0 from rfl] at hl ⊢
    refine n_zne_f (tgt := 53) hx hb rfl dX4_shifted_29 (by decide) ?_
    refine lv_iload_n hx hb dX4_shifted_32 rfl (lv_at hl 2 rfl) ?_
    refine lv_bipush (v := nI 12) hx hb dX4_shifted_33 (by decide) ?_
    have hfar := sh_far (A := M) (show w ≤ N by omega)
    refine n_ne_t (tgt := 51) hx hb (by omega) (by omega) (by omega) dX4_shifted_35 (by decide) ?_
    refine lv_lconst (v := 0) hx hb dX4_shifted_51 (by decide) ?_
    exact e_long hx hb hr hlk hAe hW (by omega) (by omega) dX4_shifted_52 ⟨_, rfl, rfl, by rw [hfar.2.1]; exact Nat.zero_mod _⟩
set_option maxHeartbeats 4000000 in
set_option maxRecDepth 100000 in
theorem k_shifted12 (l : Launch) (Z : Zt) (M N w : Nat) (hw1 : 1 ≤ w) (hw : w ≤ 64) (hMw : M < 2 ^ w) (hNw : N < 2 ^ w) : MC l yX4_shifted cX4_shifted 10 (some .long) 1 60 (0) (0) Z ([]) (fun _ => True) [.int (nI 12), .long (lN M), .long (lN N), .int (nI w)] (fun v w1 => ∃ r : Int64, v = some (.long r) ∧ w1 = [] ∧ uN r % 2 ^ w = N2 12 M N w) := by
  refine mc_of (by decide) (Nat.le_of_ble_eq_true rfl) (fun p e s m below meth c ls A hx hb hr hts hown hlk hml hin hK hG hW hA hAe hro hl R hRf hRc hRs hRl => ?_)
  have hl : lv_has ls 10 [(0, .int (nI 12)), (1, .long (lN M)), (3, .long (lN N)), (5, .int (nI w))] := hl
  refine lv_lload_n hx hb dX4_shifted_0 rfl (lv_at hl 2 rfl) ?_
  refine lv_iload hx hb dX4_shifted_1 (lv_at hl 3 rfl) ?_
  refine lv_i2l (v := (nI w).toInt64) hx hb dX4_shifted_3 rfl ?_
  refine c_stat (As := [.long (lN N), .long (nI w).toInt64]) (rest := []) (wc := []) (wr := []) hx hb hml hown hts hK hG rfl hA hl (k_isBelow l Z (lN N) ((nI w).toInt64)) hW trivial tb_893 tb_894 tb_7 tb_895 (nA := 2) (by decide +kernel) rfl ⟨by omega, by omega⟩ ⟨by omega, by omega⟩ rfl (Nat.le_of_ble_eq_true rfl) dX4_shifted_4 (fun v w1 H1 L1 hp hW hzz hkk hdd => ?_)
  obtain ⟨rfl, rfl⟩ := hp
  clear hzz hkk hdd
  generalize H1 = H at hW  ⊢
  generalize L1 = locs at hW ⊢
  have hW : Wd Z A s.heap ([]) _ _ := hW
  refine W.eq (g2 := F0 m 7 ls [.int (nI (decide (uN (lN N) < uN ((nI w).toInt64))).toNat)]) rfl ?_
  rw [uN_le hw hNw, i2l_val w (by omega), uN_lN' (show w < 2 ^ 64 by omega)]
  refine lv_istore (lv' := [(6, .int (nI (decide (N < w)).toNat)), (0, .int (nI 12)), (1, .long (lN M)), (3, .long (lN N)), (5, .int (nI w))]) hx hb dX4_shifted_7 hl (by decide) rfl (fun ls hl => ?_)
  refine lv_iload_n hx hb dX4_shifted_9 rfl (lv_at hl 1 rfl) ?_
  refine lv_bipush (v := nI 12) hx hb dX4_shifted_10 (by decide) ?_
  refine n_ne_f (tgt := 24) hx hb (by omega) dX4_shifted_12 (by decide) ?_
  refine lv_lload_n hx hb dX4_shifted_15 rfl (lv_at hl 2 rfl) ?_
  refine lv_iload hx hb dX4_shifted_16 (lv_at hl 4 rfl) ?_
  refine c_stat (As := [.long (lN M), .int (nI w)]) (rest := []) (wc := []) (wr := []) hx hb hml hown hts hK hG rfl hA hl (k_signed l Z (lN M) w hw1 hw (by rw [uN_le hw hMw]; exact hMw)) hW trivial tb_897 tb_898 tb_7 tb_899 (nA := 2) (by decide +kernel) rfl ⟨by omega, by omega⟩ ⟨by omega, by omega⟩ rfl (Nat.le_of_ble_eq_true rfl) dX4_shifted_18 (fun v w1 H1 L1 hp hW hzz hkk hdd => ?_)
  obtain ⟨x, rfl, rfl, hx1⟩ := hp
  clear hzz hkk hdd
  generalize H1 = H at hW  ⊢
  generalize L1 = locs at hW ⊢
  have hW : Wd Z A s.heap ([]) _ _ := hW
  refine W.eq (g2 := F0 m 21 ls [.long x]) rfl ?_
  rw [uN_le hw hMw] at hx1
  have hsx := sx_of hw1 hw hMw hx1
  refine lv_goto (tgt := 25) hx hb dX4_shifted_21 (by decide) ?_
  refine lv_lstore (lv' := [(7, .long x), (6, .int (nI (decide (N < w)).toNat)), (0, .int (nI 12)), (1, .long (lN M)), (3, .long (lN N)), (5, .int (nI w))]) hx hb dX4_shifted_25 hl (by decide) rfl (fun ls hl => ?_)
  refine lv_iload hx hb dX4_shifted_27 (lv_at hl 1 rfl) ?_
  by_cases hNw2 : N < w
  · rw [decide_eq_true hNw2, show (true : Bool).toNat = 1 from rfl] at hl ⊢
    refine n_zne_t (tgt := 53) hx hb (by omega) (by omega) dX4_shifted_29 (by decide) ?_
    refine lv_lload_n hx hb dX4_shifted_53 rfl (lv_at hl 4 rfl) ?_
    refine lv_l2i (v := (lN N).toInt32) hx hb dX4_shifted_54 rfl ?_
    rw [l2i_val N (by omega)]
    refine lv_istore (lv' := [(9, .int (nI N)), (7, .long x), (6, .int (nI 1)), (0, .int (nI 12)), (1, .long (lN M)), (3, .long (lN N)), (5, .int (nI w))]) hx hb dX4_shifted_55 hl (by decide) rfl (fun ls hl => ?_)
    refine lv_iload_n hx hb dX4_shifted_57 rfl (lv_at hl 3 rfl) ?_
    refine lv_bipush (v := nI 10) hx hb dX4_shifted_58 (by decide) ?_
    refine n_ne_t (tgt := 71) hx hb (by omega) (by omega) (by omega) dX4_shifted_60 (by decide) ?_
    refine lv_iload_n hx hb dX4_shifted_71 rfl (lv_at hl 3 rfl) ?_
    refine lv_bipush (v := nI 12) hx hb dX4_shifted_72 (by decide) ?_
    refine n_ne_f (tgt := 85) hx hb (by omega) dX4_shifted_74 (by decide) ?_
    refine lv_lload hx hb dX4_shifted_77 (lv_at hl 1 rfl) ?_
    refine lv_iload hx hb dX4_shifted_79 (lv_at hl 0 rfl) ?_
    refine lv_lshr (v := (x >>> ((nI N).toInt64 &&& 63))) hx hb dX4_shifted_81 rfl ?_
    refine lv_goto (tgt := 90) hx hb dX4_shifted_82 (by decide) ?_
    exact e_long hx hb hr hlk hAe hW (by omega) (by omega) dX4_shifted_90 ⟨_, rfl, rfl, sh12 hw1 hw hMw hsx hNw2⟩
  · rw [decide_eq_false hNw2, show (false : Bool).toNat = 0 from rfl] at hl ⊢
    refine n_zne_f (tgt := 53) hx hb rfl dX4_shifted_29 (by decide) ?_
    refine lv_iload_n hx hb dX4_shifted_32 rfl (lv_at hl 2 rfl) ?_
    refine lv_bipush (v := nI 12) hx hb dX4_shifted_33 (by decide) ?_
    have hfar := sh_far (A := M) (show w ≤ N by omega)
    refine n_ne_f (tgt := 51) hx hb (by omega) dX4_shifted_35 (by decide) ?_
    refine lv_lload hx hb dX4_shifted_38 (lv_at hl 0 rfl) ?_
    refine lv_lconst (v := 0) hx hb dX4_shifted_40 (by decide) ?_
    refine W.lcmp hx hb dX4_shifted_41 ?_
    cases hsa : M.testBit (w - 1)
    · refine lv_if_ge (tgt := 51) hx hb dX4_shifted_42 (by decide) (fun _ => ?_) (fun q => absurd ((lg_cmp_ge _ _).mpr (Decidable.not_not.mp (fun q => by have := (sx_neg hw1 hMw hx1).mp q; rw [hsa] at this; cases this))) q)
      refine lv_lconst (v := 0) hx hb dX4_shifted_51 (by decide) ?_
      exact e_long hx hb hr hlk hAe hW (by omega) (by omega) dX4_shifted_52 ⟨_, rfl, rfl, by rw [hfar.2.2, hsa]; exact Nat.zero_mod _⟩
    · refine lv_if_ge (tgt := 51) hx hb dX4_shifted_42 (by decide) (fun q => absurd ((lg_cmp_ge _ _).mp q) ((sx_neg hw1 hMw hx1).mpr hsa)) (fun _ => ?_)
      refine lv_ldc2 (v := (-1)) hx hb hown (hts _ tb_828) dX4_shifted_45 ?_
      refine lv_goto (tgt := 52) hx hb dX4_shifted_48 (by decide) ?_
      exact e_long hx hb hr hlk hAe hW (by omega) (by omega) dX4_shifted_52 ⟨_, rfl, rfl, by rw [hfar.2.2, hsa, if_pos rfl]; exact mone_uN hw⟩
