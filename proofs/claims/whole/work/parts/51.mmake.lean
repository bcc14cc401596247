theorem wt2_m : ∀ k, k ≤ 12 → ∀ w, w ≤ 64 → wt2 k w ≤ 80000 := by
  have h : ∀ k, k < 13 → ∀ w, w < 65 → wt2 k w ≤ 80000 := by decide +kernel
  exact fun k hk w hw => h k (by omega) w (by omega)
set_option maxHeartbeats 4000000 in
set_option maxRecDepth 100000 in
theorem k_minput0 (l : Launch) (Z : Zt) (hm : Nat) (ad : MA) (cd n wg : Nat) (K F S T D V : Nat → Nat) (xw : Int32) (h : ¬ wid xw) : MC l yX4_input cX4_input 2 (some .int) 1 60 (0) (0) Z (mw Z hm ad cd n wg K F S T D V) (fun _ => True) [.ref hm, .int xw] (fun r w1 => (∃ r0 : Int32, r = some (.int r0)) ∧ w1 = mw Z hm ad 1 n wg K F S T D V) := by
  refine mc_of (by decide) (Nat.le_of_ble_eq_true rfl) (fun p e s m below meth c ls A hx hb hr hts hown hlk hml hin hK hG hW hA hAe hro hl R hRf hRc hRs hRl => ?_)
  have hl : lv_has ls 2 [(0, .ref hm), (1, .int xw)] := hl
  have hW : Wd Z A s.heap ([eo hm 4 [.int (nI cd), .int (nI n), .int (nI wg), .ref ad.1, .ref ad.2.1, .ref ad.2.2.1, .ref ad.2.2.2.1, .ref ad.2.2.2.2.1, .ref ad.2.2.2.2.2], ey Z ad.1 4000 K, ea Z ad.2.1 4000 F, ea Z ad.2.2.1 4000 S, ea Z ad.2.2.2.1 4000 T, ea Z ad.2.2.2.2.1 4000 D, el Z ad.2.2.2.2.2 4000 V]) _ _ := hW
  rw [wid_iff] at h
  refine lv_aload_n hx hb dX4_input_0 rfl (lv_at hl 0 rfl) ?_
  refine lv_iload_n hx hb dX4_input_1 rfl (lv_at hl 1 rfl) ?_
  refine lv_iconst (v := nI 1) hx hb dX4_input_2 (by decide) ?_
  refine lv_icmp_lt (tgt := 16) hx hb dX4_input_3 (by decide) (fun q1 => ?_) (fun q1 => ?_)
  all_goals rw [i_lt _ (by decide)] at q1
  · refine lv_iconst (v := nI 0) hx hb dX4_input_16 (by decide) ?_
    refine lv_iload_n hx hb dX4_input_17 rfl (lv_at hl 1 rfl) ?_
    refine lv_iconst (v := nI 0) hx hb dX4_input_18 (by decide) ?_
    refine lv_iconst (v := nI 0) hx hb dX4_input_19 (by decide) ?_
    refine lv_iconst (v := nI 0) hx hb dX4_input_20 (by decide) ?_
    refine lv_iconst (v := nI 0) hx hb dX4_input_21 (by decide) ?_
    refine lv_iload_n hx hb dX4_input_22 rfl (lv_at hl 1 rfl) ?_
    refine c_virt (As := [.int (nI 0), .int xw, .int (nI 0), .int (nI 0), .int (nI 0), .int (nI 0), .int xw]) (rest := []) (wc := [eo hm 4 [.int (nI cd), .int (nI n), .int (nI wg), .ref ad.1, .ref ad.2.1, .ref ad.2.2.1, .ref ad.2.2.2.1, .ref ad.2.2.2.2.1, .ref ad.2.2.2.2.2], ey Z ad.1 4000 K, ea Z ad.2.1 4000 F, ea Z ad.2.2.1 4000 S, ea Z ad.2.2.2.1 4000 T, ea Z ad.2.2.2.2.1 4000 D, el Z ad.2.2.2.2.2 4000 V]) (wr := []) (nl := 0) hx hb hml hown hts hK hG rfl hA hl (k_madd0 l Z hm ad cd n wg K F S T D V _ _ _ _ _ _) hW trivial (hW.at 0 rfl) rfl rfl tb_816 tb_818 ts_10 tb_7 tb_819 (nA := 7) (by decide +kernel) rfl ⟨by omega, by omega⟩ ⟨by omega, by omega⟩ rfl (Nat.le_of_ble_eq_true rfl) dX4_input_23 (fun v w1 H1 L1 hp hW hzz hkk hdd => ?_)
    obtain ⟨rfl, rfl⟩ := hp
    clear hzz hkk hdd
    generalize H1 = H at hW  ⊢
    generalize L1 = locs at hW ⊢
    have hW : Wd Z A s.heap ([eo hm 4 [.int (nI 1), .int (nI n), .int (nI wg), .ref ad.1, .ref ad.2.1, .ref ad.2.2.1, .ref ad.2.2.2.1, .ref ad.2.2.2.2.1, .ref ad.2.2.2.2.2], ey Z ad.1 4000 K, ea Z ad.2.1 4000 F, ea Z ad.2.2.1 4000 S, ea Z ad.2.2.2.1 4000 T, ea Z ad.2.2.2.2.1 4000 D, el Z ad.2.2.2.2.2 4000 V]) _ _ := hW
    refine W.eq (g2 := F0 m 26 ls [.int (nI 0)]) rfl ?_
    exact e_int hx hb hr hlk hAe hW (by omega) (by omega) dX4_input_26 ⟨⟨_, rfl⟩, rfl⟩
  · refine lv_iload_n hx hb dX4_input_6 rfl (lv_at hl 1 rfl) ?_
    refine lv_bipush (v := nI 64) hx hb dX4_input_7 (by decide) ?_
    refine lv_icmp_gt (tgt := 16) hx hb dX4_input_9 (by decide) (fun q2 => ?_) (fun q2 => ?_)
    all_goals rw [i_gt _ (by decide)] at q2
    · refine lv_iconst (v := nI 0) hx hb dX4_input_16 (by decide) ?_
      refine lv_iload_n hx hb dX4_input_17 rfl (lv_at hl 1 rfl) ?_
      refine lv_iconst (v := nI 0) hx hb dX4_input_18 (by decide) ?_
      refine lv_iconst (v := nI 0) hx hb dX4_input_19 (by decide) ?_
      refine lv_iconst (v := nI 0) hx hb dX4_input_20 (by decide) ?_
      refine lv_iconst (v := nI 0) hx hb dX4_input_21 (by decide) ?_
      refine lv_iload_n hx hb dX4_input_22 rfl (lv_at hl 1 rfl) ?_
      refine c_virt (As := [.int (nI 0), .int xw, .int (nI 0), .int (nI 0), .int (nI 0), .int (nI 0), .int xw]) (rest := []) (wc := [eo hm 4 [.int (nI cd), .int (nI n), .int (nI wg), .ref ad.1, .ref ad.2.1, .ref ad.2.2.1, .ref ad.2.2.2.1, .ref ad.2.2.2.2.1, .ref ad.2.2.2.2.2], ey Z ad.1 4000 K, ea Z ad.2.1 4000 F, ea Z ad.2.2.1 4000 S, ea Z ad.2.2.2.1 4000 T, ea Z ad.2.2.2.2.1 4000 D, el Z ad.2.2.2.2.2 4000 V]) (wr := []) (nl := 0) hx hb hml hown hts hK hG rfl hA hl (k_madd0 l Z hm ad cd n wg K F S T D V _ _ _ _ _ _) hW trivial (hW.at 0 rfl) rfl rfl tb_816 tb_818 ts_10 tb_7 tb_819 (nA := 7) (by decide +kernel) rfl ⟨by omega, by omega⟩ ⟨by omega, by omega⟩ rfl (Nat.le_of_ble_eq_true rfl) dX4_input_23 (fun v w1 H1 L1 hp hW hzz hkk hdd => ?_)
      obtain ⟨rfl, rfl⟩ := hp
      clear hzz hkk hdd
      generalize H1 = H at hW  ⊢
      generalize L1 = locs at hW ⊢
      have hW : Wd Z A s.heap ([eo hm 4 [.int (nI 1), .int (nI n), .int (nI wg), .ref ad.1, .ref ad.2.1, .ref ad.2.2.1, .ref ad.2.2.2.1, .ref ad.2.2.2.2.1, .ref ad.2.2.2.2.2], ey Z ad.1 4000 K, ea Z ad.2.1 4000 F, ea Z ad.2.2.1 4000 S, ea Z ad.2.2.2.1 4000 T, ea Z ad.2.2.2.2.1 4000 D, el Z ad.2.2.2.2.2 4000 V]) _ _ := hW
      refine W.eq (g2 := F0 m 26 ls [.int (nI 0)]) rfl ?_
      exact e_int hx hb hr hlk hAe hW (by omega) (by omega) dX4_input_26 ⟨⟨_, rfl⟩, rfl⟩
    · exfalso; omega
set_option maxHeartbeats 4000000 in
set_option maxRecDepth 100000 in
theorem k_minput1 (l : Launch) (Z : Zt) (hm : Nat) (ad : MA) (cd n wg : Nat) (K F S T D V : Nat → Nat) (w : Nat) (h1 : 1 ≤ w) (h2 : w ≤ 64) (hn : n < 4000) (hwg : wg ≤ 100000) (hg : w + wg ≤ 100000)  : MC l yX4_input cX4_input 2 (some .int) 1 60 (0) (0) Z (mw Z hm ad cd n wg K F S T D V) (fun _ => True) [.ref hm, .int (nI w)] (fun r w1 => r = some (.int (nI n)) ∧ w1 = mw Z hm ad 0 (n + 1) (wg + w) (up K n 0) (up F n 0) (up S n 0) (up T n 0) (up D n w) (up V n 0)) := by
  refine mc_of (by decide) (Nat.le_of_ble_eq_true rfl) (fun p e s m below meth c ls A hx hb hr hts hown hlk hml hin hK hG hW hA hAe hro hl R hRf hRc hRs hRl => ?_)
  have hl : lv_has ls 2 [(0, .ref hm), (1, .int (nI w))] := hl
  have hW : Wd Z A s.heap ([eo hm 4 [.int (nI cd), .int (nI n), .int (nI wg), .ref ad.1, .ref ad.2.1, .ref ad.2.2.1, .ref ad.2.2.2.1, .ref ad.2.2.2.2.1, .ref ad.2.2.2.2.2], ey Z ad.1 4000 K, ea Z ad.2.1 4000 F, ea Z ad.2.2.1 4000 S, ea Z ad.2.2.2.1 4000 T, ea Z ad.2.2.2.2.1 4000 D, el Z ad.2.2.2.2.2 4000 V]) _ _ := hW
  refine lv_aload_n hx hb dX4_input_0 rfl (lv_at hl 0 rfl) ?_
  refine lv_iload_n hx hb dX4_input_1 rfl (lv_at hl 1 rfl) ?_
  refine lv_iconst (v := nI 1) hx hb dX4_input_2 (by decide) ?_
  refine n_lt_f (tgt := 16) hx hb (by omega) (by omega) dX4_input_3 (by decide) ?_
  refine lv_iload_n hx hb dX4_input_6 rfl (lv_at hl 1 rfl) ?_
  refine lv_bipush (v := nI 64) hx hb dX4_input_7 (by decide) ?_
  refine n_gt_f (tgt := 16) hx hb (by omega) (by omega) dX4_input_9 (by decide) ?_
  refine lv_iconst (v := nI 1) hx hb dX4_input_12 (by decide) ?_
  refine lv_goto (tgt := 17) hx hb dX4_input_13 (by decide) ?_
  refine lv_iload_n hx hb dX4_input_17 rfl (lv_at hl 1 rfl) ?_
  refine lv_iconst (v := nI 0) hx hb dX4_input_18 (by decide) ?_
  refine lv_iconst (v := nI 0) hx hb dX4_input_19 (by decide) ?_
  refine lv_iconst (v := nI 0) hx hb dX4_input_20 (by decide) ?_
  refine lv_iconst (v := nI 0) hx hb dX4_input_21 (by decide) ?_
  refine lv_iload_n hx hb dX4_input_22 rfl (lv_at hl 1 rfl) ?_
  refine c_virt (As := [.int (nI 1), .int (nI w), .int (nI 0), .int (nI 0), .int (nI 0), .int (nI 0), .int (nI w)]) (rest := []) (wc := [eo hm 4 [.int (nI cd), .int (nI n), .int (nI wg), .ref ad.1, .ref ad.2.1, .ref ad.2.2.1, .ref ad.2.2.2.1, .ref ad.2.2.2.2.1, .ref ad.2.2.2.2.2], ey Z ad.1 4000 K, ea Z ad.2.1 4000 F, ea Z ad.2.2.1 4000 S, ea Z ad.2.2.2.1 4000 T, ea Z ad.2.2.2.2.1 4000 D, el Z ad.2.2.2.2.2 4000 V]) (wr := []) (nl := 0) hx hb hml hown hts hK hG rfl hA hl (k_madd1 l Z hm ad cd n wg K F S T D V w 0 0 0 0 w hn (by omega) (by omega)) hW trivial (hW.at 0 rfl) rfl rfl tb_816 tb_818 ts_10 tb_7 tb_819 (nA := 7) (by decide +kernel) rfl ⟨by omega, by omega⟩ ⟨by omega, by omega⟩ rfl (Nat.le_of_ble_eq_true rfl) dX4_input_23 (fun v w1 H1 L1 hp hW hzz hkk hdd => ?_)
  obtain ⟨rfl, rfl⟩ := hp
  clear hzz hkk hdd
  generalize H1 = H at hW  ⊢
  generalize L1 = locs at hW ⊢
  have hW : Wd Z A s.heap ([eo hm 4 [.int (nI 0), .int (nI (n + 1)), .int (nI (wg + w)), .ref ad.1, .ref ad.2.1, .ref ad.2.2.1, .ref ad.2.2.2.1, .ref ad.2.2.2.2.1, .ref ad.2.2.2.2.2], ey Z ad.1 4000 (up K n 0), ea Z ad.2.1 4000 (up F n 0), ea Z ad.2.2.1 4000 (up S n 0), ea Z ad.2.2.2.1 4000 (up T n 0), ea Z ad.2.2.2.2.1 4000 (up D n w), el Z ad.2.2.2.2.2 4000 (up V n 0)]) _ _ := hW
  refine W.eq (g2 := F0 m 26 ls [.int (nI n)]) rfl ?_
  exact e_int hx hb hr hlk hAe hW (by omega) (by omega) dX4_input_26 ⟨rfl, rfl⟩
set_option maxHeartbeats 4000000 in
set_option maxRecDepth 100000 in
theorem k_minput2 (l : Launch) (Z : Zt) (hm : Nat) (ad : MA) (cd n wg : Nat) (K F S T D V : Nat → Nat) (w : Nat) (h1 : 1 ≤ w) (h2 : w ≤ 64) (hn : n < 4000) (hwg : wg ≤ 100000) (hg : ¬ w + wg ≤ 100000)  : MC l yX4_input cX4_input 2 (some .int) 1 60 (0) (0) Z (mw Z hm ad cd n wg K F S T D V) (fun _ => True) [.ref hm, .int (nI w)] (fun r w1 => (∃ r0 : Int32, r = some (.int r0)) ∧ w1 = mw Z hm ad 2 n wg K F S T D V) := by
  refine mc_of (by decide) (Nat.le_of_ble_eq_true rfl) (fun p e s m below meth c ls A hx hb hr hts hown hlk hml hin hK hG hW hA hAe hro hl R hRf hRc hRs hRl => ?_)
  have hl : lv_has ls 2 [(0, .ref hm), (1, .int (nI w))] := hl
  have hW : Wd Z A s.heap ([eo hm 4 [.int (nI cd), .int (nI n), .int (nI wg), .ref ad.1, .ref ad.2.1, .ref ad.2.2.1, .ref ad.2.2.2.1, .ref ad.2.2.2.2.1, .ref ad.2.2.2.2.2], ey Z ad.1 4000 K, ea Z ad.2.1 4000 F, ea Z ad.2.2.1 4000 S, ea Z ad.2.2.2.1 4000 T, ea Z ad.2.2.2.2.1 4000 D, el Z ad.2.2.2.2.2 4000 V]) _ _ := hW
  refine lv_aload_n hx hb dX4_input_0 rfl (lv_at hl 0 rfl) ?_
  refine lv_iload_n hx hb dX4_input_1 rfl (lv_at hl 1 rfl) ?_
  refine lv_iconst (v := nI 1) hx hb dX4_input_2 (by decide) ?_
  refine n_lt_f (tgt := 16) hx hb (by omega) (by omega) dX4_input_3 (by decide) ?_
  refine lv_iload_n hx hb dX4_input_6 rfl (lv_at hl 1 rfl) ?_
  refine lv_bipush (v := nI 64) hx hb dX4_input_7 (by decide) ?_
  refine n_gt_f (tgt := 16) hx hb (by omega) (by omega) dX4_input_9 (by decide) ?_
  refine lv_iconst (v := nI 1) hx hb dX4_input_12 (by decide) ?_
  refine lv_goto (tgt := 17) hx hb dX4_input_13 (by decide) ?_
  refine lv_iload_n hx hb dX4_input_17 rfl (lv_at hl 1 rfl) ?_
  refine lv_iconst (v := nI 0) hx hb dX4_input_18 (by decide) ?_
  refine lv_iconst (v := nI 0) hx hb dX4_input_19 (by decide) ?_
  refine lv_iconst (v := nI 0) hx hb dX4_input_20 (by decide) ?_
  refine lv_iconst (v := nI 0) hx hb dX4_input_21 (by decide) ?_
  refine lv_iload_n hx hb dX4_input_22 rfl (lv_at hl 1 rfl) ?_
  refine c_virt (As := [.int (nI 1), .int (nI w), .int (nI 0), .int (nI 0), .int (nI 0), .int (nI 0), .int (nI w)]) (rest := []) (wc := [eo hm 4 [.int (nI cd), .int (nI n), .int (nI wg), .ref ad.1, .ref ad.2.1, .ref ad.2.2.1, .ref ad.2.2.2.1, .ref ad.2.2.2.2.1, .ref ad.2.2.2.2.2], ey Z ad.1 4000 K, ea Z ad.2.1 4000 F, ea Z ad.2.2.1 4000 S, ea Z ad.2.2.2.1 4000 T, ea Z ad.2.2.2.2.1 4000 D, el Z ad.2.2.2.2.2 4000 V]) (wr := []) (nl := 0) hx hb hml hown hts hK hG rfl hA hl (k_madd2 l Z hm ad cd n wg K F S T D V w _ _ _ _ _ hn (by omega) (by omega)) hW trivial (hW.at 0 rfl) rfl rfl tb_816 tb_818 ts_10 tb_7 tb_819 (nA := 7) (by decide +kernel) rfl ⟨by omega, by omega⟩ ⟨by omega, by omega⟩ rfl (Nat.le_of_ble_eq_true rfl) dX4_input_23 (fun v w1 H1 L1 hp hW hzz hkk hdd => ?_)
  obtain ⟨rfl, rfl⟩ := hp
  clear hzz hkk hdd
  generalize H1 = H at hW  ⊢
  generalize L1 = locs at hW ⊢
  have hW : Wd Z A s.heap ([eo hm 4 [.int (nI 2), .int (nI n), .int (nI wg), .ref ad.1, .ref ad.2.1, .ref ad.2.2.1, .ref ad.2.2.2.1, .ref ad.2.2.2.2.1, .ref ad.2.2.2.2.2], ey Z ad.1 4000 K, ea Z ad.2.1 4000 F, ea Z ad.2.2.1 4000 S, ea Z ad.2.2.2.1 4000 T, ea Z ad.2.2.2.2.1 4000 D, el Z ad.2.2.2.2.2 4000 V]) _ _ := hW
  refine W.eq (g2 := F0 m 26 ls [.int (nI 0)]) rfl ?_
  exact e_int hx hb hr hlk hAe hW (by omega) (by omega) dX4_input_26 ⟨⟨_, rfl⟩, rfl⟩
set_option maxHeartbeats 4000000 in
set_option maxRecDepth 100000 in
theorem k_mconstant0 (l : Launch) (Z : Zt) (hm : Nat) (ad : MA) (cd n wg : Nat) (K F S T D V : Nat → Nat) (xw : Int32) (V0 : Int64) (h : ¬ wid xw) : MC l yX4_constant cX4_constant 5 (some .int) 1 60 (0) (0) Z (mw Z hm ad cd n wg K F S T D V) (fun _ => True) [.ref hm, .int xw, .long V0] (fun r w1 => (∃ r0 : Int32, r = some (.int r0)) ∧ w1 = mw Z hm ad 1 n wg K F S T D V) := by
  refine mc_of (by decide) (Nat.le_of_ble_eq_true rfl) (fun p e s m below meth c ls A hx hb hr hts hown hlk hml hin hK hG hW hA hAe hro hl R hRf hRc hRs hRl => ?_)
  have hl : lv_has ls 5 [(0, .ref hm), (1, .int xw), (2, .long V0)] := hl
  have hW : Wd Z A s.heap ([eo hm 4 [.int (nI cd), .int (nI n), .int (nI wg), .ref ad.1, .ref ad.2.1, .ref ad.2.2.1, .ref ad.2.2.2.1, .ref ad.2.2.2.2.1, .ref ad.2.2.2.2.2], ey Z ad.1 4000 K, ea Z ad.2.1 4000 F, ea Z ad.2.2.1 4000 S, ea Z ad.2.2.2.1 4000 T, ea Z ad.2.2.2.2.1 4000 D, el Z ad.2.2.2.2.2 4000 V]) _ _ := hW
  rw [wid_iff] at h
  refine lv_aload_n hx hb dX4_constant_0 rfl (lv_at hl 0 rfl) ?_
  refine lv_iload_n hx hb dX4_constant_1 rfl (lv_at hl 1 rfl) ?_
  refine lv_iconst (v := nI 1) hx hb dX4_constant_2 (by decide) ?_
  refine lv_icmp_lt (tgt := 16) hx hb dX4_constant_3 (by decide) (fun q1 => ?_) (fun q1 => ?_)
  all_goals rw [i_lt _ (by decide)] at q1
  · refine lv_iconst (v := nI 0) hx hb dX4_constant_16 (by decide) ?_
    refine lv_iload_n hx hb dX4_constant_17 rfl (lv_at hl 1 rfl) ?_
    refine lv_iconst (v := nI 1) hx hb dX4_constant_18 (by decide) ?_
    refine lv_iconst (v := nI 0) hx hb dX4_constant_19 (by decide) ?_
    refine lv_iconst (v := nI 0) hx hb dX4_constant_20 (by decide) ?_
    refine lv_iconst (v := nI 0) hx hb dX4_constant_21 (by decide) ?_
    refine lv_iload_n hx hb dX4_constant_22 rfl (lv_at hl 1 rfl) ?_
    refine c_virt (As := [.int (nI 0), .int xw, .int (nI 1), .int (nI 0), .int (nI 0), .int (nI 0), .int xw]) (rest := []) (wc := [eo hm 4 [.int (nI cd), .int (nI n), .int (nI wg), .ref ad.1, .ref ad.2.1, .ref ad.2.2.1, .ref ad.2.2.2.1, .ref ad.2.2.2.2.1, .ref ad.2.2.2.2.2], ey Z ad.1 4000 K, ea Z ad.2.1 4000 F, ea Z ad.2.2.1 4000 S, ea Z ad.2.2.2.1 4000 T, ea Z ad.2.2.2.2.1 4000 D, el Z ad.2.2.2.2.2 4000 V]) (wr := []) (nl := 0) hx hb hml hown hts hK hG rfl hA hl (k_madd0 l Z hm ad cd n wg K F S T D V _ _ _ _ _ _) hW trivial (hW.at 0 rfl) rfl rfl tb_816 tb_818 ts_10 tb_7 tb_819 (nA := 7) (by decide +kernel) rfl ⟨by omega, by omega⟩ ⟨by omega, by omega⟩ rfl (Nat.le_of_ble_eq_true rfl) dX4_constant_23 (fun v w1 H1 L1 hp hW hzz hkk hdd => ?_)
    obtain ⟨rfl, rfl⟩ := hp
    clear hzz hkk hdd
    generalize H1 = H at hW  ⊢
    generalize L1 = locs at hW ⊢
    have hW : Wd Z A s.heap ([eo hm 4 [.int (nI 1), .int (nI n), .int (nI wg), .ref ad.1, .ref ad.2.1, .ref ad.2.2.1, .ref ad.2.2.2.1, .ref ad.2.2.2.2.1, .ref ad.2.2.2.2.2], ey Z ad.1 4000 K, ea Z ad.2.1 4000 F, ea Z ad.2.2.1 4000 S, ea Z ad.2.2.2.1 4000 T, ea Z ad.2.2.2.2.1 4000 D, el Z ad.2.2.2.2.2 4000 V]) _ _ := hW
    refine W.eq (g2 := F0 m 26 ls [.int (nI 0)]) rfl ?_
    refine lv_istore (lv' := [(4, .int (nI 0)), (0, .ref hm), (1, .int xw), (2, .long V0)]) hx hb dX4_constant_26 hl (by decide) rfl (fun ls hl => ?_)
    refine lv_aload_n hx hb dX4_constant_28 rfl (lv_at hl 1 rfl) ?_
    refine r_get hx hb hts hown hK (hW.at 0 rfl) rfl in_X4 0 (by decide) tb_779 (fun _ h => h) rfl dX4_constant_29 ?_
    refine n_zne_t (tgt := 48) hx hb (by omega) (by omega) dX4_constant_32 (by decide) ?_
    refine lv_iload hx hb dX4_constant_48 (lv_at hl 0 rfl) ?_
    exact e_int hx hb hr hlk hAe hW (by omega) (by omega) dX4_constant_50 ⟨⟨_, rfl⟩, rfl⟩
  · refine lv_iload_n hx hb dX4_constant_6 rfl (lv_at hl 1 rfl) ?_
    refine lv_bipush (v := nI 64) hx hb dX4_constant_7 (by decide) ?_
    refine lv_icmp_gt (tgt := 16) hx hb dX4_constant_9 (by decide) (fun q2 => ?_) (fun q2 => ?_)
    all_goals rw [i_gt _ (by decide)] at q2
    · refine lv_iconst (v := nI 0) hx hb dX4_constant_16 (by decide) ?_
      refine lv_iload_n hx hb dX4_constant_17 rfl (lv_at hl 1 rfl) ?_
      refine lv_iconst (v := nI 1) hx hb dX4_constant_18 (by decide) ?_
      refine lv_iconst (v := nI 0) hx hb dX4_constant_19 (by decide) ?_
      refine lv_iconst (v := nI 0) hx hb dX4_constant_20 (by decide) ?_
      refine lv_iconst (v := nI 0) hx hb dX4_constant_21 (by decide) ?_
      refine lv_iload_n hx hb dX4_constant_22 rfl (lv_at hl 1 rfl) ?_
      refine c_virt (As := [.int (nI 0), .int xw, .int (nI 1), .int (nI 0), .int (nI 0), .int (nI 0), .int xw]) (rest := []) (wc := [eo hm 4 [.int (nI cd), .int (nI n), .int (nI wg), .ref ad.1, .ref ad.2.1, .ref ad.2.2.1, .ref ad.2.2.2.1, .ref ad.2.2.2.2.1, .ref ad.2.2.2.2.2], ey Z ad.1 4000 K, ea Z ad.2.1 4000 F, ea Z ad.2.2.1 4000 S, ea Z ad.2.2.2.1 4000 T, ea Z ad.2.2.2.2.1 4000 D, el Z ad.2.2.2.2.2 4000 V]) (wr := []) (nl := 0) hx hb hml hown hts hK hG rfl hA hl (k_madd0 l Z hm ad cd n wg K F S T D V _ _ _ _ _ _) hW trivial (hW.at 0 rfl) rfl rfl tb_816 tb_818 ts_10 tb_7 tb_819 (nA := 7) (by decide +kernel) rfl ⟨by omega, by omega⟩ ⟨by omega, by omega⟩ rfl (Nat.le_of_ble_eq_true rfl) dX4_constant_23 (fun v w1 H1 L1 hp hW hzz hkk hdd => ?_)
      obtain ⟨rfl, rfl⟩ := hp
      clear hzz hkk hdd
      generalize H1 = H at hW  ⊢
      generalize L1 = locs at hW ⊢
      have hW : Wd Z A s.heap ([eo hm 4 [.int (nI 1), .int (nI n), .int (nI wg), .ref ad.1, .ref ad.2.1, .ref ad.2.2.1, .ref ad.2.2.2.1, .ref ad.2.2.2.2.1, .ref ad.2.2.2.2.2], ey Z ad.1 4000 K, ea Z ad.2.1 4000 F, ea Z ad.2.2.1 4000 S, ea Z ad.2.2.2.1 4000 T, ea Z ad.2.2.2.2.1 4000 D, el Z ad.2.2.2.2.2 4000 V]) _ _ := hW
      refine W.eq (g2 := F0 m 26 ls [.int (nI 0)]) rfl ?_
      refine lv_istore (lv' := [(4, .int (nI 0)), (0, .ref hm), (1, .int xw), (2, .long V0)]) hx hb dX4_constant_26 hl (by decide) rfl (fun ls hl => ?_)
      refine lv_aload_n hx hb dX4_constant_28 rfl (lv_at hl 1 rfl) ?_
      refine r_get hx hb hts hown hK (hW.at 0 rfl) rfl in_X4 0 (by decide) tb_779 (fun _ h => h) rfl dX4_constant_29 ?_
      refine n_zne_t (tgt := 48) hx hb (by omega) (by omega) dX4_constant_32 (by decide) ?_
      refine lv_iload hx hb dX4_constant_48 (lv_at hl 0 rfl) ?_
      exact e_int hx hb hr hlk hAe hW (by omega) (by omega) dX4_constant_50 ⟨⟨_, rfl⟩, rfl⟩
    · exfalso; omega
set_option maxHeartbeats 4000000 in
set_option maxRecDepth 100000 in
theorem k_mconstant1 (l : Launch) (Z : Zt) (hm : Nat) (ad : MA) (cd n wg : Nat) (K F S T D V : Nat → Nat) (w : Nat) (V0 : Int64) (h1 : 1 ≤ w) (h2 : w ≤ 64) (hn : n < 4000) (hwg : wg ≤ 100000) (hg : w + wg ≤ 100000)  : MC l yX4_constant cX4_constant 5 (some .int) 1 60 (0) (0) Z (mw Z hm ad cd n wg K F S T D V) (fun _ => True) [.ref hm, .int (nI w), .long V0] (fun r w1 => r = some (.int (nI n)) ∧ w1 = mw Z hm ad 0 (n + 1) (wg + w) (up K n 1) (up F n 0) (up S n 0) (up T n 0) (up D n w) (up V n (uN V0 % 2 ^ w))) := by
  refine mc_of (by decide) (Nat.le_of_ble_eq_true rfl) (fun p e s m below meth c ls A hx hb hr hts hown hlk hml hin hK hG hW hA hAe hro hl R hRf hRc hRs hRl => ?_)
  have hl : lv_has ls 5 [(0, .ref hm), (1, .int (nI w)), (2, .long V0)] := hl
  have hW : Wd Z A s.heap ([eo hm 4 [.int (nI cd), .int (nI n), .int (nI wg), .ref ad.1, .ref ad.2.1, .ref ad.2.2.1, .ref ad.2.2.2.1, .ref ad.2.2.2.2.1, .ref ad.2.2.2.2.2], ey Z ad.1 4000 K, ea Z ad.2.1 4000 F, ea Z ad.2.2.1 4000 S, ea Z ad.2.2.2.1 4000 T, ea Z ad.2.2.2.2.1 4000 D, el Z ad.2.2.2.2.2 4000 V]) _ _ := hW
  refine lv_aload_n hx hb dX4_constant_0 rfl (lv_at hl 0 rfl) ?_
  refine lv_iload_n hx hb dX4_constant_1 rfl (lv_at hl 1 rfl) ?_
  refine lv_iconst (v := nI 1) hx hb dX4_constant_2 (by decide) ?_
  refine n_lt_f (tgt := 16) hx hb (by omega) (by omega) dX4_constant_3 (by decide) ?_
  refine lv_iload_n hx hb dX4_constant_6 rfl (lv_at hl 1 rfl) ?_
  refine lv_bipush (v := nI 64) hx hb dX4_constant_7 (by decide) ?_
  refine n_gt_f (tgt := 16) hx hb (by omega) (by omega) dX4_constant_9 (by decide) ?_
  refine lv_iconst (v := nI 1) hx hb dX4_constant_12 (by decide) ?_
  refine lv_goto (tgt := 17) hx hb dX4_constant_13 (by decide) ?_
  refine lv_iload_n hx hb dX4_constant_17 rfl (lv_at hl 1 rfl) ?_
  refine lv_iconst (v := nI 1) hx hb dX4_constant_18 (by decide) ?_
  refine lv_iconst (v := nI 0) hx hb dX4_constant_19 (by decide) ?_
  refine lv_iconst (v := nI 0) hx hb dX4_constant_20 (by decide) ?_
  refine lv_iconst (v := nI 0) hx hb dX4_constant_21 (by decide) ?_
  refine lv_iload_n hx hb dX4_constant_22 rfl (lv_at hl 1 rfl) ?_
  refine c_virt (As := [.int (nI 1), .int (nI w), .int (nI 1), .int (nI 0), .int (nI 0), .int (nI 0), .int (nI w)]) (rest := []) (wc := [eo hm 4 [.int (nI cd), .int (nI n), .int (nI wg), .ref ad.1, .ref ad.2.1, .ref ad.2.2.1, .ref ad.2.2.2.1, .ref ad.2.2.2.2.1, .ref ad.2.2.2.2.2], ey Z ad.1 4000 K, ea Z ad.2.1 4000 F, ea Z ad.2.2.1 4000 S, ea Z ad.2.2.2.1 4000 T, ea Z ad.2.2.2.2.1 4000 D, el Z ad.2.2.2.2.2 4000 V]) (wr := []) (nl := 0) hx hb hml hown hts hK hG rfl hA hl (k_madd1 l Z hm ad cd n wg K F S T D V w 1 0 0 0 w hn (by omega) (by omega)) hW trivial (hW.at 0 rfl) rfl rfl tb_816 tb_818 ts_10 tb_7 tb_819 (nA := 7) (by decide +kernel) rfl ⟨by omega, by omega⟩ ⟨by omega, by omega⟩ rfl (Nat.le_of_ble_eq_true rfl) dX4_constant_23 (fun v w1 H1 L1 hp hW hzz hkk hdd => ?_)
  obtain ⟨rfl, rfl⟩ := hp
  clear hzz hkk hdd
  generalize H1 = H at hW  ⊢
  generalize L1 = locs at hW ⊢
  have hW : Wd Z A s.heap ([eo hm 4 [.int (nI 0), .int (nI (n + 1)), .int (nI (wg + w)), .ref ad.1, .ref ad.2.1, .ref ad.2.2.1, .ref ad.2.2.2.1, .ref ad.2.2.2.2.1, .ref ad.2.2.2.2.2], ey Z ad.1 4000 (up K n 1), ea Z ad.2.1 4000 (up F n 0), ea Z ad.2.2.1 4000 (up S n 0), ea Z ad.2.2.2.1 4000 (up T n 0), ea Z ad.2.2.2.2.1 4000 (up D n w), el Z ad.2.2.2.2.2 4000 (up V n 0)]) _ _ := hW
  refine W.eq (g2 := F0 m 26 ls [.int (nI n)]) rfl ?_
  refine lv_istore (lv' := [(4, .int (nI n)), (0, .ref hm), (1, .int (nI w)), (2, .long V0)]) hx hb dX4_constant_26 hl (by decide) rfl (fun ls hl => ?_)
  refine lv_aload_n hx hb dX4_constant_28 rfl (lv_at hl 1 rfl) ?_
  refine r_get hx hb hts hown hK (hW.at 0 rfl) rfl in_X4 0 (by decide) tb_779 (fun _ h => h) rfl dX4_constant_29 ?_
  refine n_zne_f (tgt := 48) hx hb rfl dX4_constant_32 (by decide) ?_
  refine lv_aload_n hx hb dX4_constant_35 rfl (lv_at hl 1 rfl) ?_
  refine r_get hx hb hts hown hK (hW.at 0 rfl) rfl in_X4 8 (by decide) tb_787 (fun _ h => h) rfl dX4_constant_36 ?_
  refine lv_iload hx hb dX4_constant_39 (lv_at hl 0 rfl) ?_
  refine lv_lload_n hx hb dX4_constant_41 rfl (lv_at hl 3 rfl) ?_
  refine lv_iload_n hx hb dX4_constant_42 rfl (lv_at hl 2 rfl) ?_
  refine c_stat (As := [.int (nI w)]) (rest := [.long V0, .int (nI n), .ref ad.2.2.2.2.2]) (wc := []) (wr := [eo hm 4 [.int (nI 0), .int (nI (n + 1)), .int (nI (wg + w)), .ref ad.1, .ref ad.2.1, .ref ad.2.2.1, .ref ad.2.2.2.1, .ref ad.2.2.2.2.1, .ref ad.2.2.2.2.2], ey Z ad.1 4000 (up K n 1), ea Z ad.2.1 4000 (up F n 0), ea Z ad.2.2.1 4000 (up S n 0), ea Z ad.2.2.2.1 4000 (up T n 0), ea Z ad.2.2.2.2.1 4000 (up D n w), el Z ad.2.2.2.2.2 4000 (up V n 0)]) hx hb hml hown hts hK hG rfl hA hl (k_mask l Z w h2) hW trivial tb_825 tb_826 tb_7 tb_827 (nA := 1) (by decide +kernel) rfl ⟨by omega, by omega⟩ ⟨by omega, by omega⟩ rfl (Nat.le_of_ble_eq_true rfl) dX4_constant_43 (fun v w1 H1 L1 hp hW hzz hkk hdd => ?_)
  obtain ⟨rfl, rfl⟩ := hp
  clear hzz hkk hdd
  generalize H1 = H at hW  ⊢
  generalize L1 = locs at hW ⊢
  have hW : Wd Z A s.heap ([eo hm 4 [.int (nI 0), .int (nI (n + 1)), .int (nI (wg + w)), .ref ad.1, .ref ad.2.1, .ref ad.2.2.1, .ref ad.2.2.2.1, .ref ad.2.2.2.2.1, .ref ad.2.2.2.2.2], ey Z ad.1 4000 (up K n 1), ea Z ad.2.1 4000 (up F n 0), ea Z ad.2.2.1 4000 (up S n 0), ea Z ad.2.2.2.1 4000 (up T n 0), ea Z ad.2.2.2.2.1 4000 (up D n w), el Z ad.2.2.2.2.2 4000 (up V n 0)]) _ _ := hW
  refine W.eq (g2 := F0 m 46 ls [.long (lN (2 ^ w - 1)), .long V0, .int (nI n), .ref ad.2.2.2.2.2]) rfl ?_
  refine lv_land hx hb dX4_constant_46 ?_
  rw [and_mask h2]
  refine r_last (i := n) (x := (uN V0 % 2 ^ w)) hx hb hK hW 6 rfl (by omega) (by omega) dX4_constant_47 (fun H locs hW => ?_)
  have hW : Wd Z A s.heap ([eo hm 4 [.int (nI 0), .int (nI (n + 1)), .int (nI (wg + w)), .ref ad.1, .ref ad.2.1, .ref ad.2.2.1, .ref ad.2.2.2.1, .ref ad.2.2.2.2.1, .ref ad.2.2.2.2.2], ey Z ad.1 4000 (up K n 1), ea Z ad.2.1 4000 (up F n 0), ea Z ad.2.2.1 4000 (up S n 0), ea Z ad.2.2.2.1 4000 (up T n 0), ea Z ad.2.2.2.2.1 4000 (up D n w), el Z ad.2.2.2.2.2 4000 (up (up V n 0) n (uN V0 % 2 ^ w))]) _ _ := hW
  refine lv_iload hx hb dX4_constant_48 (lv_at hl 0 rfl) ?_
  have eu : up (up V n 0) n (uN V0 % 2 ^ w) = up V n (uN V0 % 2 ^ w) := by
    funext j
    by_cases hj : j = n
    · rw [hj, up_s, up_s]
    · rw [up_n _ _ hj, up_n _ _ hj, up_n _ _ hj]
  exact e_int hx hb hr hlk hAe hW (by omega) (by omega) dX4_constant_50 ⟨rfl, by rw [← eu]⟩
set_option maxHeartbeats 4000000 in
set_option maxRecDepth 100000 in
theorem k_mconstant2 (l : Launch) (Z : Zt) (hm : Nat) (ad : MA) (cd n wg : Nat) (K F S T D V : Nat → Nat) (w : Nat) (V0 : Int64) (h1 : 1 ≤ w) (h2 : w ≤ 64) (hn : n < 4000) (hwg : wg ≤ 100000) (hg : ¬ w + wg ≤ 100000)  : MC l yX4_constant cX4_constant 5 (some .int) 1 60 (0) (0) Z (mw Z hm ad cd n wg K F S T D V) (fun _ => True) [.ref hm, .int (nI w), .long V0] (fun r w1 => (∃ r0 : Int32, r = some (.int r0)) ∧ w1 = mw Z hm ad 2 n wg K F S T D V) := by
  refine mc_of (by decide) (Nat.le_of_ble_eq_true rfl) (fun p e s m below meth c ls A hx hb hr hts hown hlk hml hin hK hG hW hA hAe hro hl R hRf hRc hRs hRl => ?_)
  have hl : lv_has ls 5 [(0, .ref hm), (1, .int (nI w)), (2, .long V0)] := hl
  have hW : Wd Z A s.heap ([eo hm 4 [.int (nI cd), .int (nI n), .int (nI wg), .ref ad.1, .ref ad.2.1, .ref ad.2.2.1, .ref ad.2.2.2.1, .ref ad.2.2.2.2.1, .ref ad.2.2.2.2.2], ey Z ad.1 4000 K, ea Z ad.2.1 4000 F, ea Z ad.2.2.1 4000 S, ea Z ad.2.2.2.1 4000 T, ea Z ad.2.2.2.2.1 4000 D, el Z ad.2.2.2.2.2 4000 V]) _ _ := hW
  refine lv_aload_n hx hb dX4_constant_0 rfl (lv_at hl 0 rfl) ?_
  refine lv_iload_n hx hb dX4_constant_1 rfl (lv_at hl 1 rfl) ?_
  refine lv_iconst (v := nI 1) hx hb dX4_constant_2 (by decide) ?_
  refine n_lt_f (tgt := 16) hx hb (by omega) (by omega) dX4_constant_3 (by decide) ?_
  refine lv_iload_n hx hb dX4_constant_6 rfl (lv_at hl 1 rfl) ?_
  refine lv_bipush (v := nI 64) hx hb dX4_constant_7 (by decide) ?_
  refine n_gt_f (tgt := 16) hx hb (by omega) (by omega) dX4_constant_9 (by decide) ?_
  refine lv_iconst (v := nI 1) hx hb dX4_constant_12 (by decide) ?_
  refine lv_goto (tgt := 17) hx hb dX4_constant_13 (by decide) ?_
  refine lv_iload_n hx hb dX4_constant_17 rfl (lv_at hl 1 rfl) ?_
  refine lv_iconst (v := nI 1) hx hb dX4_constant_18 (by decide) ?_
  refine lv_iconst (v := nI 0) hx hb dX4_constant_19 (by decide) ?_
  refine lv_iconst (v := nI 0) hx hb dX4_constant_20 (by decide) ?_
  refine lv_iconst (v := nI 0) hx hb dX4_constant_21 (by decide) ?_
  refine lv_iload_n hx hb dX4_constant_22 rfl (lv_at hl 1 rfl) ?_
  refine c_virt (As := [.int (nI 1), .int (nI w), .int (nI 1), .int (nI 0), .int (nI 0), .int (nI 0), .int (nI w)]) (rest := []) (wc := [eo hm 4 [.int (nI cd), .int (nI n), .int (nI wg), .ref ad.1, .ref ad.2.1, .ref ad.2.2.1, .ref ad.2.2.2.1, .ref ad.2.2.2.2.1, .ref ad.2.2.2.2.2], ey Z ad.1 4000 K, ea Z ad.2.1 4000 F, ea Z ad.2.2.1 4000 S, ea Z ad.2.2.2.1 4000 T, ea Z ad.2.2.2.2.1 4000 D, el Z ad.2.2.2.2.2 4000 V]) (wr := []) (nl := 0) hx hb hml hown hts hK hG rfl hA hl (k_madd2 l Z hm ad cd n wg K F S T D V w _ _ _ _ _ hn (by omega) (by omega)) hW trivial (hW.at 0 rfl) rfl rfl tb_816 tb_818 ts_10 tb_7 tb_819 (nA := 7) (by decide +kernel) rfl ⟨by omega, by omega⟩ ⟨by omega, by omega⟩ rfl (Nat.le_of_ble_eq_true rfl) dX4_constant_23 (fun v w1 H1 L1 hp hW hzz hkk hdd => ?_)
  obtain ⟨rfl, rfl⟩ := hp
  clear hzz hkk hdd
  generalize H1 = H at hW  ⊢
  generalize L1 = locs at hW ⊢
  have hW : Wd Z A s.heap ([eo hm 4 [.int (nI 2), .int (nI n), .int (nI wg), .ref ad.1, .ref ad.2.1, .ref ad.2.2.1, .ref ad.2.2.2.1, .ref ad.2.2.2.2.1, .ref ad.2.2.2.2.2], ey Z ad.1 4000 K, ea Z ad.2.1 4000 F, ea Z ad.2.2.1 4000 S, ea Z ad.2.2.2.1 4000 T, ea Z ad.2.2.2.2.1 4000 D, el Z ad.2.2.2.2.2 4000 V]) _ _ := hW
  refine W.eq (g2 := F0 m 26 ls [.int (nI 0)]) rfl ?_
  refine lv_istore (lv' := [(4, .int (nI 0)), (0, .ref hm), (1, .int (nI w)), (2, .long V0)]) hx hb dX4_constant_26 hl (by decide) rfl (fun ls hl => ?_)
  refine lv_aload_n hx hb dX4_constant_28 rfl (lv_at hl 1 rfl) ?_
  refine r_get hx hb hts hown hK (hW.at 0 rfl) rfl in_X4 0 (by decide) tb_779 (fun _ h => h) rfl dX4_constant_29 ?_
  refine n_zne_t (tgt := 48) hx hb (by omega) (by omega) dX4_constant_32 (by decide) ?_
  refine lv_iload hx hb dX4_constant_48 (lv_at hl 0 rfl) ?_
  exact e_int hx hb hr hlk hAe hW (by omega) (by omega) dX4_constant_50 ⟨⟨_, rfl⟩, rfl⟩
set_option maxHeartbeats 4000000 in
set_option maxRecDepth 100000 in
theorem k_mone0 (l : Launch) (Z : Zt) (hm : Nat) (ad : MA) (cd n wg : Nat) (K F S T D V : Nat → Nat) (xk xa : Int32) (h : ¬ ∃ k i, k ≤ 1 ∧ xk = nI k ∧ i < n ∧ xa = nI i) (hn : n < 4000)  : MC l yX4_one cX4_one 5 (some .int) 1 60 (0) (0) Z (mw Z hm ad cd n wg K F S T D V) (fun _ => True) [.ref hm, .int xk, .int xa] (fun r w1 => (∃ r0 : Int32, r = some (.int r0)) ∧ w1 = mw Z hm ad 1 n wg K F S T D V) := by
  refine mc_of (by decide) (Nat.le_of_ble_eq_true rfl) (fun p e s m below meth c ls A hx hb hr hts hown hlk hml hin hK hG hW hA hAe hro hl R hRf hRc hRs hRl => ?_)
  have hl : lv_has ls 5 [(0, .ref hm), (1, .int xk), (2, .int xa)] := hl
  have hW : Wd Z A s.heap ([eo hm 4 [.int (nI cd), .int (nI n), .int (nI wg), .ref ad.1, .ref ad.2.1, .ref ad.2.2.1, .ref ad.2.2.2.1, .ref ad.2.2.2.2.1, .ref ad.2.2.2.2.2], ey Z ad.1 4000 K, ea Z ad.2.1 4000 F, ea Z ad.2.2.1 4000 S, ea Z ad.2.2.2.1 4000 T, ea Z ad.2.2.2.2.1 4000 D, el Z ad.2.2.2.2.2 4000 V]) _ _ := hW
  refine lv_iload_n hx hb dX4_one_0 rfl (lv_at hl 1 rfl) ?_
  by_cases hk : knd xk 1
  · obtain ⟨k, hk1, rfl⟩ := hk
    have ha : ¬ vix xa n := fun ⟨i, hi, e⟩ => h ⟨k, i, hk1, rfl, hi, e⟩
    rcases (show k = 0 ∨ k = 1 by omega) with rfl | rfl
    · refine n_zeq_t (tgt := 9) hx hb rfl dX4_one_1 (by decide) ?_
      refine lv_aload_n hx hb dX4_one_9 rfl (lv_at hl 0 rfl) ?_
      refine lv_iload_n hx hb dX4_one_10 rfl (lv_at hl 2 rfl) ?_
      refine c_virt (As := [.int xa]) (rest := []) (wc := [eo hm 4 [.int (nI cd), .int (nI n), .int (nI wg), .ref ad.1, .ref ad.2.1, .ref ad.2.2.1, .ref ad.2.2.2.1, .ref ad.2.2.2.2.1, .ref ad.2.2.2.2.2], ey Z ad.1 4000 K, ea Z ad.2.1 4000 F, ea Z ad.2.2.1 4000 S, ea Z ad.2.2.2.1 4000 T, ea Z ad.2.2.2.2.1 4000 D, el Z ad.2.2.2.2.2 4000 V]) (wr := []) (nl := 0) hx hb hml hown hts hK hG rfl hA hl (k_is0 l Z hm ad cd n wg K F S T D V xa ha (by omega)) hW trivial (hW.at 0 rfl) rfl rfl tb_833 tb_835 ts_11 tb_7 tb_836 (nA := 1) (by decide +kernel) rfl ⟨by omega, by omega⟩ ⟨by omega, by omega⟩ rfl (Nat.le_of_ble_eq_true rfl) dX4_one_11 (fun v w1 H1 L1 hp hW hzz hkk hdd => ?_)
      obtain ⟨rfl, rfl⟩ := hp
      clear hzz hkk hdd
      generalize H1 = H at hW  ⊢
      generalize L1 = locs at hW ⊢
      have hW : Wd Z A s.heap ([eo hm 4 [.int (nI cd), .int (nI n), .int (nI wg), .ref ad.1, .ref ad.2.1, .ref ad.2.2.1, .ref ad.2.2.2.1, .ref ad.2.2.2.2.1, .ref ad.2.2.2.2.2], ey Z ad.1 4000 K, ea Z ad.2.1 4000 F, ea Z ad.2.2.1 4000 S, ea Z ad.2.2.2.1 4000 T, ea Z ad.2.2.2.2.1 4000 D, el Z ad.2.2.2.2.2 4000 V]) _ _ := hW
      refine W.eq (g2 := F0 m 14 ls [.int (nI 0)]) rfl ?_
      refine n_zeq_t (tgt := 21) hx hb rfl dX4_one_14 (by decide) ?_
      refine lv_iconst (v := nI 0) hx hb dX4_one_21 (by decide) ?_
      refine lv_istore_n (lv' := [(3, .int (nI 0)), (0, .ref hm), (1, .int (nI 0)), (2, .int xa)]) hx hb dX4_one_22 rfl hl (by decide) rfl (fun ls hl => ?_)
      refine lv_iload_n hx hb dX4_one_23 rfl (lv_at hl 0 rfl) ?_
      refine n_zeq_t (tgt := 36) hx hb rfl dX4_one_24 (by decide) ?_
      refine lv_iconst (v := nI 1) hx hb dX4_one_36 (by decide) ?_
      refine lv_istore (lv' := [(4, .int (nI 1)), (3, .int (nI 0)), (0, .ref hm), (1, .int (nI 0)), (2, .int xa)]) hx hb dX4_one_37 hl (by decide) rfl (fun ls hl => ?_)
      refine lv_aload_n hx hb dX4_one_39 rfl (lv_at hl 2 rfl) ?_
      refine lv_iload_n hx hb dX4_one_40 rfl (lv_at hl 1 rfl) ?_
      refine lv_iload_n hx hb dX4_one_41 rfl (lv_at hl 3 rfl) ?_
      refine n_zne_f (tgt := 50) hx hb rfl dX4_one_42 (by decide) ?_
      refine lv_iload hx hb dX4_one_45 (lv_at hl 0 rfl) ?_
      refine lv_goto (tgt := 55) hx hb dX4_one_47 (by decide) ?_
      refine lv_bipush (v := nI 10) hx hb dX4_one_55 (by decide) ?_
      refine lv_iload_n hx hb dX4_one_57 rfl (lv_at hl 3 rfl) ?_
      refine n_iadd hx hb dX4_one_58 ?_
      refine lv_iload_n hx hb dX4_one_59 rfl (lv_at hl 4 rfl) ?_
      refine lv_iconst (v := nI 0) hx hb dX4_one_60 (by decide) ?_
      refine lv_iconst (v := nI 0) hx hb dX4_one_61 (by decide) ?_
      refine lv_iload hx hb dX4_one_62 (lv_at hl 0 rfl) ?_
      refine c_virt (As := [.int (nI 0), .int (nI 1), .int (nI (10 + 0)), .int xa, .int (nI 0), .int (nI 0), .int (nI 1)]) (rest := []) (wc := [eo hm 4 [.int (nI cd), .int (nI n), .int (nI wg), .ref ad.1, .ref ad.2.1, .ref ad.2.2.1, .ref ad.2.2.2.1, .ref ad.2.2.2.2.1, .ref ad.2.2.2.2.2], ey Z ad.1 4000 K, ea Z ad.2.1 4000 F, ea Z ad.2.2.1 4000 S, ea Z ad.2.2.2.1 4000 T, ea Z ad.2.2.2.2.1 4000 D, el Z ad.2.2.2.2.2 4000 V]) (wr := []) (nl := 0) hx hb hml hown hts hK hG rfl hA hl (k_madd0 l Z hm ad cd n wg K F S T D V _ _ _ _ _ _) hW trivial (hW.at 0 rfl) rfl rfl tb_816 tb_818 ts_10 tb_7 tb_819 (nA := 7) (by decide +kernel) rfl ⟨by omega, by omega⟩ ⟨by omega, by omega⟩ rfl (Nat.le_of_ble_eq_true rfl) dX4_one_64 (fun v w1 H1 L1 hp hW hzz hkk hdd => ?_)
      obtain ⟨rfl, rfl⟩ := hp
      clear hzz hkk hdd
      generalize H1 = H at hW  ⊢
      generalize L1 = locs at hW ⊢
      have hW : Wd Z A s.heap ([eo hm 4 [.int (nI 1), .int (nI n), .int (nI wg), .ref ad.1, .ref ad.2.1, .ref ad.2.2.1, .ref ad.2.2.2.1, .ref ad.2.2.2.2.1, .ref ad.2.2.2.2.2], ey Z ad.1 4000 K, ea Z ad.2.1 4000 F, ea Z ad.2.2.1 4000 S, ea Z ad.2.2.2.1 4000 T, ea Z ad.2.2.2.2.1 4000 D, el Z ad.2.2.2.2.2 4000 V]) _ _ := hW
      refine W.eq (g2 := F0 m 67 ls [.int (nI 0)]) rfl ?_
      exact e_int hx hb hr hlk hAe hW (by omega) (by omega) dX4_one_67 ⟨⟨_, rfl⟩, rfl⟩
    · refine n_zeq_f (tgt := 9) hx hb (by decide) (by omega) dX4_one_1 (by decide) ?_
      refine lv_iload_n hx hb dX4_one_4 rfl (lv_at hl 1 rfl) ?_
      refine lv_iconst (v := nI 1) hx hb dX4_one_5 (by decide) ?_
      refine n_ne_f (tgt := 21) hx hb (by omega) dX4_one_6 (by decide) ?_
      refine lv_aload_n hx hb dX4_one_9 rfl (lv_at hl 0 rfl) ?_
      refine lv_iload_n hx hb dX4_one_10 rfl (lv_at hl 2 rfl) ?_
      refine c_virt (As := [.int xa]) (rest := []) (wc := [eo hm 4 [.int (nI cd), .int (nI n), .int (nI wg), .ref ad.1, .ref ad.2.1, .ref ad.2.2.1, .ref ad.2.2.2.1, .ref ad.2.2.2.2.1, .ref ad.2.2.2.2.2], ey Z ad.1 4000 K, ea Z ad.2.1 4000 F, ea Z ad.2.2.1 4000 S, ea Z ad.2.2.2.1 4000 T, ea Z ad.2.2.2.2.1 4000 D, el Z ad.2.2.2.2.2 4000 V]) (wr := []) (nl := 0) hx hb hml hown hts hK hG rfl hA hl (k_is0 l Z hm ad cd n wg K F S T D V xa ha (by omega)) hW trivial (hW.at 0 rfl) rfl rfl tb_833 tb_835 ts_11 tb_7 tb_836 (nA := 1) (by decide +kernel) rfl ⟨by omega, by omega⟩ ⟨by omega, by omega⟩ rfl (Nat.le_of_ble_eq_true rfl) dX4_one_11 (fun v w1 H1 L1 hp hW hzz hkk hdd => ?_)
      obtain ⟨rfl, rfl⟩ := hp
      clear hzz hkk hdd
      generalize H1 = H at hW  ⊢
      generalize L1 = locs at hW ⊢
      have hW : Wd Z A s.heap ([eo hm 4 [.int (nI cd), .int (nI n), .int (nI wg), .ref ad.1, .ref ad.2.1, .ref ad.2.2.1, .ref ad.2.2.2.1, .ref ad.2.2.2.2.1, .ref ad.2.2.2.2.2], ey Z ad.1 4000 K, ea Z ad.2.1 4000 F, ea Z ad.2.2.1 4000 S, ea Z ad.2.2.2.1 4000 T, ea Z ad.2.2.2.2.1 4000 D, el Z ad.2.2.2.2.2 4000 V]) _ _ := hW
      refine W.eq (g2 := F0 m 14 ls [.int (nI 0)]) rfl ?_
      refine n_zeq_t (tgt := 21) hx hb rfl dX4_one_14 (by decide) ?_
      refine lv_iconst (v := nI 0) hx hb dX4_one_21 (by decide) ?_
      refine lv_istore_n (lv' := [(3, .int (nI 0)), (0, .ref hm), (1, .int (nI 1)), (2, .int xa)]) hx hb dX4_one_22 rfl hl (by decide) rfl (fun ls hl => ?_)
      refine lv_iload_n hx hb dX4_one_23 rfl (lv_at hl 0 rfl) ?_
      refine n_zeq_t (tgt := 36) hx hb rfl dX4_one_24 (by decide) ?_
      refine lv_iconst (v := nI 1) hx hb dX4_one_36 (by decide) ?_
      refine lv_istore (lv' := [(4, .int (nI 1)), (3, .int (nI 0)), (0, .ref hm), (1, .int (nI 1)), (2, .int xa)]) hx hb dX4_one_37 hl (by decide) rfl (fun ls hl => ?_)
      refine lv_aload_n hx hb dX4_one_39 rfl (lv_at hl 2 rfl) ?_
      refine lv_iload_n hx hb dX4_one_40 rfl (lv_at hl 1 rfl) ?_
      refine lv_iload_n hx hb dX4_one_41 rfl (lv_at hl 3 rfl) ?_
      refine n_zne_t (tgt := 50) hx hb (by omega) (by omega) dX4_one_42 (by decide) ?_
      refine lv_bipush (v := nI 10) hx hb dX4_one_50 (by decide) ?_
      refine lv_iload hx hb dX4_one_52 (lv_at hl 0 rfl) ?_
      refine n_imul hx hb dX4_one_54 ?_
      refine lv_bipush (v := nI 10) hx hb dX4_one_55 (by decide) ?_
      refine lv_iload_n hx hb dX4_one_57 rfl (lv_at hl 3 rfl) ?_
      refine n_iadd hx hb dX4_one_58 ?_
      refine lv_iload_n hx hb dX4_one_59 rfl (lv_at hl 4 rfl) ?_
      refine lv_iconst (v := nI 0) hx hb dX4_one_60 (by decide) ?_
      refine lv_iconst (v := nI 0) hx hb dX4_one_61 (by decide) ?_
      refine lv_iload hx hb dX4_one_62 (lv_at hl 0 rfl) ?_
      refine c_virt (As := [.int (nI 0), .int (nI (10 * 1)), .int (nI (10 + 1)), .int xa, .int (nI 0), .int (nI 0), .int (nI 1)]) (rest := []) (wc := [eo hm 4 [.int (nI cd), .int (nI n), .int (nI wg), .ref ad.1, .ref ad.2.1, .ref ad.2.2.1, .ref ad.2.2.2.1, .ref ad.2.2.2.2.1, .ref ad.2.2.2.2.2], ey Z ad.1 4000 K, ea Z ad.2.1 4000 F, ea Z ad.2.2.1 4000 S, ea Z ad.2.2.2.1 4000 T, ea Z ad.2.2.2.2.1 4000 D, el Z ad.2.2.2.2.2 4000 V]) (wr := []) (nl := 0) hx hb hml hown hts hK hG rfl hA hl (k_madd0 l Z hm ad cd n wg K F S T D V _ _ _ _ _ _) hW trivial (hW.at 0 rfl) rfl rfl tb_816 tb_818 ts_10 tb_7 tb_819 (nA := 7) (by decide +kernel) rfl ⟨by omega, by omega⟩ ⟨by omega, by omega⟩ rfl (Nat.le_of_ble_eq_true rfl) dX4_one_64 (fun v w1 H1 L1 hp hW hzz hkk hdd => ?_)
      obtain ⟨rfl, rfl⟩ := hp
      clear hzz hkk hdd
      generalize H1 = H at hW  ⊢
      generalize L1 = locs at hW ⊢
      have hW : Wd Z A s.heap ([eo hm 4 [.int (nI 1), .int (nI n), .int (nI wg), .ref ad.1, .ref ad.2.1, .ref ad.2.2.1, .ref ad.2.2.2.1, .ref ad.2.2.2.2.1, .ref ad.2.2.2.2.2], ey Z ad.1 4000 K, ea Z ad.2.1 4000 F, ea Z ad.2.2.1 4000 S, ea Z ad.2.2.2.1 4000 T, ea Z ad.2.2.2.2.1 4000 D, el Z ad.2.2.2.2.2 4000 V]) _ _ := hW
      refine W.eq (g2 := F0 m 67 ls [.int (nI 0)]) rfl ?_
      exact e_int hx hb hr hlk hAe hW (by omega) (by omega) dX4_one_67 ⟨⟨_, rfl⟩, rfl⟩
  · have hz : ¬ xk = 0 := fun q => hk ⟨0, by decide, q⟩
    have ho : ¬ xk = nI 1 := fun q => hk ⟨1, by decide, q⟩
    refine lv_if_eq (tgt := 9) hx hb dX4_one_1 (by decide) (fun q => absurd q hz) (fun _ => ?_)
    refine lv_iload_n hx hb dX4_one_4 rfl (lv_at hl 1 rfl) ?_
    refine lv_iconst (v := nI 1) hx hb dX4_one_5 (by decide) ?_
    refine lv_icmp_ne (tgt := 21) hx hb dX4_one_6 (by decide) (fun _ => ?_) (fun q => absurd q ho)
    refine lv_iconst (v := nI 0) hx hb dX4_one_21 (by decide) ?_
    refine lv_istore_n (lv' := [(3, .int (nI 0)), (0, .ref hm), (1, .int xk), (2, .int xa)]) hx hb dX4_one_22 rfl hl (by decide) rfl (fun ls hl => ?_)
    refine lv_iload_n hx hb dX4_one_23 rfl (lv_at hl 0 rfl) ?_
    refine n_zeq_t (tgt := 36) hx hb rfl dX4_one_24 (by decide) ?_
    refine lv_iconst (v := nI 1) hx hb dX4_one_36 (by decide) ?_
    refine lv_istore (lv' := [(4, .int (nI 1)), (3, .int (nI 0)), (0, .ref hm), (1, .int xk), (2, .int xa)]) hx hb dX4_one_37 hl (by decide) rfl (fun ls hl => ?_)
    refine lv_aload_n hx hb dX4_one_39 rfl (lv_at hl 2 rfl) ?_
    refine lv_iload_n hx hb dX4_one_40 rfl (lv_at hl 1 rfl) ?_
    refine lv_iload_n hx hb dX4_one_41 rfl (lv_at hl 3 rfl) ?_
    refine lv_if_ne (tgt := 50) hx hb dX4_one_42 (by decide) (fun _ => ?_) (fun q => absurd q hz)
    refine lv_bipush (v := nI 10) hx hb dX4_one_50 (by decide) ?_
    refine lv_iload hx hb dX4_one_52 (lv_at hl 0 rfl) ?_
    refine n_imul hx hb dX4_one_54 ?_
    refine lv_bipush (v := nI 10) hx hb dX4_one_55 (by decide) ?_
    refine lv_iload_n hx hb dX4_one_57 rfl (lv_at hl 3 rfl) ?_
    refine lv_iadd hx hb dX4_one_58 ?_
    refine lv_iload_n hx hb dX4_one_59 rfl (lv_at hl 4 rfl) ?_
    refine lv_iconst (v := nI 0) hx hb dX4_one_60 (by decide) ?_
    refine lv_iconst (v := nI 0) hx hb dX4_one_61 (by decide) ?_
    refine lv_iload hx hb dX4_one_62 (lv_at hl 0 rfl) ?_
    refine c_virt (As := [.int (nI 0), .int (nI (10 * 1)), .int ((nI 10) + xk), .int xa, .int (nI 0), .int (nI 0), .int (nI 1)]) (rest := []) (wc := [eo hm 4 [.int (nI cd), .int (nI n), .int (nI wg), .ref ad.1, .ref ad.2.1, .ref ad.2.2.1, .ref ad.2.2.2.1, .ref ad.2.2.2.2.1, .ref ad.2.2.2.2.2], ey Z ad.1 4000 K, ea Z ad.2.1 4000 F, ea Z ad.2.2.1 4000 S, ea Z ad.2.2.2.1 4000 T, ea Z ad.2.2.2.2.1 4000 D, el Z ad.2.2.2.2.2 4000 V]) (wr := []) (nl := 0) hx hb hml hown hts hK hG rfl hA hl (k_madd0 l Z hm ad cd n wg K F S T D V _ _ _ _ _ _) hW trivial (hW.at 0 rfl) rfl rfl tb_816 tb_818 ts_10 tb_7 tb_819 (nA := 7) (by decide +kernel) rfl ⟨by omega, by omega⟩ ⟨by omega, by omega⟩ rfl (Nat.le_of_ble_eq_true rfl) dX4_one_64 (fun v w1 H1 L1 hp hW hzz hkk hdd => ?_)
    obtain ⟨rfl, rfl⟩ := hp
    clear hzz hkk hdd
    generalize H1 = H at hW  ⊢
    generalize L1 = locs at hW ⊢
    have hW : Wd Z A s.heap ([eo hm 4 [.int (nI 1), .int (nI n), .int (nI wg), .ref ad.1, .ref ad.2.1, .ref ad.2.2.1, .ref ad.2.2.2.1, .ref ad.2.2.2.2.1, .ref ad.2.2.2.2.2], ey Z ad.1 4000 K, ea Z ad.2.1 4000 F, ea Z ad.2.2.1 4000 S, ea Z ad.2.2.2.1 4000 T, ea Z ad.2.2.2.2.1 4000 D, el Z ad.2.2.2.2.2 4000 V]) _ _ := hW
    refine W.eq (g2 := F0 m 67 ls [.int (nI 0)]) rfl ?_
    exact e_int hx hb hr hlk hAe hW (by omega) (by omega) dX4_one_67 ⟨⟨_, rfl⟩, rfl⟩
set_option maxHeartbeats 4000000 in
set_option maxRecDepth 100000 in
theorem k_mone1 (l : Launch) (Z : Zt) (hm : Nat) (ad : MA) (cd n wg : Nat) (K F S T D V : Nat → Nat) (k i : Nat) (hk1 : k ≤ 1) (hi : i < n) (hD : ∀ i, i < n → D i ≤ 64) (hn : n < 4000) (hwg : wg ≤ 100000) (hg : g1 k (D i) + wg ≤ 100000)  : MC l yX4_one cX4_one 5 (some .int) 1 60 (0) (0) Z (mw Z hm ad cd n wg K F S T D V) (fun _ => True) [.ref hm, .int (nI k), .int (nI i)] (fun r w1 => r = some (.int (nI n)) ∧ w1 = mw Z hm ad 0 (n + 1) (wg + (g1 k (D i))) (up K n (10 + k)) (up F n i) (up S n 0) (up T n 0) (up D n (D i)) (up V n 0)) := by
  refine mc_of (by decide) (Nat.le_of_ble_eq_true rfl) (fun p e s m below meth c ls A hx hb hr hts hown hlk hml hin hK hG hW hA hAe hro hl R hRf hRc hRs hRl => ?_)
  have hl : lv_has ls 5 [(0, .ref hm), (1, .int (nI k)), (2, .int (nI i))] := hl
  have hW : Wd Z A s.heap ([eo hm 4 [.int (nI cd), .int (nI n), .int (nI wg), .ref ad.1, .ref ad.2.1, .ref ad.2.2.1, .ref ad.2.2.2.1, .ref ad.2.2.2.2.1, .ref ad.2.2.2.2.2], ey Z ad.1 4000 K, ea Z ad.2.1 4000 F, ea Z ad.2.2.1 4000 S, ea Z ad.2.2.2.1 4000 T, ea Z ad.2.2.2.2.1 4000 D, el Z ad.2.2.2.2.2 4000 V]) _ _ := hW
  have hdi := hD i hi
  refine lv_iload_n hx hb dX4_one_0 rfl (lv_at hl 1 rfl) ?_
  rcases (show k = 0 ∨ k = 1 by omega) with rfl | rfl
  · refine n_zeq_t (tgt := 9) hx hb rfl dX4_one_1 (by decide) ?_
    refine lv_aload_n hx hb dX4_one_9 rfl (lv_at hl 0 rfl) ?_
    refine lv_iload_n hx hb dX4_one_10 rfl (lv_at hl 2 rfl) ?_
    refine c_virt (As := [.int (nI i)]) (rest := []) (wc := [eo hm 4 [.int (nI cd), .int (nI n), .int (nI wg), .ref ad.1, .ref ad.2.1, .ref ad.2.2.1, .ref ad.2.2.2.1, .ref ad.2.2.2.2.1, .ref ad.2.2.2.2.2], ey Z ad.1 4000 K, ea Z ad.2.1 4000 F, ea Z ad.2.2.1 4000 S, ea Z ad.2.2.2.1 4000 T, ea Z ad.2.2.2.2.1 4000 D, el Z ad.2.2.2.2.2 4000 V]) (wr := []) (nl := 0) hx hb hml hown hts hK hG rfl hA hl (k_is1 l Z hm ad cd n wg K F S T D V i hi (by omega)) hW trivial (hW.at 0 rfl) rfl rfl tb_833 tb_835 ts_11 tb_7 tb_836 (nA := 1) (by decide +kernel) rfl ⟨by omega, by omega⟩ ⟨by omega, by omega⟩ rfl (Nat.le_of_ble_eq_true rfl) dX4_one_11 (fun v w1 H1 L1 hp hW hzz hkk hdd => ?_)
    obtain ⟨rfl, rfl⟩ := hp
    clear hzz hkk hdd
    generalize H1 = H at hW  ⊢
    generalize L1 = locs at hW ⊢
    have hW : Wd Z A s.heap ([eo hm 4 [.int (nI cd), .int (nI n), .int (nI wg), .ref ad.1, .ref ad.2.1, .ref ad.2.2.1, .ref ad.2.2.2.1, .ref ad.2.2.2.2.1, .ref ad.2.2.2.2.2], ey Z ad.1 4000 K, ea Z ad.2.1 4000 F, ea Z ad.2.2.1 4000 S, ea Z ad.2.2.2.1 4000 T, ea Z ad.2.2.2.2.1 4000 D, el Z ad.2.2.2.2.2 4000 V]) _ _ := hW
    refine W.eq (g2 := F0 m 14 ls [.int (nI 1)]) rfl ?_
    refine n_zeq_f (tgt := 21) hx hb (by decide) (by omega) dX4_one_14 (by decide) ?_
    refine lv_iconst (v := nI 1) hx hb dX4_one_17 (by decide) ?_
    refine lv_goto (tgt := 22) hx hb dX4_one_18 (by decide) ?_
    refine lv_istore_n (lv' := [(3, .int (nI 1)), (0, .ref hm), (1, .int (nI 0)), (2, .int (nI i))]) hx hb dX4_one_22 rfl hl (by decide) rfl (fun ls hl => ?_)
    refine lv_iload_n hx hb dX4_one_23 rfl (lv_at hl 0 rfl) ?_
    refine n_zeq_f (tgt := 36) hx hb (by decide) (by omega) dX4_one_24 (by decide) ?_
    refine lv_aload_n hx hb dX4_one_27 rfl (lv_at hl 1 rfl) ?_
    refine r_get hx hb hts hown hK (hW.at 0 rfl) rfl in_X4 7 (by decide) tb_786 (fun _ h => h) rfl dX4_one_28 ?_
    refine lv_iload_n hx hb dX4_one_31 rfl (lv_at hl 3 rfl) ?_
    refine r_ald (i := i) hx hb hK (hW.at 5 rfl) (by omega) (by omega) dX4_one_32 ?_
    refine lv_goto (tgt := 37) hx hb dX4_one_33 (by decide) ?_
    refine lv_istore (lv' := [(4, .int (nI (D i))), (3, .int (nI 1)), (0, .ref hm), (1, .int (nI 0)), (2, .int (nI i))]) hx hb dX4_one_37 hl (by decide) rfl (fun ls hl => ?_)
    refine lv_aload_n hx hb dX4_one_39 rfl (lv_at hl 2 rfl) ?_
    refine lv_iload_n hx hb dX4_one_40 rfl (lv_at hl 1 rfl) ?_
    refine lv_iload_n hx hb dX4_one_41 rfl (lv_at hl 3 rfl) ?_
    refine n_zne_f (tgt := 50) hx hb rfl dX4_one_42 (by decide) ?_
    refine lv_iload hx hb dX4_one_45 (lv_at hl 0 rfl) ?_
    refine lv_goto (tgt := 55) hx hb dX4_one_47 (by decide) ?_
    refine lv_bipush (v := nI 10) hx hb dX4_one_55 (by decide) ?_
    refine lv_iload_n hx hb dX4_one_57 rfl (lv_at hl 3 rfl) ?_
    refine n_iadd hx hb dX4_one_58 ?_
    refine lv_iload_n hx hb dX4_one_59 rfl (lv_at hl 4 rfl) ?_
    refine lv_iconst (v := nI 0) hx hb dX4_one_60 (by decide) ?_
    refine lv_iconst (v := nI 0) hx hb dX4_one_61 (by decide) ?_
    refine lv_iload hx hb dX4_one_62 (lv_at hl 0 rfl) ?_
    have hg : D i + wg ≤ 100000 := hg
    refine c_virt (As := [.int (nI 1), .int (nI (D i)), .int (nI (10 + 0)), .int (nI i), .int (nI 0), .int (nI 0), .int (nI (D i))]) (rest := []) (wc := [eo hm 4 [.int (nI cd), .int (nI n), .int (nI wg), .ref ad.1, .ref ad.2.1, .ref ad.2.2.1, .ref ad.2.2.2.1, .ref ad.2.2.2.2.1, .ref ad.2.2.2.2.2], ey Z ad.1 4000 K, ea Z ad.2.1 4000 F, ea Z ad.2.2.1 4000 S, ea Z ad.2.2.2.1 4000 T, ea Z ad.2.2.2.2.1 4000 D, el Z ad.2.2.2.2.2 4000 V]) (wr := []) (nl := 0) hx hb hml hown hts hK hG rfl hA hl (k_madd1 l Z hm ad cd n wg K F S T D V (D i) (10 + 0) i 0 0 (D i) hn (by omega) (by omega)) hW trivial (hW.at 0 rfl) rfl rfl tb_816 tb_818 ts_10 tb_7 tb_819 (nA := 7) (by decide +kernel) rfl ⟨by omega, by omega⟩ ⟨by omega, by omega⟩ rfl (Nat.le_of_ble_eq_true rfl) dX4_one_64 (fun v w1 H1 L1 hp hW hzz hkk hdd => ?_)
    obtain ⟨rfl, rfl⟩ := hp
    clear hzz hkk hdd
    generalize H1 = H at hW  ⊢
    generalize L1 = locs at hW ⊢
    have hW : Wd Z A s.heap ([eo hm 4 [.int (nI 0), .int (nI (n + 1)), .int (nI (wg + (D i))), .ref ad.1, .ref ad.2.1, .ref ad.2.2.1, .ref ad.2.2.2.1, .ref ad.2.2.2.2.1, .ref ad.2.2.2.2.2], ey Z ad.1 4000 (up K n (10 + 0)), ea Z ad.2.1 4000 (up F n i), ea Z ad.2.2.1 4000 (up S n 0), ea Z ad.2.2.2.1 4000 (up T n 0), ea Z ad.2.2.2.2.1 4000 (up D n (D i)), el Z ad.2.2.2.2.2 4000 (up V n 0)]) _ _ := hW
    refine W.eq (g2 := F0 m 67 ls [.int (nI n)]) rfl ?_
    exact e_int hx hb hr hlk hAe hW (by omega) (by omega) dX4_one_67 ⟨rfl, rfl⟩
  · refine n_zeq_f (tgt := 9) hx hb (by decide) (by omega) dX4_one_1 (by decide) ?_
    refine lv_iload_n hx hb dX4_one_4 rfl (lv_at hl 1 rfl) ?_
    refine lv_iconst (v := nI 1) hx hb dX4_one_5 (by decide) ?_
    refine n_ne_f (tgt := 21) hx hb (by omega) dX4_one_6 (by decide) ?_
    refine lv_aload_n hx hb dX4_one_9 rfl (lv_at hl 0 rfl) ?_
    refine lv_iload_n hx hb dX4_one_10 rfl (lv_at hl 2 rfl) ?_
    refine c_virt (As := [.int (nI i)]) (rest := []) (wc := [eo hm 4 [.int (nI cd), .int (nI n), .int (nI wg), .ref ad.1, .ref ad.2.1, .ref ad.2.2.1, .ref ad.2.2.2.1, .ref ad.2.2.2.2.1, .ref ad.2.2.2.2.2], ey Z ad.1 4000 K, ea Z ad.2.1 4000 F, ea Z ad.2.2.1 4000 S, ea Z ad.2.2.2.1 4000 T, ea Z ad.2.2.2.2.1 4000 D, el Z ad.2.2.2.2.2 4000 V]) (wr := []) (nl := 0) hx hb hml hown hts hK hG rfl hA hl (k_is1 l Z hm ad cd n wg K F S T D V i hi (by omega)) hW trivial (hW.at 0 rfl) rfl rfl tb_833 tb_835 ts_11 tb_7 tb_836 (nA := 1) (by decide +kernel) rfl ⟨by omega, by omega⟩ ⟨by omega, by omega⟩ rfl (Nat.le_of_ble_eq_true rfl) dX4_one_11 (fun v w1 H1 L1 hp hW hzz hkk hdd => ?_)
    obtain ⟨rfl, rfl⟩ := hp
    clear hzz hkk hdd
    generalize H1 = H at hW  ⊢
    generalize L1 = locs at hW ⊢
    have hW : Wd Z A s.heap ([eo hm 4 [.int (nI cd), .int (nI n), .int (nI wg), .ref ad.1, .ref ad.2.1, .ref ad.2.2.1, .ref ad.2.2.2.1, .ref ad.2.2.2.2.1, .ref ad.2.2.2.2.2], ey Z ad.1 4000 K, ea Z ad.2.1 4000 F, ea Z ad.2.2.1 4000 S, ea Z ad.2.2.2.1 4000 T, ea Z ad.2.2.2.2.1 4000 D, el Z ad.2.2.2.2.2 4000 V]) _ _ := hW
    refine W.eq (g2 := F0 m 14 ls [.int (nI 1)]) rfl ?_
    refine n_zeq_f (tgt := 21) hx hb (by decide) (by omega) dX4_one_14 (by decide) ?_
    refine lv_iconst (v := nI 1) hx hb dX4_one_17 (by decide) ?_
    refine lv_goto (tgt := 22) hx hb dX4_one_18 (by decide) ?_
    refine lv_istore_n (lv' := [(3, .int (nI 1)), (0, .ref hm), (1, .int (nI 1)), (2, .int (nI i))]) hx hb dX4_one_22 rfl hl (by decide) rfl (fun ls hl => ?_)
    refine lv_iload_n hx hb dX4_one_23 rfl (lv_at hl 0 rfl) ?_
    refine n_zeq_f (tgt := 36) hx hb (by decide) (by omega) dX4_one_24 (by decide) ?_
    refine lv_aload_n hx hb dX4_one_27 rfl (lv_at hl 1 rfl) ?_
    refine r_get hx hb hts hown hK (hW.at 0 rfl) rfl in_X4 7 (by decide) tb_786 (fun _ h => h) rfl dX4_one_28 ?_
    refine lv_iload_n hx hb dX4_one_31 rfl (lv_at hl 3 rfl) ?_
    refine r_ald (i := i) hx hb hK (hW.at 5 rfl) (by omega) (by omega) dX4_one_32 ?_
    refine lv_goto (tgt := 37) hx hb dX4_one_33 (by decide) ?_
    refine lv_istore (lv' := [(4, .int (nI (D i))), (3, .int (nI 1)), (0, .ref hm), (1, .int (nI 1)), (2, .int (nI i))]) hx hb dX4_one_37 hl (by decide) rfl (fun ls hl => ?_)
    refine lv_aload_n hx hb dX4_one_39 rfl (lv_at hl 2 rfl) ?_
    refine lv_iload_n hx hb dX4_one_40 rfl (lv_at hl 1 rfl) ?_
    refine lv_iload_n hx hb dX4_one_41 rfl (lv_at hl 3 rfl) ?_
    refine n_zne_t (tgt := 50) hx hb (by omega) (by omega) dX4_one_42 (by decide) ?_
    refine lv_bipush (v := nI 10) hx hb dX4_one_50 (by decide) ?_
    refine lv_iload hx hb dX4_one_52 (lv_at hl 0 rfl) ?_
    refine n_imul hx hb dX4_one_54 ?_
    refine lv_bipush (v := nI 10) hx hb dX4_one_55 (by decide) ?_
    refine lv_iload_n hx hb dX4_one_57 rfl (lv_at hl 3 rfl) ?_
    refine n_iadd hx hb dX4_one_58 ?_
    refine lv_iload_n hx hb dX4_one_59 rfl (lv_at hl 4 rfl) ?_
    refine lv_iconst (v := nI 0) hx hb dX4_one_60 (by decide) ?_
    refine lv_iconst (v := nI 0) hx hb dX4_one_61 (by decide) ?_
    refine lv_iload hx hb dX4_one_62 (lv_at hl 0 rfl) ?_
    have hg : 10 * D i + wg ≤ 100000 := hg
    refine c_virt (As := [.int (nI 1), .int (nI (10 * (D i))), .int (nI (10 + 1)), .int (nI i), .int (nI 0), .int (nI 0), .int (nI (D i))]) (rest := []) (wc := [eo hm 4 [.int (nI cd), .int (nI n), .int (nI wg), .ref ad.1, .ref ad.2.1, .ref ad.2.2.1, .ref ad.2.2.2.1, .ref ad.2.2.2.2.1, .ref ad.2.2.2.2.2], ey Z ad.1 4000 K, ea Z ad.2.1 4000 F, ea Z ad.2.2.1 4000 S, ea Z ad.2.2.2.1 4000 T, ea Z ad.2.2.2.2.1 4000 D, el Z ad.2.2.2.2.2 4000 V]) (wr := []) (nl := 0) hx hb hml hown hts hK hG rfl hA hl (k_madd1 l Z hm ad cd n wg K F S T D V (10 * D i) (10 + 1) i 0 0 (D i) hn (by omega) (by omega)) hW trivial (hW.at 0 rfl) rfl rfl tb_816 tb_818 ts_10 tb_7 tb_819 (nA := 7) (by decide +kernel) rfl ⟨by omega, by omega⟩ ⟨by omega, by omega⟩ rfl (Nat.le_of_ble_eq_true rfl) dX4_one_64 (fun v w1 H1 L1 hp hW hzz hkk hdd => ?_)
    obtain ⟨rfl, rfl⟩ := hp
    clear hzz hkk hdd
    generalize H1 = H at hW  ⊢
    generalize L1 = locs at hW ⊢
    have hW : Wd Z A s.heap ([eo hm 4 [.int (nI 0), .int (nI (n + 1)), .int (nI (wg + (10 * D i))), .ref ad.1, .ref ad.2.1, .ref ad.2.2.1, .ref ad.2.2.2.1, .ref ad.2.2.2.2.1, .ref ad.2.2.2.2.2], ey Z ad.1 4000 (up K n (10 + 1)), ea Z ad.2.1 4000 (up F n i), ea Z ad.2.2.1 4000 (up S n 0), ea Z ad.2.2.2.1 4000 (up T n 0), ea Z ad.2.2.2.2.1 4000 (up D n (D i)), el Z ad.2.2.2.2.2 4000 (up V n 0)]) _ _ := hW
    refine W.eq (g2 := F0 m 67 ls [.int (nI n)]) rfl ?_
    exact e_int hx hb hr hlk hAe hW (by omega) (by omega) dX4_one_67 ⟨rfl, rfl⟩
set_option maxHeartbeats 4000000 in
set_option maxRecDepth 100000 in
theorem k_mone2 (l : Launch) (Z : Zt) (hm : Nat) (ad : MA) (cd n wg : Nat) (K F S T D V : Nat → Nat) (k i : Nat) (hk1 : k ≤ 1) (hi : i < n) (hD : ∀ i, i < n → D i ≤ 64) (hn : n < 4000) (hwg : wg ≤ 100000) (hg : ¬ g1 k (D i) + wg ≤ 100000)  : MC l yX4_one cX4_one 5 (some .int) 1 60 (0) (0) Z (mw Z hm ad cd n wg K F S T D V) (fun _ => True) [.ref hm, .int (nI k), .int (nI i)] (fun r w1 => (∃ r0 : Int32, r = some (.int r0)) ∧ w1 = mw Z hm ad 2 n wg K F S T D V) := by
  refine mc_of (by decide) (Nat.le_of_ble_eq_true rfl) (fun p e s m below meth c ls A hx hb hr hts hown hlk hml hin hK hG hW hA hAe hro hl R hRf hRc hRs hRl => ?_)
  have hl : lv_has ls 5 [(0, .ref hm), (1, .int (nI k)), (2, .int (nI i))] := hl
  have hW : Wd Z A s.heap ([eo hm 4 [.int (nI cd), .int (nI n), .int (nI wg), .ref ad.1, .ref ad.2.1, .ref ad.2.2.1, .ref ad.2.2.2.1, .ref ad.2.2.2.2.1, .ref ad.2.2.2.2.2], ey Z ad.1 4000 K, ea Z ad.2.1 4000 F, ea Z ad.2.2.1 4000 S, ea Z ad.2.2.2.1 4000 T, ea Z ad.2.2.2.2.1 4000 D, el Z ad.2.2.2.2.2 4000 V]) _ _ := hW
  have hdi := hD i hi
  refine lv_iload_n hx hb dX4_one_0 rfl (lv_at hl 1 rfl) ?_
  rcases (show k = 0 ∨ k = 1 by omega) with rfl | rfl
  · refine n_zeq_t (tgt := 9) hx hb rfl dX4_one_1 (by decide) ?_
    refine lv_aload_n hx hb dX4_one_9 rfl (lv_at hl 0 rfl) ?_
    refine lv_iload_n hx hb dX4_one_10 rfl (lv_at hl 2 rfl) ?_
    refine c_virt (As := [.int (nI i)]) (rest := []) (wc := [eo hm 4 [.int (nI cd), .int (nI n), .int (nI wg), .ref ad.1, .ref ad.2.1, .ref ad.2.2.1, .ref ad.2.2.2.1, .ref ad.2.2.2.2.1, .ref ad.2.2.2.2.2], ey Z ad.1 4000 K, ea Z ad.2.1 4000 F, ea Z ad.2.2.1 4000 S, ea Z ad.2.2.2.1 4000 T, ea Z ad.2.2.2.2.1 4000 D, el Z ad.2.2.2.2.2 4000 V]) (wr := []) (nl := 0) hx hb hml hown hts hK hG rfl hA hl (k_is1 l Z hm ad cd n wg K F S T D V i hi (by omega)) hW trivial (hW.at 0 rfl) rfl rfl tb_833 tb_835 ts_11 tb_7 tb_836 (nA := 1) (by decide +kernel) rfl ⟨by omega, by omega⟩ ⟨by omega, by omega⟩ rfl (Nat.le_of_ble_eq_true rfl) dX4_one_11 (fun v w1 H1 L1 hp hW hzz hkk hdd => ?_)
    obtain ⟨rfl, rfl⟩ := hp
    clear hzz hkk hdd
    generalize H1 = H at hW  ⊢
    generalize L1 = locs at hW ⊢
    have hW : Wd Z A s.heap ([eo hm 4 [.int (nI cd), .int (nI n), .int (nI wg), .ref ad.1, .ref ad.2.1, .ref ad.2.2.1, .ref ad.2.2.2.1, .ref ad.2.2.2.2.1, .ref ad.2.2.2.2.2], ey Z ad.1 4000 K, ea Z ad.2.1 4000 F, ea Z ad.2.2.1 4000 S, ea Z ad.2.2.2.1 4000 T, ea Z ad.2.2.2.2.1 4000 D, el Z ad.2.2.2.2.2 4000 V]) _ _ := hW
    refine W.eq (g2 := F0 m 14 ls [.int (nI 1)]) rfl ?_
    refine n_zeq_f (tgt := 21) hx hb (by decide) (by omega) dX4_one_14 (by decide) ?_
    refine lv_iconst (v := nI 1) hx hb dX4_one_17 (by decide) ?_
    refine lv_goto (tgt := 22) hx hb dX4_one_18 (by decide) ?_
    refine lv_istore_n (lv' := [(3, .int (nI 1)), (0, .ref hm), (1, .int (nI 0)), (2, .int (nI i))]) hx hb dX4_one_22 rfl hl (by decide) rfl (fun ls hl => ?_)
    refine lv_iload_n hx hb dX4_one_23 rfl (lv_at hl 0 rfl) ?_
    refine n_zeq_f (tgt := 36) hx hb (by decide) (by omega) dX4_one_24 (by decide) ?_
    refine lv_aload_n hx hb dX4_one_27 rfl (lv_at hl 1 rfl) ?_
    refine r_get hx hb hts hown hK (hW.at 0 rfl) rfl in_X4 7 (by decide) tb_786 (fun _ h => h) rfl dX4_one_28 ?_
    refine lv_iload_n hx hb dX4_one_31 rfl (lv_at hl 3 rfl) ?_
    refine r_ald (i := i) hx hb hK (hW.at 5 rfl) (by omega) (by omega) dX4_one_32 ?_
    refine lv_goto (tgt := 37) hx hb dX4_one_33 (by decide) ?_
    refine lv_istore (lv' := [(4, .int (nI (D i))), (3, .int (nI 1)), (0, .ref hm), (1, .int (nI 0)), (2, .int (nI i))]) hx hb dX4_one_37 hl (by decide) rfl (fun ls hl => ?_)
    refine lv_aload_n hx hb dX4_one_39 rfl (lv_at hl 2 rfl) ?_
    refine lv_iload_n hx hb dX4_one_40 rfl (lv_at hl 1 rfl) ?_
    refine lv_iload_n hx hb dX4_one_41 rfl (lv_at hl 3 rfl) ?_
    refine n_zne_f (tgt := 50) hx hb rfl dX4_one_42 (by decide) ?_
    refine lv_iload hx hb dX4_one_45 (lv_at hl 0 rfl) ?_
    refine lv_goto (tgt := 55) hx hb dX4_one_47 (by decide) ?_
    refine lv_bipush (v := nI 10) hx hb dX4_one_55 (by decide) ?_
    refine lv_iload_n hx hb dX4_one_57 rfl (lv_at hl 3 rfl) ?_
    refine n_iadd hx hb dX4_one_58 ?_
    refine lv_iload_n hx hb dX4_one_59 rfl (lv_at hl 4 rfl) ?_
    refine lv_iconst (v := nI 0) hx hb dX4_one_60 (by decide) ?_
    refine lv_iconst (v := nI 0) hx hb dX4_one_61 (by decide) ?_
    refine lv_iload hx hb dX4_one_62 (lv_at hl 0 rfl) ?_
    have hg : ¬ D i + wg ≤ 100000 := hg
    refine c_virt (As := [.int (nI 1), .int (nI (D i)), .int (nI (10 + 0)), .int (nI i), .int (nI 0), .int (nI 0), .int (nI (D i))]) (rest := []) (wc := [eo hm 4 [.int (nI cd), .int (nI n), .int (nI wg), .ref ad.1, .ref ad.2.1, .ref ad.2.2.1, .ref ad.2.2.2.1, .ref ad.2.2.2.2.1, .ref ad.2.2.2.2.2], ey Z ad.1 4000 K, ea Z ad.2.1 4000 F, ea Z ad.2.2.1 4000 S, ea Z ad.2.2.2.1 4000 T, ea Z ad.2.2.2.2.1 4000 D, el Z ad.2.2.2.2.2 4000 V]) (wr := []) (nl := 0) hx hb hml hown hts hK hG rfl hA hl (k_madd2 l Z hm ad cd n wg K F S T D V (D i) _ _ _ _ _ hn (by omega) (by omega)) hW trivial (hW.at 0 rfl) rfl rfl tb_816 tb_818 ts_10 tb_7 tb_819 (nA := 7) (by decide +kernel) rfl ⟨by omega, by omega⟩ ⟨by omega, by omega⟩ rfl (Nat.le_of_ble_eq_true rfl) dX4_one_64 (fun v w1 H1 L1 hp hW hzz hkk hdd => ?_)
    obtain ⟨rfl, rfl⟩ := hp
    clear hzz hkk hdd
    generalize H1 = H at hW  ⊢
    generalize L1 = locs at hW ⊢
    have hW : Wd Z A s.heap ([eo hm 4 [.int (nI 2), .int (nI n), .int (nI wg), .ref ad.1, .ref ad.2.1, .ref ad.2.2.1, .ref ad.2.2.2.1, .ref ad.2.2.2.2.1, .ref ad.2.2.2.2.2], ey Z ad.1 4000 K, ea Z ad.2.1 4000 F, ea Z ad.2.2.1 4000 S, ea Z ad.2.2.2.1 4000 T, ea Z ad.2.2.2.2.1 4000 D, el Z ad.2.2.2.2.2 4000 V]) _ _ := hW
    refine W.eq (g2 := F0 m 67 ls [.int (nI 0)]) rfl ?_
    exact e_int hx hb hr hlk hAe hW (by omega) (by omega) dX4_one_67 ⟨⟨_, rfl⟩, rfl⟩
  · refine n_zeq_f (tgt := 9) hx hb (by decide) (by omega) dX4_one_1 (by decide) ?_
    refine lv_iload_n hx hb dX4_one_4 rfl (lv_at hl 1 rfl) ?_
    refine lv_iconst (v := nI 1) hx hb dX4_one_5 (by decide) ?_
    refine n_ne_f (tgt := 21) hx hb (by omega) dX4_one_6 (by decide) ?_
    refine lv_aload_n hx hb dX4_one_9 rfl (lv_at hl 0 rfl) ?_
    refine lv_iload_n hx hb dX4_one_10 rfl (lv_at hl 2 rfl) ?_
    refine c_virt (As := [.int (nI i)]) (rest := []) (wc := [eo hm 4 [.int (nI cd), .int (nI n), .int (nI wg), .ref ad.1, .ref ad.2.1, .ref ad.2.2.1, .ref ad.2.2.2.1, .ref ad.2.2.2.2.1, .ref ad.2.2.2.2.2], ey Z ad.1 4000 K, ea Z ad.2.1 4000 F, ea Z ad.2.2.1 4000 S, ea Z ad.2.2.2.1 4000 T, ea Z ad.2.2.2.2.1 4000 D, el Z ad.2.2.2.2.2 4000 V]) (wr := []) (nl := 0) hx hb hml hown hts hK hG rfl hA hl (k_is1 l Z hm ad cd n wg K F S T D V i hi (by omega)) hW trivial (hW.at 0 rfl) rfl rfl tb_833 tb_835 ts_11 tb_7 tb_836 (nA := 1) (by decide +kernel) rfl ⟨by omega, by omega⟩ ⟨by omega, by omega⟩ rfl (Nat.le_of_ble_eq_true rfl) dX4_one_11 (fun v w1 H1 L1 hp hW hzz hkk hdd => ?_)
    obtain ⟨rfl, rfl⟩ := hp
    clear hzz hkk hdd
    generalize H1 = H at hW  ⊢
    generalize L1 = locs at hW ⊢
    have hW : Wd Z A s.heap ([eo hm 4 [.int (nI cd), .int (nI n), .int (nI wg), .ref ad.1, .ref ad.2.1, .ref ad.2.2.1, .ref ad.2.2.2.1, .ref ad.2.2.2.2.1, .ref ad.2.2.2.2.2], ey Z ad.1 4000 K, ea Z ad.2.1 4000 F, ea Z ad.2.2.1 4000 S, ea Z ad.2.2.2.1 4000 T, ea Z ad.2.2.2.2.1 4000 D, el Z ad.2.2.2.2.2 4000 V]) _ _ := hW
    refine W.eq (g2 := F0 m 14 ls [.int (nI 1)]) rfl ?_
    refine n_zeq_f (tgt := 21) hx hb (by decide) (by omega) dX4_one_14 (by decide) ?_
    refine lv_iconst (v := nI 1) hx hb dX4_one_17 (by decide) ?_
    refine lv_goto (tgt := 22) hx hb dX4_one_18 (by decide) ?_
    refine lv_istore_n (lv' := [(3, .int (nI 1)), (0, .ref hm), (1, .int (nI 1)), (2, .int (nI i))]) hx hb dX4_one_22 rfl hl (by decide) rfl (fun ls hl => ?_)
    refine lv_iload_n hx hb dX4_one_23 rfl (lv_at hl 0 rfl) ?_
    refine n_zeq_f (tgt := 36) hx hb (by decide) (by omega) dX4_one_24 (by decide) ?_
    refine lv_aload_n hx hb dX4_one_27 rfl (lv_at hl 1 rfl) ?_
    refine r_get hx hb hts hown hK (hW.at 0 rfl) rfl in_X4 7 (by decide) tb_786 (fun _ h => h) rfl dX4_one_28 ?_
    refine lv_iload_n hx hb dX4_one_31 rfl (lv_at hl 3 rfl) ?_
    refine r_ald (i := i) hx hb hK (hW.at 5 rfl) (by omega) (by omega) dX4_one_32 ?_
    refine lv_goto (tgt := 37) hx hb dX4_one_33 (by decide) ?_
    refine lv_istore (lv' := [(4, .int (nI (D i))), (3, .int (nI 1)), (0, .ref hm), (1, .int (nI 1)), (2, .int (nI i))]) hx hb dX4_one_37 hl (by decide) rfl (fun ls hl => ?_)
    refine lv_aload_n hx hb dX4_one_39 rfl (lv_at hl 2 rfl) ?_
    refine lv_iload_n hx hb dX4_one_40 rfl (lv_at hl 1 rfl) ?_
    refine lv_iload_n hx hb dX4_one_41 rfl (lv_at hl 3 rfl) ?_
    refine n_zne_t (tgt := 50) hx hb (by omega) (by omega) dX4_one_42 (by decide) ?_
    refine lv_bipush (v := nI 10) hx hb dX4_one_50 (by decide) ?_
    refine lv_iload hx hb dX4_one_52 (lv_at hl 0 rfl) ?_
    refine n_imul hx hb dX4_one_54 ?_
    refine lv_bipush (v := nI 10) hx hb dX4_one_55 (by decide) ?_
    refine lv_iload_n hx hb dX4_one_57 rfl (lv_at hl 3 rfl) ?_
    refine n_iadd hx hb dX4_one_58 ?_
    refine lv_iload_n hx hb dX4_one_59 rfl (lv_at hl 4 rfl) ?_
    refine lv_iconst (v := nI 0) hx hb dX4_one_60 (by decide) ?_
    refine lv_iconst (v := nI 0) hx hb dX4_one_61 (by decide) ?_
    refine lv_iload hx hb dX4_one_62 (lv_at hl 0 rfl) ?_
    have hg : ¬ 10 * D i + wg ≤ 100000 := hg
    refine c_virt (As := [.int (nI 1), .int (nI (10 * (D i))), .int (nI (10 + 1)), .int (nI i), .int (nI 0), .int (nI 0), .int (nI (D i))]) (rest := []) (wc := [eo hm 4 [.int (nI cd), .int (nI n), .int (nI wg), .ref ad.1, .ref ad.2.1, .ref ad.2.2.1, .ref ad.2.2.2.1, .ref ad.2.2.2.2.1, .ref ad.2.2.2.2.2], ey Z ad.1 4000 K, ea Z ad.2.1 4000 F, ea Z ad.2.2.1 4000 S, ea Z ad.2.2.2.1 4000 T, ea Z ad.2.2.2.2.1 4000 D, el Z ad.2.2.2.2.2 4000 V]) (wr := []) (nl := 0) hx hb hml hown hts hK hG rfl hA hl (k_madd2 l Z hm ad cd n wg K F S T D V (10 * D i) _ _ _ _ _ hn (by omega) (by omega)) hW trivial (hW.at 0 rfl) rfl rfl tb_816 tb_818 ts_10 tb_7 tb_819 (nA := 7) (by decide +kernel) rfl ⟨by omega, by omega⟩ ⟨by omega, by omega⟩ rfl (Nat.le_of_ble_eq_true rfl) dX4_one_64 (fun v w1 H1 L1 hp hW hzz hkk hdd => ?_)
    obtain ⟨rfl, rfl⟩ := hp
    clear hzz hkk hdd
    generalize H1 = H at hW  ⊢
    generalize L1 = locs at hW ⊢
    have hW : Wd Z A s.heap ([eo hm 4 [.int (nI 2), .int (nI n), .int (nI wg), .ref ad.1, .ref ad.2.1, .ref ad.2.2.1, .ref ad.2.2.2.1, .ref ad.2.2.2.2.1, .ref ad.2.2.2.2.2], ey Z ad.1 4000 K, ea Z ad.2.1 4000 F, ea Z ad.2.2.1 4000 S, ea Z ad.2.2.2.1 4000 T, ea Z ad.2.2.2.2.1 4000 D, el Z ad.2.2.2.2.2 4000 V]) _ _ := hW
    refine W.eq (g2 := F0 m 67 ls [.int (nI 0)]) rfl ?_
    exact e_int hx hb hr hlk hAe hW (by omega) (by omega) dX4_one_67 ⟨⟨_, rfl⟩, rfl⟩
set_option maxHeartbeats 4000000 in
set_option maxRecDepth 100000 in
theorem k_mtwo0 (l : Launch) (Z : Zt) (hm : Nat) (ad : MA) (cd n wg : Nat) (K F S T D V : Nat → Nat) (xk xa xb : Int32) (h : ¬ (knd xk 12 ∧ ∃ i j, i < n ∧ j < n ∧ xa = nI i ∧ xb = nI j ∧ D i = D j)) (hD : ∀ i, i < n → D i ≤ 64) (hn : n < 4000)  : MC l yX4_two cX4_two 6 (some .int) 2 120 (0) (0) Z (mw Z hm ad cd n wg K F S T D V) (fun _ => True) [.ref hm, .int xk, .int xa, .int xb] (fun r w1 => (∃ r0 : Int32, r = some (.int r0)) ∧ w1 = mw Z hm ad 1 n wg K F S T D V) := by
  refine mc_of (by decide) (Nat.le_of_ble_eq_true rfl) (fun p e s m below meth c ls A hx hb hr hts hown hlk hml hin hK hG hW hA hAe hro hl R hRf hRc hRs hRl => ?_)
  have hl : lv_has ls 6 [(0, .ref hm), (1, .int xk), (2, .int xa), (3, .int xb)] := hl
  have hW : Wd Z A s.heap ([eo hm 4 [.int (nI cd), .int (nI n), .int (nI wg), .ref ad.1, .ref ad.2.1, .ref ad.2.2.1, .ref ad.2.2.2.1, .ref ad.2.2.2.2.1, .ref ad.2.2.2.2.2], ey Z ad.1 4000 K, ea Z ad.2.1 4000 F, ea Z ad.2.2.1 4000 S, ea Z ad.2.2.2.1 4000 T, ea Z ad.2.2.2.2.1 4000 D, el Z ad.2.2.2.2.2 4000 V]) _ _ := hW
  refine lv_iload_n hx hb dX4_two_0 rfl (lv_at hl 1 rfl) ?_
  by_cases hk : knd xk 12
  · have hl0 : ¬ ∃ i j, i < n ∧ j < n ∧ xa = nI i ∧ xb = nI j ∧ D i = D j := fun q => h ⟨hk, q⟩
    obtain ⟨k, hk1, rfl⟩ := hk
    refine n_zlt_f (tgt := 23) hx hb (by omega) dX4_two_1 (by decide) ?_
    refine lv_iload_n hx hb dX4_two_4 rfl (lv_at hl 1 rfl) ?_
    refine lv_bipush (v := nI 12) hx hb dX4_two_5 (by decide) ?_
    refine n_gt_f (tgt := 23) hx hb (by omega) (by omega) dX4_two_7 (by decide) ?_
    refine lv_aload_n hx hb dX4_two_10 rfl (lv_at hl 0 rfl) ?_
    refine lv_iload_n hx hb dX4_two_11 rfl (lv_at hl 2 rfl) ?_
    refine lv_iload_n hx hb dX4_two_12 rfl (lv_at hl 3 rfl) ?_
    refine c_virt (As := [.int xa, .int xb]) (rest := []) (wc := [eo hm 4 [.int (nI cd), .int (nI n), .int (nI wg), .ref ad.1, .ref ad.2.1, .ref ad.2.2.1, .ref ad.2.2.2.1, .ref ad.2.2.2.2.1, .ref ad.2.2.2.2.2], ey Z ad.1 4000 K, ea Z ad.2.1 4000 F, ea Z ad.2.2.1 4000 S, ea Z ad.2.2.2.1 4000 T, ea Z ad.2.2.2.2.1 4000 D, el Z ad.2.2.2.2.2 4000 V]) (wr := []) (nl := 0) hx hb hml hown hts hK hG rfl hA hl (k_like0 l Z hm ad cd n wg K F S T D V xa xb hl0 (by omega) hD) hW trivial (hW.at 0 rfl) rfl rfl tb_841 tb_843 ts_12 tb_7 tb_844 (nA := 2) (by decide +kernel) rfl ⟨by omega, by omega⟩ ⟨by omega, by omega⟩ rfl (Nat.le_of_ble_eq_true rfl) dX4_two_13 (fun v w1 H1 L1 hp hW hzz hkk hdd => ?_)
    obtain ⟨rfl, rfl⟩ := hp
    clear hzz hkk hdd
    generalize H1 = H at hW  ⊢
    generalize L1 = locs at hW ⊢
    have hW : Wd Z A s.heap ([eo hm 4 [.int (nI cd), .int (nI n), .int (nI wg), .ref ad.1, .ref ad.2.1, .ref ad.2.2.1, .ref ad.2.2.2.1, .ref ad.2.2.2.2.1, .ref ad.2.2.2.2.2], ey Z ad.1 4000 K, ea Z ad.2.1 4000 F, ea Z ad.2.2.1 4000 S, ea Z ad.2.2.2.1 4000 T, ea Z ad.2.2.2.2.1 4000 D, el Z ad.2.2.2.2.2 4000 V]) _ _ := hW
    refine W.eq (g2 := F0 m 16 ls [.int (nI 0)]) rfl ?_
    refine n_zeq_t (tgt := 23) hx hb rfl dX4_two_16 (by decide) ?_
    refine lv_iconst (v := nI 0) hx hb dX4_two_23 (by decide) ?_
    refine lv_istore (lv' := [(4, .int (nI 0)), (0, .ref hm), (1, .int (nI k)), (2, .int xa), (3, .int xb)]) hx hb dX4_two_24 hl (by decide) rfl (fun ls hl => ?_)
    refine lv_iload hx hb dX4_two_26 (lv_at hl 0 rfl) ?_
    refine n_zeq_t (tgt := 40) hx hb rfl dX4_two_28 (by decide) ?_
    refine lv_iconst (v := nI 1) hx hb dX4_two_40 (by decide) ?_
    refine lv_istore (lv' := [(5, .int (nI 1)), (4, .int (nI 0)), (0, .ref hm), (1, .int (nI k)), (2, .int xa), (3, .int xb)]) hx hb dX4_two_41 hl (by decide) rfl (fun ls hl => ?_)
    refine lv_aload_n hx hb dX4_two_43 rfl (lv_at hl 2 rfl) ?_
    refine lv_iload hx hb dX4_two_44 (lv_at hl 1 rfl) ?_
    refine lv_iload_n hx hb dX4_two_46 rfl (lv_at hl 3 rfl) ?_
    refine lv_iload hx hb dX4_two_47 (lv_at hl 0 rfl) ?_
    refine c_stat (As := [.int (nI k), .int (nI 1)]) (rest := [.int (nI 0), .ref hm]) (wc := []) (wr := [eo hm 4 [.int (nI cd), .int (nI n), .int (nI wg), .ref ad.1, .ref ad.2.1, .ref ad.2.2.1, .ref ad.2.2.2.1, .ref ad.2.2.2.2.1, .ref ad.2.2.2.2.2], ey Z ad.1 4000 K, ea Z ad.2.1 4000 F, ea Z ad.2.2.1 4000 S, ea Z ad.2.2.2.1 4000 T, ea Z ad.2.2.2.2.1 4000 D, el Z ad.2.2.2.2.2 4000 V]) hx hb hml hown hts hK hG rfl hA hl (k_heavy l Z k 1 hk1 (by decide)) hW trivial tb_845 tb_846 tb_7 tb_847 (nA := 2) (by decide +kernel) rfl ⟨by omega, by omega⟩ ⟨by omega, by omega⟩ rfl (Nat.le_of_ble_eq_true rfl) dX4_two_49 (fun v w1 H1 L1 hp hW hzz hkk hdd => ?_)
    obtain ⟨rfl, rfl⟩ := hp
    clear hzz hkk hdd
    generalize H1 = H at hW  ⊢
    generalize L1 = locs at hW ⊢
    have hW : Wd Z A s.heap ([eo hm 4 [.int (nI cd), .int (nI n), .int (nI wg), .ref ad.1, .ref ad.2.1, .ref ad.2.2.1, .ref ad.2.2.2.1, .ref ad.2.2.2.2.1, .ref ad.2.2.2.2.2], ey Z ad.1 4000 K, ea Z ad.2.1 4000 F, ea Z ad.2.2.1 4000 S, ea Z ad.2.2.2.1 4000 T, ea Z ad.2.2.2.2.1 4000 D, el Z ad.2.2.2.2.2 4000 V]) _ _ := hW
    refine W.eq (g2 := F0 m 52 ls [.int (nI (wt2 k 1)), .int (nI 0), .ref hm]) rfl ?_
    refine lv_bipush (v := nI 20) hx hb dX4_two_52 (by decide) ?_
    refine lv_iload_n hx hb dX4_two_54 rfl (lv_at hl 3 rfl) ?_
    refine n_iadd hx hb dX4_two_55 ?_
    refine lv_iload_n hx hb dX4_two_56 rfl (lv_at hl 4 rfl) ?_
    refine lv_iload_n hx hb dX4_two_57 rfl (lv_at hl 5 rfl) ?_
    refine lv_iconst (v := nI 0) hx hb dX4_two_58 (by decide) ?_
    refine lv_iload hx hb dX4_two_59 (lv_at hl 0 rfl) ?_
    refine c_virt (As := [.int (nI 0), .int (nI (wt2 k 1)), .int (nI (20 + k)), .int xa, .int xb, .int (nI 0), .int (nI 1)]) (rest := []) (wc := [eo hm 4 [.int (nI cd), .int (nI n), .int (nI wg), .ref ad.1, .ref ad.2.1, .ref ad.2.2.1, .ref ad.2.2.2.1, .ref ad.2.2.2.2.1, .ref ad.2.2.2.2.2], ey Z ad.1 4000 K, ea Z ad.2.1 4000 F, ea Z ad.2.2.1 4000 S, ea Z ad.2.2.2.1 4000 T, ea Z ad.2.2.2.2.1 4000 D, el Z ad.2.2.2.2.2 4000 V]) (wr := []) (nl := 0) hx hb hml hown hts hK hG rfl hA hl (k_madd0 l Z hm ad cd n wg K F S T D V _ _ _ _ _ _) hW trivial (hW.at 0 rfl) rfl rfl tb_816 tb_818 ts_10 tb_7 tb_819 (nA := 7) (by decide +kernel) rfl ⟨by omega, by omega⟩ ⟨by omega, by omega⟩ rfl (Nat.le_of_ble_eq_true rfl) dX4_two_61 (fun v w1 H1 L1 hp hW hzz hkk hdd => ?_)
    obtain ⟨rfl, rfl⟩ := hp
    clear hzz hkk hdd
    generalize H1 = H at hW  ⊢
    generalize L1 = locs at hW ⊢
    have hW : Wd Z A s.heap ([eo hm 4 [.int (nI 1), .int (nI n), .int (nI wg), .ref ad.1, .ref ad.2.1, .ref ad.2.2.1, .ref ad.2.2.2.1, .ref ad.2.2.2.2.1, .ref ad.2.2.2.2.2], ey Z ad.1 4000 K, ea Z ad.2.1 4000 F, ea Z ad.2.2.1 4000 S, ea Z ad.2.2.2.1 4000 T, ea Z ad.2.2.2.2.1 4000 D, el Z ad.2.2.2.2.2 4000 V]) _ _ := hW
    refine W.eq (g2 := F0 m 64 ls [.int (nI 0)]) rfl ?_
    exact e_int hx hb hr hlk hAe hW (by omega) (by omega) dX4_two_64 ⟨⟨_, rfl⟩, rfl⟩
  · have hk9 := hk
    rw [knd_iff _ (by decide)] at hk9
    refine lv_if_lt (tgt := 23) hx hb dX4_two_1 (by decide) (fun q1 => ?_) (fun q1 => ?_)
    all_goals rw [i_neg] at q1
    · refine lv_iconst (v := nI 0) hx hb dX4_two_23 (by decide) ?_
      refine lv_istore (lv' := [(4, .int (nI 0)), (0, .ref hm), (1, .int xk), (2, .int xa), (3, .int xb)]) hx hb dX4_two_24 hl (by decide) rfl (fun ls hl => ?_)
      refine lv_iload hx hb dX4_two_26 (lv_at hl 0 rfl) ?_
      refine n_zeq_t (tgt := 40) hx hb rfl dX4_two_28 (by decide) ?_
      refine lv_iconst (v := nI 1) hx hb dX4_two_40 (by decide) ?_
      refine lv_istore (lv' := [(5, .int (nI 1)), (4, .int (nI 0)), (0, .ref hm), (1, .int xk), (2, .int xa), (3, .int xb)]) hx hb dX4_two_41 hl (by decide) rfl (fun ls hl => ?_)
      refine lv_aload_n hx hb dX4_two_43 rfl (lv_at hl 2 rfl) ?_
      refine lv_iload hx hb dX4_two_44 (lv_at hl 1 rfl) ?_
      refine lv_iload_n hx hb dX4_two_46 rfl (lv_at hl 3 rfl) ?_
      refine lv_iload hx hb dX4_two_47 (lv_at hl 0 rfl) ?_
      refine c_stat (As := [.int xk, .int (nI 1)]) (rest := [.int (nI 0), .ref hm]) (wc := []) (wr := [eo hm 4 [.int (nI cd), .int (nI n), .int (nI wg), .ref ad.1, .ref ad.2.1, .ref ad.2.2.1, .ref ad.2.2.2.1, .ref ad.2.2.2.2.1, .ref ad.2.2.2.2.2], ey Z ad.1 4000 K, ea Z ad.2.1 4000 F, ea Z ad.2.2.1 4000 S, ea Z ad.2.2.2.1 4000 T, ea Z ad.2.2.2.2.1 4000 D, el Z ad.2.2.2.2.2 4000 V]) hx hb hml hown hts hK hG rfl hA hl (k_heavyX l Z xk 1 hk) hW trivial tb_845 tb_846 tb_7 tb_847 (nA := 2) (by decide +kernel) rfl ⟨by omega, by omega⟩ ⟨by omega, by omega⟩ rfl (Nat.le_of_ble_eq_true rfl) dX4_two_49 (fun v w1 H1 L1 hp hW hzz hkk hdd => ?_)
      obtain ⟨⟨xh, rfl⟩, rfl⟩ := hp
      clear hzz hkk hdd
      generalize H1 = H at hW  ⊢
      generalize L1 = locs at hW ⊢
      have hW : Wd Z A s.heap ([eo hm 4 [.int (nI cd), .int (nI n), .int (nI wg), .ref ad.1, .ref ad.2.1, .ref ad.2.2.1, .ref ad.2.2.2.1, .ref ad.2.2.2.2.1, .ref ad.2.2.2.2.2], ey Z ad.1 4000 K, ea Z ad.2.1 4000 F, ea Z ad.2.2.1 4000 S, ea Z ad.2.2.2.1 4000 T, ea Z ad.2.2.2.2.1 4000 D, el Z ad.2.2.2.2.2 4000 V]) _ _ := hW
      refine W.eq (g2 := F0 m 52 ls [.int xh, .int (nI 0), .ref hm]) rfl ?_
      refine lv_bipush (v := nI 20) hx hb dX4_two_52 (by decide) ?_
      refine lv_iload_n hx hb dX4_two_54 rfl (lv_at hl 3 rfl) ?_
      refine lv_iadd hx hb dX4_two_55 ?_
      refine lv_iload_n hx hb dX4_two_56 rfl (lv_at hl 4 rfl) ?_
      refine lv_iload_n hx hb dX4_two_57 rfl (lv_at hl 5 rfl) ?_
      refine lv_iconst (v := nI 0) hx hb dX4_two_58 (by decide) ?_
      refine lv_iload hx hb dX4_two_59 (lv_at hl 0 rfl) ?_
      refine c_virt (As := [.int (nI 0), .int xh, .int ((nI 20) + xk), .int xa, .int xb, .int (nI 0), .int (nI 1)]) (rest := []) (wc := [eo hm 4 [.int (nI cd), .int (nI n), .int (nI wg), .ref ad.1, .ref ad.2.1, .ref ad.2.2.1, .ref ad.2.2.2.1, .ref ad.2.2.2.2.1, .ref ad.2.2.2.2.2], ey Z ad.1 4000 K, ea Z ad.2.1 4000 F, ea Z ad.2.2.1 4000 S, ea Z ad.2.2.2.1 4000 T, ea Z ad.2.2.2.2.1 4000 D, el Z ad.2.2.2.2.2 4000 V]) (wr := []) (nl := 0) hx hb hml hown hts hK hG rfl hA hl (k_madd0 l Z hm ad cd n wg K F S T D V _ _ _ _ _ _) hW trivial (hW.at 0 rfl) rfl rfl tb_816 tb_818 ts_10 tb_7 tb_819 (nA := 7) (by decide +kernel) rfl ⟨by omega, by omega⟩ ⟨by omega, by omega⟩ rfl (Nat.le_of_ble_eq_true rfl) dX4_two_61 (fun v w1 H1 L1 hp hW hzz hkk hdd => ?_)
      obtain ⟨rfl, rfl⟩ := hp
      clear hzz hkk hdd
      generalize H1 = H at hW  ⊢
      generalize L1 = locs at hW ⊢
      have hW : Wd Z A s.heap ([eo hm 4 [.int (nI 1), .int (nI n), .int (nI wg), .ref ad.1, .ref ad.2.1, .ref ad.2.2.1, .ref ad.2.2.2.1, .ref ad.2.2.2.2.1, .ref ad.2.2.2.2.2], ey Z ad.1 4000 K, ea Z ad.2.1 4000 F, ea Z ad.2.2.1 4000 S, ea Z ad.2.2.2.1 4000 T, ea Z ad.2.2.2.2.1 4000 D, el Z ad.2.2.2.2.2 4000 V]) _ _ := hW
      refine W.eq (g2 := F0 m 64 ls [.int (nI 0)]) rfl ?_
      exact e_int hx hb hr hlk hAe hW (by omega) (by omega) dX4_two_64 ⟨⟨_, rfl⟩, rfl⟩
    · refine lv_iload_n hx hb dX4_two_4 rfl (lv_at hl 1 rfl) ?_
      refine lv_bipush (v := nI 12) hx hb dX4_two_5 (by decide) ?_
      refine lv_icmp_gt (tgt := 23) hx hb dX4_two_7 (by decide) (fun q2 => ?_) (fun q2 => ?_)
      all_goals rw [i_gt _ (by decide)] at q2
      · refine lv_iconst (v := nI 0) hx hb dX4_two_23 (by decide) ?_
        refine lv_istore (lv' := [(4, .int (nI 0)), (0, .ref hm), (1, .int xk), (2, .int xa), (3, .int xb)]) hx hb dX4_two_24 hl (by decide) rfl (fun ls hl => ?_)
        refine lv_iload hx hb dX4_two_26 (lv_at hl 0 rfl) ?_
        refine n_zeq_t (tgt := 40) hx hb rfl dX4_two_28 (by decide) ?_
        refine lv_iconst (v := nI 1) hx hb dX4_two_40 (by decide) ?_
        refine lv_istore (lv' := [(5, .int (nI 1)), (4, .int (nI 0)), (0, .ref hm), (1, .int xk), (2, .int xa), (3, .int xb)]) hx hb dX4_two_41 hl (by decide) rfl (fun ls hl => ?_)
        refine lv_aload_n hx hb dX4_two_43 rfl (lv_at hl 2 rfl) ?_
        refine lv_iload hx hb dX4_two_44 (lv_at hl 1 rfl) ?_
        refine lv_iload_n hx hb dX4_two_46 rfl (lv_at hl 3 rfl) ?_
        refine lv_iload hx hb dX4_two_47 (lv_at hl 0 rfl) ?_
        refine c_stat (As := [.int xk, .int (nI 1)]) (rest := [.int (nI 0), .ref hm]) (wc := []) (wr := [eo hm 4 [.int (nI cd), .int (nI n), .int (nI wg), .ref ad.1, .ref ad.2.1, .ref ad.2.2.1, .ref ad.2.2.2.1, .ref ad.2.2.2.2.1, .ref ad.2.2.2.2.2], ey Z ad.1 4000 K, ea Z ad.2.1 4000 F, ea Z ad.2.2.1 4000 S, ea Z ad.2.2.2.1 4000 T, ea Z ad.2.2.2.2.1 4000 D, el Z ad.2.2.2.2.2 4000 V]) hx hb hml hown hts hK hG rfl hA hl (k_heavyX l Z xk 1 hk) hW trivial tb_845 tb_846 tb_7 tb_847 (nA := 2) (by decide +kernel) rfl ⟨by omega, by omega⟩ ⟨by omega, by omega⟩ rfl (Nat.le_of_ble_eq_true rfl) dX4_two_49 (fun v w1 H1 L1 hp hW hzz hkk hdd => ?_)
        obtain ⟨⟨xh, rfl⟩, rfl⟩ := hp
        clear hzz hkk hdd
        generalize H1 = H at hW  ⊢
        generalize L1 = locs at hW ⊢
        have hW : Wd Z A s.heap ([eo hm 4 [.int (nI cd), .int (nI n), .int (nI wg), .ref ad.1, .ref ad.2.1, .ref ad.2.2.1, .ref ad.2.2.2.1, .ref ad.2.2.2.2.1, .ref ad.2.2.2.2.2], ey Z ad.1 4000 K, ea Z ad.2.1 4000 F, ea Z ad.2.2.1 4000 S, ea Z ad.2.2.2.1 4000 T, ea Z ad.2.2.2.2.1 4000 D, el Z ad.2.2.2.2.2 4000 V]) _ _ := hW
        refine W.eq (g2 := F0 m 52 ls [.int xh, .int (nI 0), .ref hm]) rfl ?_
        refine lv_bipush (v := nI 20) hx hb dX4_two_52 (by decide) ?_
        refine lv_iload_n hx hb dX4_two_54 rfl (lv_at hl 3 rfl) ?_
        refine lv_iadd hx hb dX4_two_55 ?_
        refine lv_iload_n hx hb dX4_two_56 rfl (lv_at hl 4 rfl) ?_
        refine lv_iload_n hx hb dX4_two_57 rfl (lv_at hl 5 rfl) ?_
        refine lv_iconst (v := nI 0) hx hb dX4_two_58 (by decide) ?_
        refine lv_iload hx hb dX4_two_59 (lv_at hl 0 rfl) ?_
        refine c_virt (As := [.int (nI 0), .int xh, .int ((nI 20) + xk), .int xa, .int xb, .int (nI 0), .int (nI 1)]) (rest := []) (wc := [eo hm 4 [.int (nI cd), .int (nI n), .int (nI wg), .ref ad.1, .ref ad.2.1, .ref ad.2.2.1, .ref ad.2.2.2.1, .ref ad.2.2.2.2.1, .ref ad.2.2.2.2.2], ey Z ad.1 4000 K, ea Z ad.2.1 4000 F, ea Z ad.2.2.1 4000 S, ea Z ad.2.2.2.1 4000 T, ea Z ad.2.2.2.2.1 4000 D, el Z ad.2.2.2.2.2 4000 V]) (wr := []) (nl := 0) hx hb hml hown hts hK hG rfl hA hl (k_madd0 l Z hm ad cd n wg K F S T D V _ _ _ _ _ _) hW trivial (hW.at 0 rfl) rfl rfl tb_816 tb_818 ts_10 tb_7 tb_819 (nA := 7) (by decide +kernel) rfl ⟨by omega, by omega⟩ ⟨by omega, by omega⟩ rfl (Nat.le_of_ble_eq_true rfl) dX4_two_61 (fun v w1 H1 L1 hp hW hzz hkk hdd => ?_)
        obtain ⟨rfl, rfl⟩ := hp
        clear hzz hkk hdd
        generalize H1 = H at hW  ⊢
        generalize L1 = locs at hW ⊢
        have hW : Wd Z A s.heap ([eo hm 4 [.int (nI 1), .int (nI n), .int (nI wg), .ref ad.1, .ref ad.2.1, .ref ad.2.2.1, .ref ad.2.2.2.1, .ref ad.2.2.2.2.1, .ref ad.2.2.2.2.2], ey Z ad.1 4000 K, ea Z ad.2.1 4000 F, ea Z ad.2.2.1 4000 S, ea Z ad.2.2.2.1 4000 T, ea Z ad.2.2.2.2.1 4000 D, el Z ad.2.2.2.2.2 4000 V]) _ _ := hW
        refine W.eq (g2 := F0 m 64 ls [.int (nI 0)]) rfl ?_
        exact e_int hx hb hr hlk hAe hW (by omega) (by omega) dX4_two_64 ⟨⟨_, rfl⟩, rfl⟩
      · exfalso; omega
set_option maxHeartbeats 4000000 in
set_option maxRecDepth 100000 in
theorem k_mtwo1 (l : Launch) (Z : Zt) (hm : Nat) (ad : MA) (cd n wg : Nat) (K F S T D V : Nat → Nat) (k i j : Nat) (hk1 : k ≤ 12) (hi : i < n) (hj : j < n) (hij : D i = D j) (hD : ∀ i, i < n → D i ≤ 64) (hn : n < 4000) (hwg : wg ≤ 100000) (hg : wt2 k (D i) + wg ≤ 100000)  : MC l yX4_two cX4_two 6 (some .int) 2 120 (0) (0) Z (mw Z hm ad cd n wg K F S T D V) (fun _ => True) [.ref hm, .int (nI k), .int (nI i), .int (nI j)] (fun r w1 => r = some (.int (nI n)) ∧ w1 = mw Z hm ad 0 (n + 1) (wg + (wt2 k (D i))) (up K n (20 + k)) (up F n i) (up S n j) (up T n 0) (up D n (D i)) (up V n 0)) := by
  refine mc_of (by decide) (Nat.le_of_ble_eq_true rfl) (fun p e s m below meth c ls A hx hb hr hts hown hlk hml hin hK hG hW hA hAe hro hl R hRf hRc hRs hRl => ?_)
  have hl : lv_has ls 6 [(0, .ref hm), (1, .int (nI k)), (2, .int (nI i)), (3, .int (nI j))] := hl
  have hW : Wd Z A s.heap ([eo hm 4 [.int (nI cd), .int (nI n), .int (nI wg), .ref ad.1, .ref ad.2.1, .ref ad.2.2.1, .ref ad.2.2.2.1, .ref ad.2.2.2.2.1, .ref ad.2.2.2.2.2], ey Z ad.1 4000 K, ea Z ad.2.1 4000 F, ea Z ad.2.2.1 4000 S, ea Z ad.2.2.2.1 4000 T, ea Z ad.2.2.2.2.1 4000 D, el Z ad.2.2.2.2.2 4000 V]) _ _ := hW
  have hdi := hD i hi
  have hwt := wt2_m k hk1 (D i) hdi
  refine lv_iload_n hx hb dX4_two_0 rfl (lv_at hl 1 rfl) ?_
  refine n_zlt_f (tgt := 23) hx hb (by omega) dX4_two_1 (by decide) ?_
  refine lv_iload_n hx hb dX4_two_4 rfl (lv_at hl 1 rfl) ?_
  refine lv_bipush (v := nI 12) hx hb dX4_two_5 (by decide) ?_
  refine n_gt_f (tgt := 23) hx hb (by omega) (by omega) dX4_two_7 (by decide) ?_
  refine lv_aload_n hx hb dX4_two_10 rfl (lv_at hl 0 rfl) ?_
  refine lv_iload_n hx hb dX4_two_11 rfl (lv_at hl 2 rfl) ?_
  refine lv_iload_n hx hb dX4_two_12 rfl (lv_at hl 3 rfl) ?_
  refine c_virt (As := [.int (nI i), .int (nI j)]) (rest := []) (wc := [eo hm 4 [.int (nI cd), .int (nI n), .int (nI wg), .ref ad.1, .ref ad.2.1, .ref ad.2.2.1, .ref ad.2.2.2.1, .ref ad.2.2.2.2.1, .ref ad.2.2.2.2.2], ey Z ad.1 4000 K, ea Z ad.2.1 4000 F, ea Z ad.2.2.1 4000 S, ea Z ad.2.2.2.1 4000 T, ea Z ad.2.2.2.2.1 4000 D, el Z ad.2.2.2.2.2 4000 V]) (wr := []) (nl := 0) hx hb hml hown hts hK hG rfl hA hl (k_like1 l Z hm ad cd n wg K F S T D V i j hi hj hij (by omega)) hW trivial (hW.at 0 rfl) rfl rfl tb_841 tb_843 ts_12 tb_7 tb_844 (nA := 2) (by decide +kernel) rfl ⟨by omega, by omega⟩ ⟨by omega, by omega⟩ rfl (Nat.le_of_ble_eq_true rfl) dX4_two_13 (fun v w1 H1 L1 hp hW hzz hkk hdd => ?_)
  obtain ⟨rfl, rfl⟩ := hp
  clear hzz hkk hdd
  generalize H1 = H at hW  ⊢
  generalize L1 = locs at hW ⊢
  have hW : Wd Z A s.heap ([eo hm 4 [.int (nI cd), .int (nI n), .int (nI wg), .ref ad.1, .ref ad.2.1, .ref ad.2.2.1, .ref ad.2.2.2.1, .ref ad.2.2.2.2.1, .ref ad.2.2.2.2.2], ey Z ad.1 4000 K, ea Z ad.2.1 4000 F, ea Z ad.2.2.1 4000 S, ea Z ad.2.2.2.1 4000 T, ea Z ad.2.2.2.2.1 4000 D, el Z ad.2.2.2.2.2 4000 V]) _ _ := hW
  refine W.eq (g2 := F0 m 16 ls [.int (nI 1)]) rfl ?_
  refine n_zeq_f (tgt := 23) hx hb (by decide) (by omega) dX4_two_16 (by decide) ?_
  refine lv_iconst (v := nI 1) hx hb dX4_two_19 (by decide) ?_
  refine lv_goto (tgt := 24) hx hb dX4_two_20 (by decide) ?_
  refine lv_istore (lv' := [(4, .int (nI 1)), (0, .ref hm), (1, .int (nI k)), (2, .int (nI i)), (3, .int (nI j))]) hx hb dX4_two_24 hl (by decide) rfl (fun ls hl => ?_)
  refine lv_iload hx hb dX4_two_26 (lv_at hl 0 rfl) ?_
  refine n_zeq_f (tgt := 40) hx hb (by decide) (by omega) dX4_two_28 (by decide) ?_
  refine lv_aload_n hx hb dX4_two_31 rfl (lv_at hl 1 rfl) ?_
  refine r_get hx hb hts hown hK (hW.at 0 rfl) rfl in_X4 7 (by decide) tb_786 (fun _ h => h) rfl dX4_two_32 ?_
  refine lv_iload_n hx hb dX4_two_35 rfl (lv_at hl 3 rfl) ?_
  refine r_ald (i := i) hx hb hK (hW.at 5 rfl) (by omega) (by omega) dX4_two_36 ?_
  refine lv_goto (tgt := 41) hx hb dX4_two_37 (by decide) ?_
  refine lv_istore (lv' := [(5, .int (nI (D i))), (4, .int (nI 1)), (0, .ref hm), (1, .int (nI k)), (2, .int (nI i)), (3, .int (nI j))]) hx hb dX4_two_41 hl (by decide) rfl (fun ls hl => ?_)
  refine lv_aload_n hx hb dX4_two_43 rfl (lv_at hl 2 rfl) ?_
  refine lv_iload hx hb dX4_two_44 (lv_at hl 1 rfl) ?_
  refine lv_iload_n hx hb dX4_two_46 rfl (lv_at hl 3 rfl) ?_
  refine lv_iload hx hb dX4_two_47 (lv_at hl 0 rfl) ?_
  refine c_stat (As := [.int (nI k), .int (nI (D i))]) (rest := [.int (nI 1), .ref hm]) (wc := []) (wr := [eo hm 4 [.int (nI cd), .int (nI n), .int (nI wg), .ref ad.1, .ref ad.2.1, .ref ad.2.2.1, .ref ad.2.2.2.1, .ref ad.2.2.2.2.1, .ref ad.2.2.2.2.2], ey Z ad.1 4000 K, ea Z ad.2.1 4000 F, ea Z ad.2.2.1 4000 S, ea Z ad.2.2.2.1 4000 T, ea Z ad.2.2.2.2.1 4000 D, el Z ad.2.2.2.2.2 4000 V]) hx hb hml hown hts hK hG rfl hA hl (k_heavy l Z k (D i) hk1 hdi) hW trivial tb_845 tb_846 tb_7 tb_847 (nA := 2) (by decide +kernel) rfl ⟨by omega, by omega⟩ ⟨by omega, by omega⟩ rfl (Nat.le_of_ble_eq_true rfl) dX4_two_49 (fun v w1 H1 L1 hp hW hzz hkk hdd => ?_)
  obtain ⟨rfl, rfl⟩ := hp
  clear hzz hkk hdd
  generalize H1 = H at hW  ⊢
  generalize L1 = locs at hW ⊢
  have hW : Wd Z A s.heap ([eo hm 4 [.int (nI cd), .int (nI n), .int (nI wg), .ref ad.1, .ref ad.2.1, .ref ad.2.2.1, .ref ad.2.2.2.1, .ref ad.2.2.2.2.1, .ref ad.2.2.2.2.2], ey Z ad.1 4000 K, ea Z ad.2.1 4000 F, ea Z ad.2.2.1 4000 S, ea Z ad.2.2.2.1 4000 T, ea Z ad.2.2.2.2.1 4000 D, el Z ad.2.2.2.2.2 4000 V]) _ _ := hW
  refine W.eq (g2 := F0 m 52 ls [.int (nI (wt2 k (D i))), .int (nI 1), .ref hm]) rfl ?_
  refine lv_bipush (v := nI 20) hx hb dX4_two_52 (by decide) ?_
  refine lv_iload_n hx hb dX4_two_54 rfl (lv_at hl 3 rfl) ?_
  refine n_iadd hx hb dX4_two_55 ?_
  refine lv_iload_n hx hb dX4_two_56 rfl (lv_at hl 4 rfl) ?_
  refine lv_iload_n hx hb dX4_two_57 rfl (lv_at hl 5 rfl) ?_
  refine lv_iconst (v := nI 0) hx hb dX4_two_58 (by decide) ?_
  refine lv_iload hx hb dX4_two_59 (lv_at hl 0 rfl) ?_
  refine c_virt (As := [.int (nI 1), .int (nI (wt2 k (D i))), .int (nI (20 + k)), .int (nI i), .int (nI j), .int (nI 0), .int (nI (D i))]) (rest := []) (wc := [eo hm 4 [.int (nI cd), .int (nI n), .int (nI wg), .ref ad.1, .ref ad.2.1, .ref ad.2.2.1, .ref ad.2.2.2.1, .ref ad.2.2.2.2.1, .ref ad.2.2.2.2.2], ey Z ad.1 4000 K, ea Z ad.2.1 4000 F, ea Z ad.2.2.1 4000 S, ea Z ad.2.2.2.1 4000 T, ea Z ad.2.2.2.2.1 4000 D, el Z ad.2.2.2.2.2 4000 V]) (wr := []) (nl := 0) hx hb hml hown hts hK hG rfl hA hl (k_madd1 l Z hm ad cd n wg K F S T D V (wt2 k (D i)) (20 + k) i j 0 (D i) hn (by omega) (by omega)) hW trivial (hW.at 0 rfl) rfl rfl tb_816 tb_818 ts_10 tb_7 tb_819 (nA := 7) (by decide +kernel) rfl ⟨by omega, by omega⟩ ⟨by omega, by omega⟩ rfl (Nat.le_of_ble_eq_true rfl) dX4_two_61 (fun v w1 H1 L1 hp hW hzz hkk hdd => ?_)
  obtain ⟨rfl, rfl⟩ := hp
  clear hzz hkk hdd
  generalize H1 = H at hW  ⊢
  generalize L1 = locs at hW ⊢
  have hW : Wd Z A s.heap ([eo hm 4 [.int (nI 0), .int (nI (n + 1)), .int (nI (wg + (wt2 k (D i)))), .ref ad.1, .ref ad.2.1, .ref ad.2.2.1, .ref ad.2.2.2.1, .ref ad.2.2.2.2.1, .ref ad.2.2.2.2.2], ey Z ad.1 4000 (up K n (20 + k)), ea Z ad.2.1 4000 (up F n i), ea Z ad.2.2.1 4000 (up S n j), ea Z ad.2.2.2.1 4000 (up T n 0), ea Z ad.2.2.2.2.1 4000 (up D n (D i)), el Z ad.2.2.2.2.2 4000 (up V n 0)]) _ _ := hW
  refine W.eq (g2 := F0 m 64 ls [.int (nI n)]) rfl ?_
  exact e_int hx hb hr hlk hAe hW (by omega) (by omega) dX4_two_64 ⟨rfl, rfl⟩
set_option maxHeartbeats 4000000 in
set_option maxRecDepth 100000 in
theorem k_mtwo2 (l : Launch) (Z : Zt) (hm : Nat) (ad : MA) (cd n wg : Nat) (K F S T D V : Nat → Nat) (k i j : Nat) (hk1 : k ≤ 12) (hi : i < n) (hj : j < n) (hij : D i = D j) (hD : ∀ i, i < n → D i ≤ 64) (hn : n < 4000) (hwg : wg ≤ 100000) (hg : ¬ wt2 k (D i) + wg ≤ 100000)  : MC l yX4_two cX4_two 6 (some .int) 2 120 (0) (0) Z (mw Z hm ad cd n wg K F S T D V) (fun _ => True) [.ref hm, .int (nI k), .int (nI i), .int (nI j)] (fun r w1 => (∃ r0 : Int32, r = some (.int r0)) ∧ w1 = mw Z hm ad 2 n wg K F S T D V) := by
  refine mc_of (by decide) (Nat.le_of_ble_eq_true rfl) (fun p e s m below meth c ls A hx hb hr hts hown hlk hml hin hK hG hW hA hAe hro hl R hRf hRc hRs hRl => ?_)
  have hl : lv_has ls 6 [(0, .ref hm), (1, .int (nI k)), (2, .int (nI i)), (3, .int (nI j))] := hl
  have hW : Wd Z A s.heap ([eo hm 4 [.int (nI cd), .int (nI n), .int (nI wg), .ref ad.1, .ref ad.2.1, .ref ad.2.2.1, .ref ad.2.2.2.1, .ref ad.2.2.2.2.1, .ref ad.2.2.2.2.2], ey Z ad.1 4000 K, ea Z ad.2.1 4000 F, ea Z ad.2.2.1 4000 S, ea Z ad.2.2.2.1 4000 T, ea Z ad.2.2.2.2.1 4000 D, el Z ad.2.2.2.2.2 4000 V]) _ _ := hW
  have hdi := hD i hi
  have hwt := wt2_m k hk1 (D i) hdi
  refine lv_iload_n hx hb dX4_two_0 rfl (lv_at hl 1 rfl) ?_
  refine n_zlt_f (tgt := 23) hx hb (by omega) dX4_two_1 (by decide) ?_
  refine lv_iload_n hx hb dX4_two_4 rfl (lv_at hl 1 rfl) ?_
  refine lv_bipush (v := nI 12) hx hb dX4_two_5 (by decide) ?_
  refine n_gt_f (tgt := 23) hx hb (by omega) (by omega) dX4_two_7 (by decide) ?_
  refine lv_aload_n hx hb dX4_two_10 rfl (lv_at hl 0 rfl) ?_
  refine lv_iload_n hx hb dX4_two_11 rfl (lv_at hl 2 rfl) ?_
  refine lv_iload_n hx hb dX4_two_12 rfl (lv_at hl 3 rfl) ?_
  refine c_virt (As := [.int (nI i), .int (nI j)]) (rest := []) (wc := [eo hm 4 [.int (nI cd), .int (nI n), .int (nI wg), .ref ad.1, .ref ad.2.1, .ref ad.2.2.1, .ref ad.2.2.2.1, .ref ad.2.2.2.2.1, .ref ad.2.2.2.2.2], ey Z ad.1 4000 K, ea Z ad.2.1 4000 F, ea Z ad.2.2.1 4000 S, ea Z ad.2.2.2.1 4000 T, ea Z ad.2.2.2.2.1 4000 D, el Z ad.2.2.2.2.2 4000 V]) (wr := []) (nl := 0) hx hb hml hown hts hK hG rfl hA hl (k_like1 l Z hm ad cd n wg K F S T D V i j hi hj hij (by omega)) hW trivial (hW.at 0 rfl) rfl rfl tb_841 tb_843 ts_12 tb_7 tb_844 (nA := 2) (by decide +kernel) rfl ⟨by omega, by omega⟩ ⟨by omega, by omega⟩ rfl (Nat.le_of_ble_eq_true rfl) dX4_two_13 (fun v w1 H1 L1 hp hW hzz hkk hdd => ?_)
  obtain ⟨rfl, rfl⟩ := hp
  clear hzz hkk hdd
  generalize H1 = H at hW  ⊢
  generalize L1 = locs at hW ⊢
  have hW : Wd Z A s.heap ([eo hm 4 [.int (nI cd), .int (nI n), .int (nI wg), .ref ad.1, .ref ad.2.1, .ref ad.2.2.1, .ref ad.2.2.2.1, .ref ad.2.2.2.2.1, .ref ad.2.2.2.2.2], ey Z ad.1 4000 K, ea Z ad.2.1 4000 F, ea Z ad.2.2.1 4000 S, ea Z ad.2.2.2.1 4000 T, ea Z ad.2.2.2.2.1 4000 D, el Z ad.2.2.2.2.2 4000 V]) _ _ := hW
  refine W.eq (g2 := F0 m 16 ls [.int (nI 1)]) rfl ?_
  refine n_zeq_f (tgt := 23) hx hb (by decide) (by omega) dX4_two_16 (by decide) ?_
  refine lv_iconst (v := nI 1) hx hb dX4_two_19 (by decide) ?_
  refine lv_goto (tgt := 24) hx hb dX4_two_20 (by decide) ?_
  refine lv_istore (lv' := [(4, .int (nI 1)), (0, .ref hm), (1, .int (nI k)), (2, .int (nI i)), (3, .int (nI j))]) hx hb dX4_two_24 hl (by decide) rfl (fun ls hl => ?_)
  refine lv_iload hx hb dX4_two_26 (lv_at hl 0 rfl) ?_
  refine n_zeq_f (tgt := 40) hx hb (by decide) (by omega) dX4_two_28 (by decide) ?_
  refine lv_aload_n hx hb dX4_two_31 rfl (lv_at hl 1 rfl) ?_
  refine r_get hx hb hts hown hK (hW.at 0 rfl) rfl in_X4 7 (by decide) tb_786 (fun _ h => h) rfl dX4_two_32 ?_
  refine lv_iload_n hx hb dX4_two_35 rfl (lv_at hl 3 rfl) ?_
  refine r_ald (i := i) hx hb hK (hW.at 5 rfl) (by omega) (by omega) dX4_two_36 ?_
  refine lv_goto (tgt := 41) hx hb dX4_two_37 (by decide) ?_
  refine lv_istore (lv' := [(5, .int (nI (D i))), (4, .int (nI 1)), (0, .ref hm), (1, .int (nI k)), (2, .int (nI i)), (3, .int (nI j))]) hx hb dX4_two_41 hl (by decide) rfl (fun ls hl => ?_)
  refine lv_aload_n hx hb dX4_two_43 rfl (lv_at hl 2 rfl) ?_
  refine lv_iload hx hb dX4_two_44 (lv_at hl 1 rfl) ?_
  refine lv_iload_n hx hb dX4_two_46 rfl (lv_at hl 3 rfl) ?_
  refine lv_iload hx hb dX4_two_47 (lv_at hl 0 rfl) ?_
  refine c_stat (As := [.int (nI k), .int (nI (D i))]) (rest := [.int (nI 1), .ref hm]) (wc := []) (wr := [eo hm 4 [.int (nI cd), .int (nI n), .int (nI wg), .ref ad.1, .ref ad.2.1, .ref ad.2.2.1, .ref ad.2.2.2.1, .ref ad.2.2.2.2.1, .ref ad.2.2.2.2.2], ey Z ad.1 4000 K, ea Z ad.2.1 4000 F, ea Z ad.2.2.1 4000 S, ea Z ad.2.2.2.1 4000 T, ea Z ad.2.2.2.2.1 4000 D, el Z ad.2.2.2.2.2 4000 V]) hx hb hml hown hts hK hG rfl hA hl (k_heavy l Z k (D i) hk1 hdi) hW trivial tb_845 tb_846 tb_7 tb_847 (nA := 2) (by decide +kernel) rfl ⟨by omega, by omega⟩ ⟨by omega, by omega⟩ rfl (Nat.le_of_ble_eq_true rfl) dX4_two_49 (fun v w1 H1 L1 hp hW hzz hkk hdd => ?_)
  obtain ⟨rfl, rfl⟩ := hp
  clear hzz hkk hdd
  generalize H1 = H at hW  ⊢
  generalize L1 = locs at hW ⊢
  have hW : Wd Z A s.heap ([eo hm 4 [.int (nI cd), .int (nI n), .int (nI wg), .ref ad.1, .ref ad.2.1, .ref ad.2.2.1, .ref ad.2.2.2.1, .ref ad.2.2.2.2.1, .ref ad.2.2.2.2.2], ey Z ad.1 4000 K, ea Z ad.2.1 4000 F, ea Z ad.2.2.1 4000 S, ea Z ad.2.2.2.1 4000 T, ea Z ad.2.2.2.2.1 4000 D, el Z ad.2.2.2.2.2 4000 V]) _ _ := hW
  refine W.eq (g2 := F0 m 52 ls [.int (nI (wt2 k (D i))), .int (nI 1), .ref hm]) rfl ?_
  refine lv_bipush (v := nI 20) hx hb dX4_two_52 (by decide) ?_
  refine lv_iload_n hx hb dX4_two_54 rfl (lv_at hl 3 rfl) ?_
  refine n_iadd hx hb dX4_two_55 ?_
  refine lv_iload_n hx hb dX4_two_56 rfl (lv_at hl 4 rfl) ?_
  refine lv_iload_n hx hb dX4_two_57 rfl (lv_at hl 5 rfl) ?_
  refine lv_iconst (v := nI 0) hx hb dX4_two_58 (by decide) ?_
  refine lv_iload hx hb dX4_two_59 (lv_at hl 0 rfl) ?_
  refine c_virt (As := [.int (nI 1), .int (nI (wt2 k (D i))), .int (nI (20 + k)), .int (nI i), .int (nI j), .int (nI 0), .int (nI (D i))]) (rest := []) (wc := [eo hm 4 [.int (nI cd), .int (nI n), .int (nI wg), .ref ad.1, .ref ad.2.1, .ref ad.2.2.1, .ref ad.2.2.2.1, .ref ad.2.2.2.2.1, .ref ad.2.2.2.2.2], ey Z ad.1 4000 K, ea Z ad.2.1 4000 F, ea Z ad.2.2.1 4000 S, ea Z ad.2.2.2.1 4000 T, ea Z ad.2.2.2.2.1 4000 D, el Z ad.2.2.2.2.2 4000 V]) (wr := []) (nl := 0) hx hb hml hown hts hK hG rfl hA hl (k_madd2 l Z hm ad cd n wg K F S T D V (wt2 k (D i)) _ _ _ _ _ hn (by omega) (by omega)) hW trivial (hW.at 0 rfl) rfl rfl tb_816 tb_818 ts_10 tb_7 tb_819 (nA := 7) (by decide +kernel) rfl ⟨by omega, by omega⟩ ⟨by omega, by omega⟩ rfl (Nat.le_of_ble_eq_true rfl) dX4_two_61 (fun v w1 H1 L1 hp hW hzz hkk hdd => ?_)
  obtain ⟨rfl, rfl⟩ := hp
  clear hzz hkk hdd
  generalize H1 = H at hW  ⊢
  generalize L1 = locs at hW ⊢
  have hW : Wd Z A s.heap ([eo hm 4 [.int (nI 2), .int (nI n), .int (nI wg), .ref ad.1, .ref ad.2.1, .ref ad.2.2.1, .ref ad.2.2.2.1, .ref ad.2.2.2.2.1, .ref ad.2.2.2.2.2], ey Z ad.1 4000 K, ea Z ad.2.1 4000 F, ea Z ad.2.2.1 4000 S, ea Z ad.2.2.2.1 4000 T, ea Z ad.2.2.2.2.1 4000 D, el Z ad.2.2.2.2.2 4000 V]) _ _ := hW
  refine W.eq (g2 := F0 m 64 ls [.int (nI 0)]) rfl ?_
  exact e_int hx hb hr hlk hAe hW (by omega) (by omega) dX4_two_64 ⟨⟨_, rfl⟩, rfl⟩
set_option maxHeartbeats 4000000 in
set_option maxRecDepth 100000 in
theorem k_mcompare0 (l : Launch) (Z : Zt) (hm : Nat) (ad : MA) (cd n wg : Nat) (K F S T D V : Nat → Nat) (xk xa xb : Int32) (h : ¬ (knd xk 4 ∧ ∃ i j, i < n ∧ j < n ∧ xa = nI i ∧ xb = nI j ∧ D i = D j)) (hD : ∀ i, i < n → D i ≤ 64) (hn : n < 4000)  : MC l yX4_compare cX4_compare 6 (some .int) 2 120 (0) (0) Z (mw Z hm ad cd n wg K F S T D V) (fun _ => True) [.ref hm, .int xk, .int xa, .int xb] (fun r w1 => (∃ r0 : Int32, r = some (.int r0)) ∧ w1 = mw Z hm ad 1 n wg K F S T D V) := by
  refine mc_of (by decide) (Nat.le_of_ble_eq_true rfl) (fun p e s m below meth c ls A hx hb hr hts hown hlk hml hin hK hG hW hA hAe hro hl R hRf hRc hRs hRl => ?_)
  have hl : lv_has ls 6 [(0, .ref hm), (1, .int xk), (2, .int xa), (3, .int xb)] := hl
  have hW : Wd Z A s.heap ([eo hm 4 [.int (nI cd), .int (nI n), .int (nI wg), .ref ad.1, .ref ad.2.1, .ref ad.2.2.1, .ref ad.2.2.2.1, .ref ad.2.2.2.2.1, .ref ad.2.2.2.2.2], ey Z ad.1 4000 K, ea Z ad.2.1 4000 F, ea Z ad.2.2.1 4000 S, ea Z ad.2.2.2.1 4000 T, ea Z ad.2.2.2.2.1 4000 D, el Z ad.2.2.2.2.2 4000 V]) _ _ := hW
  refine lv_iload_n hx hb dX4_compare_0 rfl (lv_at hl 1 rfl) ?_
  by_cases hk : knd xk 4
  · have hl0 : ¬ ∃ i j, i < n ∧ j < n ∧ xa = nI i ∧ xb = nI j ∧ D i = D j := fun q => h ⟨hk, q⟩
    obtain ⟨k, hk1, rfl⟩ := hk
    refine n_zlt_f (tgt := 22) hx hb (by omega) dX4_compare_1 (by decide) ?_
    refine lv_iload_n hx hb dX4_compare_4 rfl (lv_at hl 1 rfl) ?_
    refine lv_iconst (v := nI 4) hx hb dX4_compare_5 (by decide) ?_
    refine n_gt_f (tgt := 22) hx hb (by omega) (by omega) dX4_compare_6 (by decide) ?_
    refine lv_aload_n hx hb dX4_compare_9 rfl (lv_at hl 0 rfl) ?_
    refine lv_iload_n hx hb dX4_compare_10 rfl (lv_at hl 2 rfl) ?_
    refine lv_iload_n hx hb dX4_compare_11 rfl (lv_at hl 3 rfl) ?_
    refine c_virt (As := [.int xa, .int xb]) (rest := []) (wc := [eo hm 4 [.int (nI cd), .int (nI n), .int (nI wg), .ref ad.1, .ref ad.2.1, .ref ad.2.2.1, .ref ad.2.2.2.1, .ref ad.2.2.2.2.1, .ref ad.2.2.2.2.2], ey Z ad.1 4000 K, ea Z ad.2.1 4000 F, ea Z ad.2.2.1 4000 S, ea Z ad.2.2.2.1 4000 T, ea Z ad.2.2.2.2.1 4000 D, el Z ad.2.2.2.2.2 4000 V]) (wr := []) (nl := 0) hx hb hml hown hts hK hG rfl hA hl (k_like0 l Z hm ad cd n wg K F S T D V xa xb hl0 (by omega) hD) hW trivial (hW.at 0 rfl) rfl rfl tb_841 tb_843 ts_12 tb_7 tb_844 (nA := 2) (by decide +kernel) rfl ⟨by omega, by omega⟩ ⟨by omega, by omega⟩ rfl (Nat.le_of_ble_eq_true rfl) dX4_compare_12 (fun v w1 H1 L1 hp hW hzz hkk hdd => ?_)
    obtain ⟨rfl, rfl⟩ := hp
    clear hzz hkk hdd
    generalize H1 = H at hW  ⊢
    generalize L1 = locs at hW ⊢
    have hW : Wd Z A s.heap ([eo hm 4 [.int (nI cd), .int (nI n), .int (nI wg), .ref ad.1, .ref ad.2.1, .ref ad.2.2.1, .ref ad.2.2.2.1, .ref ad.2.2.2.2.1, .ref ad.2.2.2.2.2], ey Z ad.1 4000 K, ea Z ad.2.1 4000 F, ea Z ad.2.2.1 4000 S, ea Z ad.2.2.2.1 4000 T, ea Z ad.2.2.2.2.1 4000 D, el Z ad.2.2.2.2.2 4000 V]) _ _ := hW
    refine W.eq (g2 := F0 m 15 ls [.int (nI 0)]) rfl ?_
    refine n_zeq_t (tgt := 22) hx hb rfl dX4_compare_15 (by decide) ?_
    refine lv_iconst (v := nI 0) hx hb dX4_compare_22 (by decide) ?_
    refine lv_istore (lv' := [(4, .int (nI 0)), (0, .ref hm), (1, .int (nI k)), (2, .int xa), (3, .int xb)]) hx hb dX4_compare_23 hl (by decide) rfl (fun ls hl => ?_)
    refine lv_iload hx hb dX4_compare_25 (lv_at hl 0 rfl) ?_
    refine n_zeq_t (tgt := 39) hx hb rfl dX4_compare_27 (by decide) ?_
    refine lv_iconst (v := nI 1) hx hb dX4_compare_39 (by decide) ?_
    refine lv_istore (lv' := [(5, .int (nI 1)), (4, .int (nI 0)), (0, .ref hm), (1, .int (nI k)), (2, .int xa), (3, .int xb)]) hx hb dX4_compare_40 hl (by decide) rfl (fun ls hl => ?_)
    refine lv_aload_n hx hb dX4_compare_42 rfl (lv_at hl 2 rfl) ?_
    refine lv_iload hx hb dX4_compare_43 (lv_at hl 1 rfl) ?_
    refine lv_bipush (v := nI 10) hx hb dX4_compare_45 (by decide) ?_
    refine lv_iload hx hb dX4_compare_47 (lv_at hl 0 rfl) ?_
    refine n_imul hx hb dX4_compare_49 ?_
    refine lv_bipush (v := nI 40) hx hb dX4_compare_50 (by decide) ?_
    refine lv_iload_n hx hb dX4_compare_52 rfl (lv_at hl 3 rfl) ?_
    refine n_iadd hx hb dX4_compare_53 ?_
    refine lv_iload_n hx hb dX4_compare_54 rfl (lv_at hl 4 rfl) ?_
    refine lv_iload_n hx hb dX4_compare_55 rfl (lv_at hl 5 rfl) ?_
    refine lv_iconst (v := nI 0) hx hb dX4_compare_56 (by decide) ?_
    refine lv_iconst (v := nI 1) hx hb dX4_compare_57 (by decide) ?_
    refine c_virt (As := [.int (nI 0), .int (nI (10 * 1)), .int (nI (40 + k)), .int xa, .int xb, .int (nI 0), .int (nI 1)]) (rest := []) (wc := [eo hm 4 [.int (nI cd), .int (nI n), .int (nI wg), .ref ad.1, .ref ad.2.1, .ref ad.2.2.1, .ref ad.2.2.2.1, .ref ad.2.2.2.2.1, .ref ad.2.2.2.2.2], ey Z ad.1 4000 K, ea Z ad.2.1 4000 F, ea Z ad.2.2.1 4000 S, ea Z ad.2.2.2.1 4000 T, ea Z ad.2.2.2.2.1 4000 D, el Z ad.2.2.2.2.2 4000 V]) (wr := []) (nl := 0) hx hb hml hown hts hK hG rfl hA hl (k_madd0 l Z hm ad cd n wg K F S T D V _ _ _ _ _ _) hW trivial (hW.at 0 rfl) rfl rfl tb_816 tb_818 ts_10 tb_7 tb_819 (nA := 7) (by decide +kernel) rfl ⟨by omega, by omega⟩ ⟨by omega, by omega⟩ rfl (Nat.le_of_ble_eq_true rfl) dX4_compare_58 (fun v w1 H1 L1 hp hW hzz hkk hdd => ?_)
    obtain ⟨rfl, rfl⟩ := hp
    clear hzz hkk hdd
    generalize H1 = H at hW  ⊢
    generalize L1 = locs at hW ⊢
    have hW : Wd Z A s.heap ([eo hm 4 [.int (nI 1), .int (nI n), .int (nI wg), .ref ad.1, .ref ad.2.1, .ref ad.2.2.1, .ref ad.2.2.2.1, .ref ad.2.2.2.2.1, .ref ad.2.2.2.2.2], ey Z ad.1 4000 K, ea Z ad.2.1 4000 F, ea Z ad.2.2.1 4000 S, ea Z ad.2.2.2.1 4000 T, ea Z ad.2.2.2.2.1 4000 D, el Z ad.2.2.2.2.2 4000 V]) _ _ := hW
    refine W.eq (g2 := F0 m 61 ls [.int (nI 0)]) rfl ?_
    exact e_int hx hb hr hlk hAe hW (by omega) (by omega) dX4_compare_61 ⟨⟨_, rfl⟩, rfl⟩
  · have hk9 := hk
    rw [knd_iff _ (by decide)] at hk9
    refine lv_if_lt (tgt := 22) hx hb dX4_compare_1 (by decide) (fun q1 => ?_) (fun q1 => ?_)
    all_goals rw [i_neg] at q1
    · refine lv_iconst (v := nI 0) hx hb dX4_compare_22 (by decide) ?_
      refine lv_istore (lv' := [(4, .int (nI 0)), (0, .ref hm), (1, .int xk), (2, .int xa), (3, .int xb)]) hx hb dX4_compare_23 hl (by decide) rfl (fun ls hl => ?_)
      refine lv_iload hx hb dX4_compare_25 (lv_at hl 0 rfl) ?_
      refine n_zeq_t (tgt := 39) hx hb rfl dX4_compare_27 (by decide) ?_
      refine lv_iconst (v := nI 1) hx hb dX4_compare_39 (by decide) ?_
      refine lv_istore (lv' := [(5, .int (nI 1)), (4, .int (nI 0)), (0, .ref hm), (1, .int xk), (2, .int xa), (3, .int xb)]) hx hb dX4_compare_40 hl (by decide) rfl (fun ls hl => ?_)
      refine lv_aload_n hx hb dX4_compare_42 rfl (lv_at hl 2 rfl) ?_
      refine lv_iload hx hb dX4_compare_43 (lv_at hl 1 rfl) ?_
      refine lv_bipush (v := nI 10) hx hb dX4_compare_45 (by decide) ?_
      refine lv_iload hx hb dX4_compare_47 (lv_at hl 0 rfl) ?_
      refine n_imul hx hb dX4_compare_49 ?_
      refine lv_bipush (v := nI 40) hx hb dX4_compare_50 (by decide) ?_
      refine lv_iload_n hx hb dX4_compare_52 rfl (lv_at hl 3 rfl) ?_
      refine lv_iadd hx hb dX4_compare_53 ?_
      refine lv_iload_n hx hb dX4_compare_54 rfl (lv_at hl 4 rfl) ?_
      refine lv_iload_n hx hb dX4_compare_55 rfl (lv_at hl 5 rfl) ?_
      refine lv_iconst (v := nI 0) hx hb dX4_compare_56 (by decide) ?_
      refine lv_iconst (v := nI 1) hx hb dX4_compare_57 (by decide) ?_
      refine c_virt (As := [.int (nI 0), .int (nI (10 * 1)), .int ((nI 40) + xk), .int xa, .int xb, .int (nI 0), .int (nI 1)]) (rest := []) (wc := [eo hm 4 [.int (nI cd), .int (nI n), .int (nI wg), .ref ad.1, .ref ad.2.1, .ref ad.2.2.1, .ref ad.2.2.2.1, .ref ad.2.2.2.2.1, .ref ad.2.2.2.2.2], ey Z ad.1 4000 K, ea Z ad.2.1 4000 F, ea Z ad.2.2.1 4000 S, ea Z ad.2.2.2.1 4000 T, ea Z ad.2.2.2.2.1 4000 D, el Z ad.2.2.2.2.2 4000 V]) (wr := []) (nl := 0) hx hb hml hown hts hK hG rfl hA hl (k_madd0 l Z hm ad cd n wg K F S T D V _ _ _ _ _ _) hW trivial (hW.at 0 rfl) rfl rfl tb_816 tb_818 ts_10 tb_7 tb_819 (nA := 7) (by decide +kernel) rfl ⟨by omega, by omega⟩ ⟨by omega, by omega⟩ rfl (Nat.le_of_ble_eq_true rfl) dX4_compare_58 (fun v w1 H1 L1 hp hW hzz hkk hdd => ?_)
      obtain ⟨rfl, rfl⟩ := hp
      clear hzz hkk hdd
      generalize H1 = H at hW  ⊢
      generalize L1 = locs at hW ⊢
      have hW : Wd Z A s.heap ([eo hm 4 [.int (nI 1), .int (nI n), .int (nI wg), .ref ad.1, .ref ad.2.1, .ref ad.2.2.1, .ref ad.2.2.2.1, .ref ad.2.2.2.2.1, .ref ad.2.2.2.2.2], ey Z ad.1 4000 K, ea Z ad.2.1 4000 F, ea Z ad.2.2.1 4000 S, ea Z ad.2.2.2.1 4000 T, ea Z ad.2.2.2.2.1 4000 D, el Z ad.2.2.2.2.2 4000 V]) _ _ := hW
      refine W.eq (g2 := F0 m 61 ls [.int (nI 0)]) rfl ?_
      exact e_int hx hb hr hlk hAe hW (by omega) (by omega) dX4_compare_61 ⟨⟨_, rfl⟩, rfl⟩
    · refine lv_iload_n hx hb dX4_compare_4 rfl (lv_at hl 1 rfl) ?_
      refine lv_iconst (v := nI 4) hx hb dX4_compare_5 (by decide) ?_
      refine lv_icmp_gt (tgt := 22) hx hb dX4_compare_6 (by decide) (fun q2 => ?_) (fun q2 => ?_)
      all_goals rw [i_gt _ (by decide)] at q2
      · refine lv_iconst (v := nI 0) hx hb dX4_compare_22 (by decide) ?_
        refine lv_istore (lv' := [(4, .int (nI 0)), (0, .ref hm), (1, .int xk), (2, .int xa), (3, .int xb)]) hx hb dX4_compare_23 hl (by decide) rfl (fun ls hl => ?_)
        refine lv_iload hx hb dX4_compare_25 (lv_at hl 0 rfl) ?_
        refine n_zeq_t (tgt := 39) hx hb rfl dX4_compare_27 (by decide) ?_
        refine lv_iconst (v := nI 1) hx hb dX4_compare_39 (by decide) ?_
        refine lv_istore (lv' := [(5, .int (nI 1)), (4, .int (nI 0)), (0, .ref hm), (1, .int xk), (2, .int xa), (3, .int xb)]) hx hb dX4_compare_40 hl (by decide) rfl (fun ls hl => ?_)
        refine lv_aload_n hx hb dX4_compare_42 rfl (lv_at hl 2 rfl) ?_
        refine lv_iload hx hb dX4_compare_43 (lv_at hl 1 rfl) ?_
        refine lv_bipush (v := nI 10) hx hb dX4_compare_45 (by decide) ?_
        refine lv_iload hx hb dX4_compare_47 (lv_at hl 0 rfl) ?_
        refine n_imul hx hb dX4_compare_49 ?_
        refine lv_bipush (v := nI 40) hx hb dX4_compare_50 (by decide) ?_
        refine lv_iload_n hx hb dX4_compare_52 rfl (lv_at hl 3 rfl) ?_
        refine lv_iadd hx hb dX4_compare_53 ?_
        refine lv_iload_n hx hb dX4_compare_54 rfl (lv_at hl 4 rfl) ?_
        refine lv_iload_n hx hb dX4_compare_55 rfl (lv_at hl 5 rfl) ?_
        refine lv_iconst (v := nI 0) hx hb dX4_compare_56 (by decide) ?_
        refine lv_iconst (v := nI 1) hx hb dX4_compare_57 (by decide) ?_
        refine c_virt (As := [.int (nI 0), .int (nI (10 * 1)), .int ((nI 40) + xk), .int xa, .int xb, .int (nI 0), .int (nI 1)]) (rest := []) (wc := [eo hm 4 [.int (nI cd), .int (nI n), .int (nI wg), .ref ad.1, .ref ad.2.1, .ref ad.2.2.1, .ref ad.2.2.2.1, .ref ad.2.2.2.2.1, .ref ad.2.2.2.2.2], ey Z ad.1 4000 K, ea Z ad.2.1 4000 F, ea Z ad.2.2.1 4000 S, ea Z ad.2.2.2.1 4000 T, ea Z ad.2.2.2.2.1 4000 D, el Z ad.2.2.2.2.2 4000 V]) (wr := []) (nl := 0) hx hb hml hown hts hK hG rfl hA hl (k_madd0 l Z hm ad cd n wg K F S T D V _ _ _ _ _ _) hW trivial (hW.at 0 rfl) rfl rfl tb_816 tb_818 ts_10 tb_7 tb_819 (nA := 7) (by decide +kernel) rfl ⟨by omega, by omega⟩ ⟨by omega, by omega⟩ rfl (Nat.le_of_ble_eq_true rfl) dX4_compare_58 (fun v w1 H1 L1 hp hW hzz hkk hdd => ?_)
        obtain ⟨rfl, rfl⟩ := hp
        clear hzz hkk hdd
        generalize H1 = H at hW  ⊢
        generalize L1 = locs at hW ⊢
        have hW : Wd Z A s.heap ([eo hm 4 [.int (nI 1), .int (nI n), .int (nI wg), .ref ad.1, .ref ad.2.1, .ref ad.2.2.1, .ref ad.2.2.2.1, .ref ad.2.2.2.2.1, .ref ad.2.2.2.2.2], ey Z ad.1 4000 K, ea Z ad.2.1 4000 F, ea Z ad.2.2.1 4000 S, ea Z ad.2.2.2.1 4000 T, ea Z ad.2.2.2.2.1 4000 D, el Z ad.2.2.2.2.2 4000 V]) _ _ := hW
        refine W.eq (g2 := F0 m 61 ls [.int (nI 0)]) rfl ?_
        exact e_int hx hb hr hlk hAe hW (by omega) (by omega) dX4_compare_61 ⟨⟨_, rfl⟩, rfl⟩
      · exfalso; omega
set_option maxHeartbeats 4000000 in
set_option maxRecDepth 100000 in
theorem k_mcompare1 (l : Launch) (Z : Zt) (hm : Nat) (ad : MA) (cd n wg : Nat) (K F S T D V : Nat → Nat) (k i j : Nat) (hk1 : k ≤ 4) (hi : i < n) (hj : j < n) (hij : D i = D j) (hD : ∀ i, i < n → D i ≤ 64) (hn : n < 4000) (hwg : wg ≤ 100000) (hg : 10 * D i + wg ≤ 100000)  : MC l yX4_compare cX4_compare 6 (some .int) 2 120 (0) (0) Z (mw Z hm ad cd n wg K F S T D V) (fun _ => True) [.ref hm, .int (nI k), .int (nI i), .int (nI j)] (fun r w1 => r = some (.int (nI n)) ∧ w1 = mw Z hm ad 0 (n + 1) (wg + (10 * D i)) (up K n (40 + k)) (up F n i) (up S n j) (up T n 0) (up D n 1) (up V n 0)) := by
  refine mc_of (by decide) (Nat.le_of_ble_eq_true rfl) (fun p e s m below meth c ls A hx hb hr hts hown hlk hml hin hK hG hW hA hAe hro hl R hRf hRc hRs hRl => ?_)
  have hl : lv_has ls 6 [(0, .ref hm), (1, .int (nI k)), (2, .int (nI i)), (3, .int (nI j))] := hl
  have hW : Wd Z A s.heap ([eo hm 4 [.int (nI cd), .int (nI n), .int (nI wg), .ref ad.1, .ref ad.2.1, .ref ad.2.2.1, .ref ad.2.2.2.1, .ref ad.2.2.2.2.1, .ref ad.2.2.2.2.2], ey Z ad.1 4000 K, ea Z ad.2.1 4000 F, ea Z ad.2.2.1 4000 S, ea Z ad.2.2.2.1 4000 T, ea Z ad.2.2.2.2.1 4000 D, el Z ad.2.2.2.2.2 4000 V]) _ _ := hW
  have hdi := hD i hi
  refine lv_iload_n hx hb dX4_compare_0 rfl (lv_at hl 1 rfl) ?_
  refine n_zlt_f (tgt := 22) hx hb (by omega) dX4_compare_1 (by decide) ?_
  refine lv_iload_n hx hb dX4_compare_4 rfl (lv_at hl 1 rfl) ?_
  refine lv_iconst (v := nI 4) hx hb dX4_compare_5 (by decide) ?_
  refine n_gt_f (tgt := 22) hx hb (by omega) (by omega) dX4_compare_6 (by decide) ?_
  refine lv_aload_n hx hb dX4_compare_9 rfl (lv_at hl 0 rfl) ?_
  refine lv_iload_n hx hb dX4_compare_10 rfl (lv_at hl 2 rfl) ?_
  refine lv_iload_n hx hb dX4_compare_11 rfl (lv_at hl 3 rfl) ?_
  refine c_virt (As := [.int (nI i), .int (nI j)]) (rest := []) (wc := [eo hm 4 [.int (nI cd), .int (nI n), .int (nI wg), .ref ad.1, .ref ad.2.1, .ref ad.2.2.1, .ref ad.2.2.2.1, .ref ad.2.2.2.2.1, .ref ad.2.2.2.2.2], ey Z ad.1 4000 K, ea Z ad.2.1 4000 F, ea Z ad.2.2.1 4000 S, ea Z ad.2.2.2.1 4000 T, ea Z ad.2.2.2.2.1 4000 D, el Z ad.2.2.2.2.2 4000 V]) (wr := []) (nl := 0) hx hb hml hown hts hK hG rfl hA hl (k_like1 l Z hm ad cd n wg K F S T D V i j hi hj hij (by omega)) hW trivial (hW.at 0 rfl) rfl rfl tb_841 tb_843 ts_12 tb_7 tb_844 (nA := 2) (by decide +kernel) rfl ⟨by omega, by omega⟩ ⟨by omega, by omega⟩ rfl (Nat.le_of_ble_eq_true rfl) dX4_compare_12 (fun v w1 H1 L1 hp hW hzz hkk hdd => ?_)
  obtain ⟨rfl, rfl⟩ := hp
  clear hzz hkk hdd
  generalize H1 = H at hW  ⊢
  generalize L1 = locs at hW ⊢
  have hW : Wd Z A s.heap ([eo hm 4 [.int (nI cd), .int (nI n), .int (nI wg), .ref ad.1, .ref ad.2.1, .ref ad.2.2.1, .ref ad.2.2.2.1, .ref ad.2.2.2.2.1, .ref ad.2.2.2.2.2], ey Z ad.1 4000 K, ea Z ad.2.1 4000 F, ea Z ad.2.2.1 4000 S, ea Z ad.2.2.2.1 4000 T, ea Z ad.2.2.2.2.1 4000 D, el Z ad.2.2.2.2.2 4000 V]) _ _ := hW
  refine W.eq (g2 := F0 m 15 ls [.int (nI 1)]) rfl ?_
  refine n_zeq_f (tgt := 22) hx hb (by decide) (by omega) dX4_compare_15 (by decide) ?_
  refine lv_iconst (v := nI 1) hx hb dX4_compare_18 (by decide) ?_
  refine lv_goto (tgt := 23) hx hb dX4_compare_19 (by decide) ?_
  refine lv_istore (lv' := [(4, .int (nI 1)), (0, .ref hm), (1, .int (nI k)), (2, .int (nI i)), (3, .int (nI j))]) hx hb dX4_compare_23 hl (by decide) rfl (fun ls hl => ?_)
  refine lv_iload hx hb dX4_compare_25 (lv_at hl 0 rfl) ?_
  refine n_zeq_f (tgt := 39) hx hb (by decide) (by omega) dX4_compare_27 (by decide) ?_
  refine lv_aload_n hx hb dX4_compare_30 rfl (lv_at hl 1 rfl) ?_
  refine r_get hx hb hts hown hK (hW.at 0 rfl) rfl in_X4 7 (by decide) tb_786 (fun _ h => h) rfl dX4_compare_31 ?_
  refine lv_iload_n hx hb dX4_compare_34 rfl (lv_at hl 3 rfl) ?_
  refine r_ald (i := i) hx hb hK (hW.at 5 rfl) (by omega) (by omega) dX4_compare_35 ?_
  refine lv_goto (tgt := 40) hx hb dX4_compare_36 (by decide) ?_
  refine lv_istore (lv' := [(5, .int (nI (D i))), (4, .int (nI 1)), (0, .ref hm), (1, .int (nI k)), (2, .int (nI i)), (3, .int (nI j))]) hx hb dX4_compare_40 hl (by decide) rfl (fun ls hl => ?_)
  refine lv_aload_n hx hb dX4_compare_42 rfl (lv_at hl 2 rfl) ?_
  refine lv_iload hx hb dX4_compare_43 (lv_at hl 1 rfl) ?_
  refine lv_bipush (v := nI 10) hx hb dX4_compare_45 (by decide) ?_
  refine lv_iload hx hb dX4_compare_47 (lv_at hl 0 rfl) ?_
  refine n_imul hx hb dX4_compare_49 ?_
  refine lv_bipush (v := nI 40) hx hb dX4_compare_50 (by decide) ?_
  refine lv_iload_n hx hb dX4_compare_52 rfl (lv_at hl 3 rfl) ?_
  refine n_iadd hx hb dX4_compare_53 ?_
  refine lv_iload_n hx hb dX4_compare_54 rfl (lv_at hl 4 rfl) ?_
  refine lv_iload_n hx hb dX4_compare_55 rfl (lv_at hl 5 rfl) ?_
  refine lv_iconst (v := nI 0) hx hb dX4_compare_56 (by decide) ?_
  refine lv_iconst (v := nI 1) hx hb dX4_compare_57 (by decide) ?_
  refine c_virt (As := [.int (nI 1), .int (nI (10 * (D i))), .int (nI (40 + k)), .int (nI i), .int (nI j), .int (nI 0), .int (nI 1)]) (rest := []) (wc := [eo hm 4 [.int (nI cd), .int (nI n), .int (nI wg), .ref ad.1, .ref ad.2.1, .ref ad.2.2.1, .ref ad.2.2.2.1, .ref ad.2.2.2.2.1, .ref ad.2.2.2.2.2], ey Z ad.1 4000 K, ea Z ad.2.1 4000 F, ea Z ad.2.2.1 4000 S, ea Z ad.2.2.2.1 4000 T, ea Z ad.2.2.2.2.1 4000 D, el Z ad.2.2.2.2.2 4000 V]) (wr := []) (nl := 0) hx hb hml hown hts hK hG rfl hA hl (k_madd1 l Z hm ad cd n wg K F S T D V (10 * D i) (40 + k) i j 0 1 hn (by omega) (by omega)) hW trivial (hW.at 0 rfl) rfl rfl tb_816 tb_818 ts_10 tb_7 tb_819 (nA := 7) (by decide +kernel) rfl ⟨by omega, by omega⟩ ⟨by omega, by omega⟩ rfl (Nat.le_of_ble_eq_true rfl) dX4_compare_58 (fun v w1 H1 L1 hp hW hzz hkk hdd => ?_)
  obtain ⟨rfl, rfl⟩ := hp
  clear hzz hkk hdd
  generalize H1 = H at hW  ⊢
  generalize L1 = locs at hW ⊢
  have hW : Wd Z A s.heap ([eo hm 4 [.int (nI 0), .int (nI (n + 1)), .int (nI (wg + (10 * D i))), .ref ad.1, .ref ad.2.1, .ref ad.2.2.1, .ref ad.2.2.2.1, .ref ad.2.2.2.2.1, .ref ad.2.2.2.2.2], ey Z ad.1 4000 (up K n (40 + k)), ea Z ad.2.1 4000 (up F n i), ea Z ad.2.2.1 4000 (up S n j), ea Z ad.2.2.2.1 4000 (up T n 0), ea Z ad.2.2.2.2.1 4000 (up D n 1), el Z ad.2.2.2.2.2 4000 (up V n 0)]) _ _ := hW
  refine W.eq (g2 := F0 m 61 ls [.int (nI n)]) rfl ?_
  exact e_int hx hb hr hlk hAe hW (by omega) (by omega) dX4_compare_61 ⟨rfl, rfl⟩
set_option maxHeartbeats 4000000 in
set_option maxRecDepth 100000 in
theorem k_mcompare2 (l : Launch) (Z : Zt) (hm : Nat) (ad : MA) (cd n wg : Nat) (K F S T D V : Nat → Nat) (k i j : Nat) (hk1 : k ≤ 4) (hi : i < n) (hj : j < n) (hij : D i = D j) (hD : ∀ i, i < n → D i ≤ 64) (hn : n < 4000) (hwg : wg ≤ 100000) (hg : ¬ 10 * D i + wg ≤ 100000)  : MC l yX4_compare cX4_compare 6 (some .int) 2 120 (0) (0) Z (mw Z hm ad cd n wg K F S T D V) (fun _ => True) [.ref hm, .int (nI k), .int (nI i), .int (nI j)] (fun r w1 => (∃ r0 : Int32, r = some (.int r0)) ∧ w1 = mw Z hm ad 2 n wg K F S T D V) := by
  refine mc_of (by decide) (Nat.le_of_ble_eq_true rfl) (fun p e s m below meth c ls A hx hb hr hts hown hlk hml hin hK hG hW hA hAe hro hl R hRf hRc hRs hRl => ?_)
  have hl : lv_has ls 6 [(0, .ref hm), (1, .int (nI k)), (2, .int (nI i)), (3, .int (nI j))] := hl
  have hW : Wd Z A s.heap ([eo hm 4 [.int (nI cd), .int (nI n), .int (nI wg), .ref ad.1, .ref ad.2.1, .ref ad.2.2.1, .ref ad.2.2.2.1, .ref ad.2.2.2.2.1, .ref ad.2.2.2.2.2], ey Z ad.1 4000 K, ea Z ad.2.1 4000 F, ea Z ad.2.2.1 4000 S, ea Z ad.2.2.2.1 4000 T, ea Z ad.2.2.2.2.1 4000 D, el Z ad.2.2.2.2.2 4000 V]) _ _ := hW
  have hdi := hD i hi
  refine lv_iload_n hx hb dX4_compare_0 rfl (lv_at hl 1 rfl) ?_
  refine n_zlt_f (tgt := 22) hx hb (by omega) dX4_compare_1 (by decide) ?_
  refine lv_iload_n hx hb dX4_compare_4 rfl (lv_at hl 1 rfl) ?_
  refine lv_iconst (v := nI 4) hx hb dX4_compare_5 (by decide) ?_
  refine n_gt_f (tgt := 22) hx hb (by omega) (by omega) dX4_compare_6 (by decide) ?_
  refine lv_aload_n hx hb dX4_compare_9 rfl (lv_at hl 0 rfl) ?_
  refine lv_iload_n hx hb dX4_compare_10 rfl (lv_at hl 2 rfl) ?_
  refine lv_iload_n hx hb dX4_compare_11 rfl (lv_at hl 3 rfl) ?_
  refine c_virt (As := [.int (nI i), .int (nI j)]) (rest := []) (wc := [eo hm 4 [.int (nI cd), .int (nI n), .int (nI wg), .ref ad.1, .ref ad.2.1, .ref ad.2.2.1, .ref ad.2.2.2.1, .ref ad.2.2.2.2.1, .ref ad.2.2.2.2.2], ey Z ad.1 4000 K, ea Z ad.2.1 4000 F, ea Z ad.2.2.1 4000 S, ea Z ad.2.2.2.1 4000 T, ea Z ad.2.2.2.2.1 4000 D, el Z ad.2.2.2.2.2 4000 V]) (wr := []) (nl := 0) hx hb hml hown hts hK hG rfl hA hl (k_like1 l Z hm ad cd n wg K F S T D V i j hi hj hij (by omega)) hW trivial (hW.at 0 rfl) rfl rfl tb_841 tb_843 ts_12 tb_7 tb_844 (nA := 2) (by decide +kernel) rfl ⟨by omega, by omega⟩ ⟨by omega, by omega⟩ rfl (Nat.le_of_ble_eq_true rfl) dX4_compare_12 (fun v w1 H1 L1 hp hW hzz hkk hdd => ?_)
  obtain ⟨rfl, rfl⟩ := hp
  clear hzz hkk hdd
  generalize H1 = H at hW  ⊢
  generalize L1 = locs at hW ⊢
  have hW : Wd Z A s.heap ([eo hm 4 [.int (nI cd), .int (nI n), .int (nI wg), .ref ad.1, .ref ad.2.1, .ref ad.2.2.1, .ref ad.2.2.2.1, .ref ad.2.2.2.2.1, .ref ad.2.2.2.2.2], ey Z ad.1 4000 K, ea Z ad.2.1 4000 F, ea Z ad.2.2.1 4000 S, ea Z ad.2.2.2.1 4000 T, ea Z ad.2.2.2.2.1 4000 D, el Z ad.2.2.2.2.2 4000 V]) _ _ := hW
  refine W.eq (g2 := F0 m 15 ls [.int (nI 1)]) rfl ?_
  refine n_zeq_f (tgt := 22) hx hb (by decide) (by omega) dX4_compare_15 (by decide) ?_
  refine lv_iconst (v := nI 1) hx hb dX4_compare_18 (by decide) ?_
  refine lv_goto (tgt := 23) hx hb dX4_compare_19 (by decide) ?_
  refine lv_istore (lv' := [(4, .int (nI 1)), (0, .ref hm), (1, .int (nI k)), (2, .int (nI i)), (3, .int (nI j))]) hx hb dX4_compare_23 hl (by decide) rfl (fun ls hl => ?_)
  refine lv_iload hx hb dX4_compare_25 (lv_at hl 0 rfl) ?_
  refine n_zeq_f (tgt := 39) hx hb (by decide) (by omega) dX4_compare_27 (by decide) ?_
  refine lv_aload_n hx hb dX4_compare_30 rfl (lv_at hl 1 rfl) ?_
  refine r_get hx hb hts hown hK (hW.at 0 rfl) rfl in_X4 7 (by decide) tb_786 (fun _ h => h) rfl dX4_compare_31 ?_
  refine lv_iload_n hx hb dX4_compare_34 rfl (lv_at hl 3 rfl) ?_
  refine r_ald (i := i) hx hb hK (hW.at 5 rfl) (by omega) (by omega) dX4_compare_35 ?_
  refine lv_goto (tgt := 40) hx hb dX4_compare_36 (by decide) ?_
  refine lv_istore (lv' := [(5, .int (nI (D i))), (4, .int (nI 1)), (0, .ref hm), (1, .int (nI k)), (2, .int (nI i)), (3, .int (nI j))]) hx hb dX4_compare_40 hl (by decide) rfl (fun ls hl => ?_)
  refine lv_aload_n hx hb dX4_compare_42 rfl (lv_at hl 2 rfl) ?_
  refine lv_iload hx hb dX4_compare_43 (lv_at hl 1 rfl) ?_
  refine lv_bipush (v := nI 10) hx hb dX4_compare_45 (by decide) ?_
  refine lv_iload hx hb dX4_compare_47 (lv_at hl 0 rfl) ?_
  refine n_imul hx hb dX4_compare_49 ?_
  refine lv_bipush (v := nI 40) hx hb dX4_compare_50 (by decide) ?_
  refine lv_iload_n hx hb dX4_compare_52 rfl (lv_at hl 3 rfl) ?_
  refine n_iadd hx hb dX4_compare_53 ?_
  refine lv_iload_n hx hb dX4_compare_54 rfl (lv_at hl 4 rfl) ?_
  refine lv_iload_n hx hb dX4_compare_55 rfl (lv_at hl 5 rfl) ?_
  refine lv_iconst (v := nI 0) hx hb dX4_compare_56 (by decide) ?_
  refine lv_iconst (v := nI 1) hx hb dX4_compare_57 (by decide) ?_
  refine c_virt (As := [.int (nI 1), .int (nI (10 * (D i))), .int (nI (40 + k)), .int (nI i), .int (nI j), .int (nI 0), .int (nI 1)]) (rest := []) (wc := [eo hm 4 [.int (nI cd), .int (nI n), .int (nI wg), .ref ad.1, .ref ad.2.1, .ref ad.2.2.1, .ref ad.2.2.2.1, .ref ad.2.2.2.2.1, .ref ad.2.2.2.2.2], ey Z ad.1 4000 K, ea Z ad.2.1 4000 F, ea Z ad.2.2.1 4000 S, ea Z ad.2.2.2.1 4000 T, ea Z ad.2.2.2.2.1 4000 D, el Z ad.2.2.2.2.2 4000 V]) (wr := []) (nl := 0) hx hb hml hown hts hK hG rfl hA hl (k_madd2 l Z hm ad cd n wg K F S T D V (10 * D i) _ _ _ _ _ hn (by omega) (by omega)) hW trivial (hW.at 0 rfl) rfl rfl tb_816 tb_818 ts_10 tb_7 tb_819 (nA := 7) (by decide +kernel) rfl ⟨by omega, by omega⟩ ⟨by omega, by omega⟩ rfl (Nat.le_of_ble_eq_true rfl) dX4_compare_58 (fun v w1 H1 L1 hp hW hzz hkk hdd => ?_)
  obtain ⟨rfl, rfl⟩ := hp
  clear hzz hkk hdd
  generalize H1 = H at hW  ⊢
  generalize L1 = locs at hW ⊢
  have hW : Wd Z A s.heap ([eo hm 4 [.int (nI 2), .int (nI n), .int (nI wg), .ref ad.1, .ref ad.2.1, .ref ad.2.2.1, .ref ad.2.2.2.1, .ref ad.2.2.2.2.1, .ref ad.2.2.2.2.2], ey Z ad.1 4000 K, ea Z ad.2.1 4000 F, ea Z ad.2.2.1 4000 S, ea Z ad.2.2.2.1 4000 T, ea Z ad.2.2.2.2.1 4000 D, el Z ad.2.2.2.2.2 4000 V]) _ _ := hW
  refine W.eq (g2 := F0 m 61 ls [.int (nI 0)]) rfl ?_
  exact e_int hx hb hr hlk hAe hW (by omega) (by omega) dX4_compare_61 ⟨⟨_, rfl⟩, rfl⟩
set_option maxHeartbeats 4000000 in
set_option maxRecDepth 100000 in
theorem k_mchoose0 (l : Launch) (Z : Zt) (hm : Nat) (ad : MA) (cd n wg : Nat) (K F S T D V : Nat → Nat) (xc xa xb : Int32) (h : ¬ ∃ h i j, h < n ∧ i < n ∧ j < n ∧ xc = nI h ∧ xa = nI i ∧ xb = nI j ∧ D i = D j ∧ D h = 1) (hD : ∀ i, i < n → D i ≤ 64) (hn : n < 4000)  : MC l yX4_choose cX4_choose 6 (some .int) 2 120 (0) (0) Z (mw Z hm ad cd n wg K F S T D V) (fun _ => True) [.ref hm, .int xc, .int xa, .int xb] (fun r w1 => (∃ r0 : Int32, r = some (.int r0)) ∧ w1 = mw Z hm ad 1 n wg K F S T D V) := by
  refine mc_of (by decide) (Nat.le_of_ble_eq_true rfl) (fun p e s m below meth c ls A hx hb hr hts hown hlk hml hin hK hG hW hA hAe hro hl R hRf hRc hRs hRl => ?_)
  have hl : lv_has ls 6 [(0, .ref hm), (1, .int xc), (2, .int xa), (3, .int xb)] := hl
  have hW : Wd Z A s.heap ([eo hm 4 [.int (nI cd), .int (nI n), .int (nI wg), .ref ad.1, .ref ad.2.1, .ref ad.2.2.1, .ref ad.2.2.2.1, .ref ad.2.2.2.2.1, .ref ad.2.2.2.2.2], ey Z ad.1 4000 K, ea Z ad.2.1 4000 F, ea Z ad.2.2.1 4000 S, ea Z ad.2.2.2.1 4000 T, ea Z ad.2.2.2.2.1 4000 D, el Z ad.2.2.2.2.2 4000 V]) _ _ := hW
  refine lv_aload_n hx hb dX4_choose_0 rfl (lv_at hl 0 rfl) ?_
  refine lv_iload_n hx hb dX4_choose_1 rfl (lv_at hl 1 rfl) ?_
  by_cases hc : vix xc n
  · obtain ⟨z, hz, rfl⟩ := hc
    have hdz := hD z hz
    refine c_virt (As := [.int (nI z)]) (rest := []) (wc := [eo hm 4 [.int (nI cd), .int (nI n), .int (nI wg), .ref ad.1, .ref ad.2.1, .ref ad.2.2.1, .ref ad.2.2.2.1, .ref ad.2.2.2.2.1, .ref ad.2.2.2.2.2], ey Z ad.1 4000 K, ea Z ad.2.1 4000 F, ea Z ad.2.2.1 4000 S, ea Z ad.2.2.2.1 4000 T, ea Z ad.2.2.2.2.1 4000 D, el Z ad.2.2.2.2.2 4000 V]) (wr := []) (nl := 0) hx hb hml hown hts hK hG rfl hA hl (k_is1 l Z hm ad cd n wg K F S T D V z hz (by omega)) hW trivial (hW.at 0 rfl) rfl rfl tb_833 tb_835 ts_11 tb_7 tb_836 (nA := 1) (by decide +kernel) rfl ⟨by omega, by omega⟩ ⟨by omega, by omega⟩ rfl (Nat.le_of_ble_eq_true rfl) dX4_choose_2 (fun v w1 H1 L1 hp hW hzz hkk hdd => ?_)
    obtain ⟨rfl, rfl⟩ := hp
    clear hzz hkk hdd
    generalize H1 = H at hW  ⊢
    generalize L1 = locs at hW ⊢
    have hW : Wd Z A s.heap ([eo hm 4 [.int (nI cd), .int (nI n), .int (nI wg), .ref ad.1, .ref ad.2.1, .ref ad.2.2.1, .ref ad.2.2.2.1, .ref ad.2.2.2.2.1, .ref ad.2.2.2.2.2], ey Z ad.1 4000 K, ea Z ad.2.1 4000 F, ea Z ad.2.2.1 4000 S, ea Z ad.2.2.2.1 4000 T, ea Z ad.2.2.2.2.1 4000 D, el Z ad.2.2.2.2.2 4000 V]) _ _ := hW
    refine W.eq (g2 := F0 m 5 ls [.int (nI 1)]) rfl ?_
    refine n_zeq_f (tgt := 31) hx hb (by decide) (by omega) dX4_choose_5 (by decide) ?_
    refine lv_aload_n hx hb dX4_choose_8 rfl (lv_at hl 0 rfl) ?_
    refine r_get hx hb hts hown hK (hW.at 0 rfl) rfl in_X4 7 (by decide) tb_786 (fun _ h => h) rfl dX4_choose_9 ?_
    refine lv_iload_n hx hb dX4_choose_12 rfl (lv_at hl 1 rfl) ?_
    refine r_ald (i := z) hx hb hK (hW.at 5 rfl) (by omega) (by omega) dX4_choose_13 ?_
    refine lv_iconst (v := nI 1) hx hb dX4_choose_14 (by decide) ?_
    by_cases hz1 : D z = 1
    · refine n_ne_f (tgt := 31) hx hb hz1 dX4_choose_15 (by decide) ?_
      refine lv_aload_n hx hb dX4_choose_18 rfl (lv_at hl 0 rfl) ?_
      refine lv_iload_n hx hb dX4_choose_19 rfl (lv_at hl 2 rfl) ?_
      refine lv_iload_n hx hb dX4_choose_20 rfl (lv_at hl 3 rfl) ?_
      refine c_virt (As := [.int xa, .int xb]) (rest := []) (wc := [eo hm 4 [.int (nI cd), .int (nI n), .int (nI wg), .ref ad.1, .ref ad.2.1, .ref ad.2.2.1, .ref ad.2.2.2.1, .ref ad.2.2.2.2.1, .ref ad.2.2.2.2.2], ey Z ad.1 4000 K, ea Z ad.2.1 4000 F, ea Z ad.2.2.1 4000 S, ea Z ad.2.2.2.1 4000 T, ea Z ad.2.2.2.2.1 4000 D, el Z ad.2.2.2.2.2 4000 V]) (wr := []) (nl := 0) hx hb hml hown hts hK hG rfl hA hl (k_like0 l Z hm ad cd n wg K F S T D V xa xb (fun ⟨i, j, hi, hj, e1, e2, e3⟩ => h ⟨z, i, j, hz, hi, hj, rfl, e1, e2, e3, hz1⟩) (by omega) hD) hW trivial (hW.at 0 rfl) rfl rfl tb_841 tb_843 ts_12 tb_7 tb_844 (nA := 2) (by decide +kernel) rfl ⟨by omega, by omega⟩ ⟨by omega, by omega⟩ rfl (Nat.le_of_ble_eq_true rfl) dX4_choose_21 (fun v w1 H1 L1 hp hW hzz hkk hdd => ?_)
      obtain ⟨rfl, rfl⟩ := hp
      clear hzz hkk hdd
      generalize H1 = H at hW  ⊢
      generalize L1 = locs at hW ⊢
      have hW : Wd Z A s.heap ([eo hm 4 [.int (nI cd), .int (nI n), .int (nI wg), .ref ad.1, .ref ad.2.1, .ref ad.2.2.1, .ref ad.2.2.2.1, .ref ad.2.2.2.2.1, .ref ad.2.2.2.2.2], ey Z ad.1 4000 K, ea Z ad.2.1 4000 F, ea Z ad.2.2.1 4000 S, ea Z ad.2.2.2.1 4000 T, ea Z ad.2.2.2.2.1 4000 D, el Z ad.2.2.2.2.2 4000 V]) _ _ := hW
      refine W.eq (g2 := F0 m 24 ls [.int (nI 0)]) rfl ?_
      refine n_zeq_t (tgt := 31) hx hb rfl dX4_choose_24 (by decide) ?_
      refine lv_iconst (v := nI 0) hx hb dX4_choose_31 (by decide) ?_
      refine lv_istore (lv' := [(4, .int (nI 0)), (0, .ref hm), (1, .int (nI z)), (2, .int xa), (3, .int xb)]) hx hb dX4_choose_32 hl (by decide) rfl (fun ls hl => ?_)
      refine lv_iload hx hb dX4_choose_34 (lv_at hl 0 rfl) ?_
      refine n_zeq_t (tgt := 48) hx hb rfl dX4_choose_36 (by decide) ?_
      refine lv_iconst (v := nI 1) hx hb dX4_choose_48 (by decide) ?_
      refine lv_istore (lv' := [(5, .int (nI 1)), (4, .int (nI 0)), (0, .ref hm), (1, .int (nI z)), (2, .int xa), (3, .int xb)]) hx hb dX4_choose_49 hl (by decide) rfl (fun ls hl => ?_)
      refine lv_aload_n hx hb dX4_choose_51 rfl (lv_at hl 2 rfl) ?_
      refine lv_iload hx hb dX4_choose_52 (lv_at hl 1 rfl) ?_
      refine lv_iconst (v := nI 4) hx hb dX4_choose_54 (by decide) ?_
      refine lv_iload hx hb dX4_choose_55 (lv_at hl 0 rfl) ?_
      refine n_imul hx hb dX4_choose_57 ?_
      refine lv_bipush (v := nI 50) hx hb dX4_choose_58 (by decide) ?_
      refine lv_iload_n hx hb dX4_choose_60 rfl (lv_at hl 4 rfl) ?_
      refine lv_iload_n hx hb dX4_choose_61 rfl (lv_at hl 5 rfl) ?_
      refine lv_iload_n hx hb dX4_choose_62 rfl (lv_at hl 3 rfl) ?_
      refine lv_iload hx hb dX4_choose_63 (lv_at hl 0 rfl) ?_
      refine c_virt (As := [.int (nI 0), .int (nI (4 * 1)), .int (nI 50), .int xa, .int xb, .int (nI z), .int (nI 1)]) (rest := []) (wc := [eo hm 4 [.int (nI cd), .int (nI n), .int (nI wg), .ref ad.1, .ref ad.2.1, .ref ad.2.2.1, .ref ad.2.2.2.1, .ref ad.2.2.2.2.1, .ref ad.2.2.2.2.2], ey Z ad.1 4000 K, ea Z ad.2.1 4000 F, ea Z ad.2.2.1 4000 S, ea Z ad.2.2.2.1 4000 T, ea Z ad.2.2.2.2.1 4000 D, el Z ad.2.2.2.2.2 4000 V]) (wr := []) (nl := 0) hx hb hml hown hts hK hG rfl hA hl (k_madd0 l Z hm ad cd n wg K F S T D V _ _ _ _ _ _) hW trivial (hW.at 0 rfl) rfl rfl tb_816 tb_818 ts_10 tb_7 tb_819 (nA := 7) (by decide +kernel) rfl ⟨by omega, by omega⟩ ⟨by omega, by omega⟩ rfl (Nat.le_of_ble_eq_true rfl) dX4_choose_65 (fun v w1 H1 L1 hp hW hzz hkk hdd => ?_)
      obtain ⟨rfl, rfl⟩ := hp
      clear hzz hkk hdd
      generalize H1 = H at hW  ⊢
      generalize L1 = locs at hW ⊢
      have hW : Wd Z A s.heap ([eo hm 4 [.int (nI 1), .int (nI n), .int (nI wg), .ref ad.1, .ref ad.2.1, .ref ad.2.2.1, .ref ad.2.2.2.1, .ref ad.2.2.2.2.1, .ref ad.2.2.2.2.2], ey Z ad.1 4000 K, ea Z ad.2.1 4000 F, ea Z ad.2.2.1 4000 S, ea Z ad.2.2.2.1 4000 T, ea Z ad.2.2.2.2.1 4000 D, el Z ad.2.2.2.2.2 4000 V]) _ _ := hW
      refine W.eq (g2 := F0 m 68 ls [.int (nI 0)]) rfl ?_
      exact e_int hx hb hr hlk hAe hW (by omega) (by omega) dX4_choose_68 ⟨⟨_, rfl⟩, rfl⟩
    · refine n_ne_t (tgt := 31) hx hb hz1 (by omega) (by omega) dX4_choose_15 (by decide) ?_
      refine lv_iconst (v := nI 0) hx hb dX4_choose_31 (by decide) ?_
      refine lv_istore (lv' := [(4, .int (nI 0)), (0, .ref hm), (1, .int (nI z)), (2, .int xa), (3, .int xb)]) hx hb dX4_choose_32 hl (by decide) rfl (fun ls hl => ?_)
      refine lv_iload hx hb dX4_choose_34 (lv_at hl 0 rfl) ?_
      refine n_zeq_t (tgt := 48) hx hb rfl dX4_choose_36 (by decide) ?_
      refine lv_iconst (v := nI 1) hx hb dX4_choose_48 (by decide) ?_
      refine lv_istore (lv' := [(5, .int (nI 1)), (4, .int (nI 0)), (0, .ref hm), (1, .int (nI z)), (2, .int xa), (3, .int xb)]) hx hb dX4_choose_49 hl (by decide) rfl (fun ls hl => ?_)
      refine lv_aload_n hx hb dX4_choose_51 rfl (lv_at hl 2 rfl) ?_
      refine lv_iload hx hb dX4_choose_52 (lv_at hl 1 rfl) ?_
      refine lv_iconst (v := nI 4) hx hb dX4_choose_54 (by decide) ?_
      refine lv_iload hx hb dX4_choose_55 (lv_at hl 0 rfl) ?_
      refine n_imul hx hb dX4_choose_57 ?_
      refine lv_bipush (v := nI 50) hx hb dX4_choose_58 (by decide) ?_
      refine lv_iload_n hx hb dX4_choose_60 rfl (lv_at hl 4 rfl) ?_
      refine lv_iload_n hx hb dX4_choose_61 rfl (lv_at hl 5 rfl) ?_
      refine lv_iload_n hx hb dX4_choose_62 rfl (lv_at hl 3 rfl) ?_
      refine lv_iload hx hb dX4_choose_63 (lv_at hl 0 rfl) ?_
      refine c_virt (As := [.int (nI 0), .int (nI (4 * 1)), .int (nI 50), .int xa, .int xb, .int (nI z), .int (nI 1)]) (rest := []) (wc := [eo hm 4 [.int (nI cd), .int (nI n), .int (nI wg), .ref ad.1, .ref ad.2.1, .ref ad.2.2.1, .ref ad.2.2.2.1, .ref ad.2.2.2.2.1, .ref ad.2.2.2.2.2], ey Z ad.1 4000 K, ea Z ad.2.1 4000 F, ea Z ad.2.2.1 4000 S, ea Z ad.2.2.2.1 4000 T, ea Z ad.2.2.2.2.1 4000 D, el Z ad.2.2.2.2.2 4000 V]) (wr := []) (nl := 0) hx hb hml hown hts hK hG rfl hA hl (k_madd0 l Z hm ad cd n wg K F S T D V _ _ _ _ _ _) hW trivial (hW.at 0 rfl) rfl rfl tb_816 tb_818 ts_10 tb_7 tb_819 (nA := 7) (by decide +kernel) rfl ⟨by omega, by omega⟩ ⟨by omega, by omega⟩ rfl (Nat.le_of_ble_eq_true rfl) dX4_choose_65 (fun v w1 H1 L1 hp hW hzz hkk hdd => ?_)
      obtain ⟨rfl, rfl⟩ := hp
      clear hzz hkk hdd
      generalize H1 = H at hW  ⊢
      generalize L1 = locs at hW ⊢
      have hW : Wd Z A s.heap ([eo hm 4 [.int (nI 1), .int (nI n), .int (nI wg), .ref ad.1, .ref ad.2.1, .ref ad.2.2.1, .ref ad.2.2.2.1, .ref ad.2.2.2.2.1, .ref ad.2.2.2.2.2], ey Z ad.1 4000 K, ea Z ad.2.1 4000 F, ea Z ad.2.2.1 4000 S, ea Z ad.2.2.2.1 4000 T, ea Z ad.2.2.2.2.1 4000 D, el Z ad.2.2.2.2.2 4000 V]) _ _ := hW
      refine W.eq (g2 := F0 m 68 ls [.int (nI 0)]) rfl ?_
      exact e_int hx hb hr hlk hAe hW (by omega) (by omega) dX4_choose_68 ⟨⟨_, rfl⟩, rfl⟩
  · refine c_virt (As := [.int xc]) (rest := []) (wc := [eo hm 4 [.int (nI cd), .int (nI n), .int (nI wg), .ref ad.1, .ref ad.2.1, .ref ad.2.2.1, .ref ad.2.2.2.1, .ref ad.2.2.2.2.1, .ref ad.2.2.2.2.2], ey Z ad.1 4000 K, ea Z ad.2.1 4000 F, ea Z ad.2.2.1 4000 S, ea Z ad.2.2.2.1 4000 T, ea Z ad.2.2.2.2.1 4000 D, el Z ad.2.2.2.2.2 4000 V]) (wr := []) (nl := 0) hx hb hml hown hts hK hG rfl hA hl (k_is0 l Z hm ad cd n wg K F S T D V xc hc (by omega)) hW trivial (hW.at 0 rfl) rfl rfl tb_833 tb_835 ts_11 tb_7 tb_836 (nA := 1) (by decide +kernel) rfl ⟨by omega, by omega⟩ ⟨by omega, by omega⟩ rfl (Nat.le_of_ble_eq_true rfl) dX4_choose_2 (fun v w1 H1 L1 hp hW hzz hkk hdd => ?_)
    obtain ⟨rfl, rfl⟩ := hp
    clear hzz hkk hdd
    generalize H1 = H at hW  ⊢
    generalize L1 = locs at hW ⊢
    have hW : Wd Z A s.heap ([eo hm 4 [.int (nI cd), .int (nI n), .int (nI wg), .ref ad.1, .ref ad.2.1, .ref ad.2.2.1, .ref ad.2.2.2.1, .ref ad.2.2.2.2.1, .ref ad.2.2.2.2.2], ey Z ad.1 4000 K, ea Z ad.2.1 4000 F, ea Z ad.2.2.1 4000 S, ea Z ad.2.2.2.1 4000 T, ea Z ad.2.2.2.2.1 4000 D, el Z ad.2.2.2.2.2 4000 V]) _ _ := hW
    refine W.eq (g2 := F0 m 5 ls [.int (nI 0)]) rfl ?_
    refine n_zeq_t (tgt := 31) hx hb rfl dX4_choose_5 (by decide) ?_
    refine lv_iconst (v := nI 0) hx hb dX4_choose_31 (by decide) ?_
    refine lv_istore (lv' := [(4, .int (nI 0)), (0, .ref hm), (1, .int xc), (2, .int xa), (3, .int xb)]) hx hb dX4_choose_32 hl (by decide) rfl (fun ls hl => ?_)
    refine lv_iload hx hb dX4_choose_34 (lv_at hl 0 rfl) ?_
    refine n_zeq_t (tgt := 48) hx hb rfl dX4_choose_36 (by decide) ?_
    refine lv_iconst (v := nI 1) hx hb dX4_choose_48 (by decide) ?_
    refine lv_istore (lv' := [(5, .int (nI 1)), (4, .int (nI 0)), (0, .ref hm), (1, .int xc), (2, .int xa), (3, .int xb)]) hx hb dX4_choose_49 hl (by decide) rfl (fun ls hl => ?_)
    refine lv_aload_n hx hb dX4_choose_51 rfl (lv_at hl 2 rfl) ?_
    refine lv_iload hx hb dX4_choose_52 (lv_at hl 1 rfl) ?_
    refine lv_iconst (v := nI 4) hx hb dX4_choose_54 (by decide) ?_
    refine lv_iload hx hb dX4_choose_55 (lv_at hl 0 rfl) ?_
    refine n_imul hx hb dX4_choose_57 ?_
    refine lv_bipush (v := nI 50) hx hb dX4_choose_58 (by decide) ?_
    refine lv_iload_n hx hb dX4_choose_60 rfl (lv_at hl 4 rfl) ?_
    refine lv_iload_n hx hb dX4_choose_61 rfl (lv_at hl 5 rfl) ?_
    refine lv_iload_n hx hb dX4_choose_62 rfl (lv_at hl 3 rfl) ?_
    refine lv_iload hx hb dX4_choose_63 (lv_at hl 0 rfl) ?_
    refine c_virt (As := [.int (nI 0), .int (nI (4 * 1)), .int (nI 50), .int xa, .int xb, .int xc, .int (nI 1)]) (rest := []) (wc := [eo hm 4 [.int (nI cd), .int (nI n), .int (nI wg), .ref ad.1, .ref ad.2.1, .ref ad.2.2.1, .ref ad.2.2.2.1, .ref ad.2.2.2.2.1, .ref ad.2.2.2.2.2], ey Z ad.1 4000 K, ea Z ad.2.1 4000 F, ea Z ad.2.2.1 4000 S, ea Z ad.2.2.2.1 4000 T, ea Z ad.2.2.2.2.1 4000 D, el Z ad.2.2.2.2.2 4000 V]) (wr := []) (nl := 0) hx hb hml hown hts hK hG rfl hA hl (k_madd0 l Z hm ad cd n wg K F S T D V _ _ _ _ _ _) hW trivial (hW.at 0 rfl) rfl rfl tb_816 tb_818 ts_10 tb_7 tb_819 (nA := 7) (by decide +kernel) rfl ⟨by omega, by omega⟩ ⟨by omega, by omega⟩ rfl (Nat.le_of_ble_eq_true rfl) dX4_choose_65 (fun v w1 H1 L1 hp hW hzz hkk hdd => ?_)
    obtain ⟨rfl, rfl⟩ := hp
    clear hzz hkk hdd
    generalize H1 = H at hW  ⊢
    generalize L1 = locs at hW ⊢
    have hW : Wd Z A s.heap ([eo hm 4 [.int (nI 1), .int (nI n), .int (nI wg), .ref ad.1, .ref ad.2.1, .ref ad.2.2.1, .ref ad.2.2.2.1, .ref ad.2.2.2.2.1, .ref ad.2.2.2.2.2], ey Z ad.1 4000 K, ea Z ad.2.1 4000 F, ea Z ad.2.2.1 4000 S, ea Z ad.2.2.2.1 4000 T, ea Z ad.2.2.2.2.1 4000 D, el Z ad.2.2.2.2.2 4000 V]) _ _ := hW
    refine W.eq (g2 := F0 m 68 ls [.int (nI 0)]) rfl ?_
    exact e_int hx hb hr hlk hAe hW (by omega) (by omega) dX4_choose_68 ⟨⟨_, rfl⟩, rfl⟩
set_option maxHeartbeats 4000000 in
set_option maxRecDepth 100000 in
theorem k_mchoose1 (l : Launch) (Z : Zt) (hm : Nat) (ad : MA) (cd n wg : Nat) (K F S T D V : Nat → Nat) (z i j : Nat) (hz : z < n) (hi : i < n) (hj : j < n) (hij : D i = D j) (hz1 : D z = 1) (hD : ∀ i, i < n → D i ≤ 64) (hn : n < 4000) (hwg : wg ≤ 100000) (hg : 4 * D i + wg ≤ 100000)  : MC l yX4_choose cX4_choose 6 (some .int) 2 120 (0) (0) Z (mw Z hm ad cd n wg K F S T D V) (fun _ => True) [.ref hm, .int (nI z), .int (nI i), .int (nI j)] (fun r w1 => r = some (.int (nI n)) ∧ w1 = mw Z hm ad 0 (n + 1) (wg + (4 * D i)) (up K n 50) (up F n i) (up S n j) (up T n z) (up D n (D i)) (up V n 0)) := by
  refine mc_of (by decide) (Nat.le_of_ble_eq_true rfl) (fun p e s m below meth c ls A hx hb hr hts hown hlk hml hin hK hG hW hA hAe hro hl R hRf hRc hRs hRl => ?_)
  have hl : lv_has ls 6 [(0, .ref hm), (1, .int (nI z)), (2, .int (nI i)), (3, .int (nI j))] := hl
  have hW : Wd Z A s.heap ([eo hm 4 [.int (nI cd), .int (nI n), .int (nI wg), .ref ad.1, .ref ad.2.1, .ref ad.2.2.1, .ref ad.2.2.2.1, .ref ad.2.2.2.2.1, .ref ad.2.2.2.2.2], ey Z ad.1 4000 K, ea Z ad.2.1 4000 F, ea Z ad.2.2.1 4000 S, ea Z ad.2.2.2.1 4000 T, ea Z ad.2.2.2.2.1 4000 D, el Z ad.2.2.2.2.2 4000 V]) _ _ := hW
  have hdi := hD i hi
  refine lv_aload_n hx hb dX4_choose_0 rfl (lv_at hl 0 rfl) ?_
  refine lv_iload_n hx hb dX4_choose_1 rfl (lv_at hl 1 rfl) ?_
  refine c_virt (As := [.int (nI z)]) (rest := []) (wc := [eo hm 4 [.int (nI cd), .int (nI n), .int (nI wg), .ref ad.1, .ref ad.2.1, .ref ad.2.2.1, .ref ad.2.2.2.1, .ref ad.2.2.2.2.1, .ref ad.2.2.2.2.2], ey Z ad.1 4000 K, ea Z ad.2.1 4000 F, ea Z ad.2.2.1 4000 S, ea Z ad.2.2.2.1 4000 T, ea Z ad.2.2.2.2.1 4000 D, el Z ad.2.2.2.2.2 4000 V]) (wr := []) (nl := 0) hx hb hml hown hts hK hG rfl hA hl (k_is1 l Z hm ad cd n wg K F S T D V z hz (by omega)) hW trivial (hW.at 0 rfl) rfl rfl tb_833 tb_835 ts_11 tb_7 tb_836 (nA := 1) (by decide +kernel) rfl ⟨by omega, by omega⟩ ⟨by omega, by omega⟩ rfl (Nat.le_of_ble_eq_true rfl) dX4_choose_2 (fun v w1 H1 L1 hp hW hzz hkk hdd => ?_)
  obtain ⟨rfl, rfl⟩ := hp
  clear hzz hkk hdd
  generalize H1 = H at hW  ⊢
  generalize L1 = locs at hW ⊢
  have hW : Wd Z A s.heap ([eo hm 4 [.int (nI cd), .int (nI n), .int (nI wg), .ref ad.1, .ref ad.2.1, .ref ad.2.2.1, .ref ad.2.2.2.1, .ref ad.2.2.2.2.1, .ref ad.2.2.2.2.2], ey Z ad.1 4000 K, ea Z ad.2.1 4000 F, ea Z ad.2.2.1 4000 S, ea Z ad.2.2.2.1 4000 T, ea Z ad.2.2.2.2.1 4000 D, el Z ad.2.2.2.2.2 4000 V]) _ _ := hW
  refine W.eq (g2 := F0 m 5 ls [.int (nI 1)]) rfl ?_
  refine n_zeq_f (tgt := 31) hx hb (by decide) (by omega) dX4_choose_5 (by decide) ?_
  refine lv_aload_n hx hb dX4_choose_8 rfl (lv_at hl 0 rfl) ?_
  refine r_get hx hb hts hown hK (hW.at 0 rfl) rfl in_X4 7 (by decide) tb_786 (fun _ h => h) rfl dX4_choose_9 ?_
  refine lv_iload_n hx hb dX4_choose_12 rfl (lv_at hl 1 rfl) ?_
  refine r_ald (i := z) hx hb hK (hW.at 5 rfl) (by omega) (by omega) dX4_choose_13 ?_
  refine lv_iconst (v := nI 1) hx hb dX4_choose_14 (by decide) ?_
  refine n_ne_f (tgt := 31) hx hb hz1 dX4_choose_15 (by decide) ?_
  refine lv_aload_n hx hb dX4_choose_18 rfl (lv_at hl 0 rfl) ?_
  refine lv_iload_n hx hb dX4_choose_19 rfl (lv_at hl 2 rfl) ?_
  refine lv_iload_n hx hb dX4_choose_20 rfl (lv_at hl 3 rfl) ?_
  refine c_virt (As := [.int (nI i), .int (nI j)]) (rest := []) (wc := [eo hm 4 [.int (nI cd), .int (nI n), .int (nI wg), .ref ad.1, .ref ad.2.1, .ref ad.2.2.1, .ref ad.2.2.2.1, .ref ad.2.2.2.2.1, .ref ad.2.2.2.2.2], ey Z ad.1 4000 K, ea Z ad.2.1 4000 F, ea Z ad.2.2.1 4000 S, ea Z ad.2.2.2.1 4000 T, ea Z ad.2.2.2.2.1 4000 D, el Z ad.2.2.2.2.2 4000 V]) (wr := []) (nl := 0) hx hb hml hown hts hK hG rfl hA hl (k_like1 l Z hm ad cd n wg K F S T D V i j hi hj hij (by omega)) hW trivial (hW.at 0 rfl) rfl rfl tb_841 tb_843 ts_12 tb_7 tb_844 (nA := 2) (by decide +kernel) rfl ⟨by omega, by omega⟩ ⟨by omega, by omega⟩ rfl (Nat.le_of_ble_eq_true rfl) dX4_choose_21 (fun v w1 H1 L1 hp hW hzz hkk hdd => ?_)
  obtain ⟨rfl, rfl⟩ := hp
  clear hzz hkk hdd
  generalize H1 = H at hW  ⊢
  generalize L1 = locs at hW ⊢
  have hW : Wd Z A s.heap ([eo hm 4 [.int (nI cd), .int (nI n), .int (nI wg), .ref ad.1, .ref ad.2.1, .ref ad.2.2.1, .ref ad.2.2.2.1, .ref ad.2.2.2.2.1, .ref ad.2.2.2.2.2], ey Z ad.1 4000 K, ea Z ad.2.1 4000 F, ea Z ad.2.2.1 4000 S, ea Z ad.2.2.2.1 4000 T, ea Z ad.2.2.2.2.1 4000 D, el Z ad.2.2.2.2.2 4000 V]) _ _ := hW
  refine W.eq (g2 := F0 m 24 ls [.int (nI 1)]) rfl ?_
  refine n_zeq_f (tgt := 31) hx hb (by decide) (by omega) dX4_choose_24 (by decide) ?_
  refine lv_iconst (v := nI 1) hx hb dX4_choose_27 (by decide) ?_
  refine lv_goto (tgt := 32) hx hb dX4_choose_28 (by decide) ?_
  refine lv_istore (lv' := [(4, .int (nI 1)), (0, .ref hm), (1, .int (nI z)), (2, .int (nI i)), (3, .int (nI j))]) hx hb dX4_choose_32 hl (by decide) rfl (fun ls hl => ?_)
  refine lv_iload hx hb dX4_choose_34 (lv_at hl 0 rfl) ?_
  refine n_zeq_f (tgt := 48) hx hb (by decide) (by omega) dX4_choose_36 (by decide) ?_
  refine lv_aload_n hx hb dX4_choose_39 rfl (lv_at hl 1 rfl) ?_
  refine r_get hx hb hts hown hK (hW.at 0 rfl) rfl in_X4 7 (by decide) tb_786 (fun _ h => h) rfl dX4_choose_40 ?_
  refine lv_iload_n hx hb dX4_choose_43 rfl (lv_at hl 3 rfl) ?_
  refine r_ald (i := i) hx hb hK (hW.at 5 rfl) (by omega) (by omega) dX4_choose_44 ?_
  refine lv_goto (tgt := 49) hx hb dX4_choose_45 (by decide) ?_
  refine lv_istore (lv' := [(5, .int (nI (D i))), (4, .int (nI 1)), (0, .ref hm), (1, .int (nI z)), (2, .int (nI i)), (3, .int (nI j))]) hx hb dX4_choose_49 hl (by decide) rfl (fun ls hl => ?_)
  refine lv_aload_n hx hb dX4_choose_51 rfl (lv_at hl 2 rfl) ?_
  refine lv_iload hx hb dX4_choose_52 (lv_at hl 1 rfl) ?_
  refine lv_iconst (v := nI 4) hx hb dX4_choose_54 (by decide) ?_
  refine lv_iload hx hb dX4_choose_55 (lv_at hl 0 rfl) ?_
  refine n_imul hx hb dX4_choose_57 ?_
  refine lv_bipush (v := nI 50) hx hb dX4_choose_58 (by decide) ?_
  refine lv_iload_n hx hb dX4_choose_60 rfl (lv_at hl 4 rfl) ?_
  refine lv_iload_n hx hb dX4_choose_61 rfl (lv_at hl 5 rfl) ?_
  refine lv_iload_n hx hb dX4_choose_62 rfl (lv_at hl 3 rfl) ?_
  refine lv_iload hx hb dX4_choose_63 (lv_at hl 0 rfl) ?_
  refine c_virt (As := [.int (nI 1), .int (nI (4 * (D i))), .int (nI 50), .int (nI i), .int (nI j), .int (nI z), .int (nI (D i))]) (rest := []) (wc := [eo hm 4 [.int (nI cd), .int (nI n), .int (nI wg), .ref ad.1, .ref ad.2.1, .ref ad.2.2.1, .ref ad.2.2.2.1, .ref ad.2.2.2.2.1, .ref ad.2.2.2.2.2], ey Z ad.1 4000 K, ea Z ad.2.1 4000 F, ea Z ad.2.2.1 4000 S, ea Z ad.2.2.2.1 4000 T, ea Z ad.2.2.2.2.1 4000 D, el Z ad.2.2.2.2.2 4000 V]) (wr := []) (nl := 0) hx hb hml hown hts hK hG rfl hA hl (k_madd1 l Z hm ad cd n wg K F S T D V (4 * D i) 50 i j z (D i) hn (by omega) (by omega)) hW trivial (hW.at 0 rfl) rfl rfl tb_816 tb_818 ts_10 tb_7 tb_819 (nA := 7) (by decide +kernel) rfl ⟨by omega, by omega⟩ ⟨by omega, by omega⟩ rfl (Nat.le_of_ble_eq_true rfl) dX4_choose_65 (fun v w1 H1 L1 hp hW hzz hkk hdd => ?_)
  obtain ⟨rfl, rfl⟩ := hp
  clear hzz hkk hdd
  generalize H1 = H at hW  ⊢
  generalize L1 = locs at hW ⊢
  have hW : Wd Z A s.heap ([eo hm 4 [.int (nI 0), .int (nI (n + 1)), .int (nI (wg + (4 * D i))), .ref ad.1, .ref ad.2.1, .ref ad.2.2.1, .ref ad.2.2.2.1, .ref ad.2.2.2.2.1, .ref ad.2.2.2.2.2], ey Z ad.1 4000 (up K n 50), ea Z ad.2.1 4000 (up F n i), ea Z ad.2.2.1 4000 (up S n j), ea Z ad.2.2.2.1 4000 (up T n z), ea Z ad.2.2.2.2.1 4000 (up D n (D i)), el Z ad.2.2.2.2.2 4000 (up V n 0)]) _ _ := hW
  refine W.eq (g2 := F0 m 68 ls [.int (nI n)]) rfl ?_
  exact e_int hx hb hr hlk hAe hW (by omega) (by omega) dX4_choose_68 ⟨rfl, rfl⟩
set_option maxHeartbeats 4000000 in
set_option maxRecDepth 100000 in
theorem k_mchoose2 (l : Launch) (Z : Zt) (hm : Nat) (ad : MA) (cd n wg : Nat) (K F S T D V : Nat → Nat) (z i j : Nat) (hz : z < n) (hi : i < n) (hj : j < n) (hij : D i = D j) (hz1 : D z = 1) (hD : ∀ i, i < n → D i ≤ 64) (hn : n < 4000) (hwg : wg ≤ 100000) (hg : ¬ 4 * D i + wg ≤ 100000)  : MC l yX4_choose cX4_choose 6 (some .int) 2 120 (0) (0) Z (mw Z hm ad cd n wg K F S T D V) (fun _ => True) [.ref hm, .int (nI z), .int (nI i), .int (nI j)] (fun r w1 => (∃ r0 : Int32, r = some (.int r0)) ∧ w1 = mw Z hm ad 2 n wg K F S T D V) := by
  refine mc_of (by decide) (Nat.le_of_ble_eq_true rfl) (fun p e s m below meth c ls A hx hb hr hts hown hlk hml hin hK hG hW hA hAe hro hl R hRf hRc hRs hRl => ?_)
  have hl : lv_has ls 6 [(0, .ref hm), (1, .int (nI z)), (2, .int (nI i)), (3, .int (nI j))] := hl
  have hW : Wd Z A s.heap ([eo hm 4 [.int (nI cd), .int (nI n), .int (nI wg), .ref ad.1, .ref ad.2.1, .ref ad.2.2.1, .ref ad.2.2.2.1, .ref ad.2.2.2.2.1, .ref ad.2.2.2.2.2], ey Z ad.1 4000 K, ea Z ad.2.1 4000 F, ea Z ad.2.2.1 4000 S, ea Z ad.2.2.2.1 4000 T, ea Z ad.2.2.2.2.1 4000 D, el Z ad.2.2.2.2.2 4000 V]) _ _ := hW
  have hdi := hD i hi
  refine lv_aload_n hx hb dX4_choose_0 rfl (lv_at hl 0 rfl) ?_
  refine lv_iload_n hx hb dX4_choose_1 rfl (lv_at hl 1 rfl) ?_
  refine c_virt (As := [.int (nI z)]) (rest := []) (wc := [eo hm 4 [.int (nI cd), .int (nI n), .int (nI wg), .ref ad.1, .ref ad.2.1, .ref ad.2.2.1, .ref ad.2.2.2.1, .ref ad.2.2.2.2.1, .ref ad.2.2.2.2.2], ey Z ad.1 4000 K, ea Z ad.2.1 4000 F, ea Z ad.2.2.1 4000 S, ea Z ad.2.2.2.1 4000 T, ea Z ad.2.2.2.2.1 4000 D, el Z ad.2.2.2.2.2 4000 V]) (wr := []) (nl := 0) hx hb hml hown hts hK hG rfl hA hl (k_is1 l Z hm ad cd n wg K F S T D V z hz (by omega)) hW trivial (hW.at 0 rfl) rfl rfl tb_833 tb_835 ts_11 tb_7 tb_836 (nA := 1) (by decide +kernel) rfl ⟨by omega, by omega⟩ ⟨by omega, by omega⟩ rfl (Nat.le_of_ble_eq_true rfl) dX4_choose_2 (fun v w1 H1 L1 hp hW hzz hkk hdd => ?_)
  obtain ⟨rfl, rfl⟩ := hp
  clear hzz hkk hdd
  generalize H1 = H at hW  ⊢
  generalize L1 = locs at hW ⊢
  have hW : Wd Z A s.heap ([eo hm 4 [.int (nI cd), .int (nI n), .int (nI wg), .ref ad.1, .ref ad.2.1, .ref ad.2.2.1, .ref ad.2.2.2.1, .ref ad.2.2.2.2.1, .ref ad.2.2.2.2.2], ey Z ad.1 4000 K, ea Z ad.2.1 4000 F, ea Z ad.2.2.1 4000 S, ea Z ad.2.2.2.1 4000 T, ea Z ad.2.2.2.2.1 4000 D, el Z ad.2.2.2.2.2 4000 V]) _ _ := hW
  refine W.eq (g2 := F0 m 5 ls [.int (nI 1)]) rfl ?_
  refine n_zeq_f (tgt := 31) hx hb (by decide) (by omega) dX4_choose_5 (by decide) ?_
  refine lv_aload_n hx hb dX4_choose_8 rfl (lv_at hl 0 rfl) ?_
  refine r_get hx hb hts hown hK (hW.at 0 rfl) rfl in_X4 7 (by decide) tb_786 (fun _ h => h) rfl dX4_choose_9 ?_
  refine lv_iload_n hx hb dX4_choose_12 rfl (lv_at hl 1 rfl) ?_
  refine r_ald (i := z) hx hb hK (hW.at 5 rfl) (by omega) (by omega) dX4_choose_13 ?_
  refine lv_iconst (v := nI 1) hx hb dX4_choose_14 (by decide) ?_
  refine n_ne_f (tgt := 31) hx hb hz1 dX4_choose_15 (by decide) ?_
  refine lv_aload_n hx hb dX4_choose_18 rfl (lv_at hl 0 rfl) ?_
  refine lv_iload_n hx hb dX4_choose_19 rfl (lv_at hl 2 rfl) ?_
  refine lv_iload_n hx hb dX4_choose_20 rfl (lv_at hl 3 rfl) ?_
  refine c_virt (As := [.int (nI i), .int (nI j)]) (rest := []) (wc := [eo hm 4 [.int (nI cd), .int (nI n), .int (nI wg), .ref ad.1, .ref ad.2.1, .ref ad.2.2.1, .ref ad.2.2.2.1, .ref ad.2.2.2.2.1, .ref ad.2.2.2.2.2], ey Z ad.1 4000 K, ea Z ad.2.1 4000 F, ea Z ad.2.2.1 4000 S, ea Z ad.2.2.2.1 4000 T, ea Z ad.2.2.2.2.1 4000 D, el Z ad.2.2.2.2.2 4000 V]) (wr := []) (nl := 0) hx hb hml hown hts hK hG rfl hA hl (k_like1 l Z hm ad cd n wg K F S T D V i j hi hj hij (by omega)) hW trivial (hW.at 0 rfl) rfl rfl tb_841 tb_843 ts_12 tb_7 tb_844 (nA := 2) (by decide +kernel) rfl ⟨by omega, by omega⟩ ⟨by omega, by omega⟩ rfl (Nat.le_of_ble_eq_true rfl) dX4_choose_21 (fun v w1 H1 L1 hp hW hzz hkk hdd => ?_)
  obtain ⟨rfl, rfl⟩ := hp
  clear hzz hkk hdd
  generalize H1 = H at hW  ⊢
  generalize L1 = locs at hW ⊢
  have hW : Wd Z A s.heap ([eo hm 4 [.int (nI cd), .int (nI n), .int (nI wg), .ref ad.1, .ref ad.2.1, .ref ad.2.2.1, .ref ad.2.2.2.1, .ref ad.2.2.2.2.1, .ref ad.2.2.2.2.2], ey Z ad.1 4000 K, ea Z ad.2.1 4000 F, ea Z ad.2.2.1 4000 S, ea Z ad.2.2.2.1 4000 T, ea Z ad.2.2.2.2.1 4000 D, el Z ad.2.2.2.2.2 4000 V]) _ _ := hW
  refine W.eq (g2 := F0 m 24 ls [.int (nI 1)]) rfl ?_
  refine n_zeq_f (tgt := 31) hx hb (by decide) (by omega) dX4_choose_24 (by decide) ?_
  refine lv_iconst (v := nI 1) hx hb dX4_choose_27 (by decide) ?_
  refine lv_goto (tgt := 32) hx hb dX4_choose_28 (by decide) ?_
  refine lv_istore (lv' := [(4, .int (nI 1)), (0, .ref hm), (1, .int (nI z)), (2, .int (nI i)), (3, .int (nI j))]) hx hb dX4_choose_32 hl (by decide) rfl (fun ls hl => ?_)
  refine lv_iload hx hb dX4_choose_34 (lv_at hl 0 rfl) ?_
  refine n_zeq_f (tgt := 48) hx hb (by decide) (by omega) dX4_choose_36 (by decide) ?_
  refine lv_aload_n hx hb dX4_choose_39 rfl (lv_at hl 1 rfl) ?_
  refine r_get hx hb hts hown hK (hW.at 0 rfl) rfl in_X4 7 (by decide) tb_786 (fun _ h => h) rfl dX4_choose_40 ?_
  refine lv_iload_n hx hb dX4_choose_43 rfl (lv_at hl 3 rfl) ?_
  refine r_ald (i := i) hx hb hK (hW.at 5 rfl) (by omega) (by omega) dX4_choose_44 ?_
  refine lv_goto (tgt := 49) hx hb dX4_choose_45 (by decide) ?_
  refine lv_istore (lv' := [(5, .int (nI (D i))), (4, .int (nI 1)), (0, .ref hm), (1, .int (nI z)), (2, .int (nI i)), (3, .int (nI j))]) hx hb dX4_choose_49 hl (by decide) rfl (fun ls hl => ?_)
  refine lv_aload_n hx hb dX4_choose_51 rfl (lv_at hl 2 rfl) ?_
  refine lv_iload hx hb dX4_choose_52 (lv_at hl 1 rfl) ?_
  refine lv_iconst (v := nI 4) hx hb dX4_choose_54 (by decide) ?_
  refine lv_iload hx hb dX4_choose_55 (lv_at hl 0 rfl) ?_
  refine n_imul hx hb dX4_choose_57 ?_
  refine lv_bipush (v := nI 50) hx hb dX4_choose_58 (by decide) ?_
  refine lv_iload_n hx hb dX4_choose_60 rfl (lv_at hl 4 rfl) ?_
  refine lv_iload_n hx hb dX4_choose_61 rfl (lv_at hl 5 rfl) ?_
  refine lv_iload_n hx hb dX4_choose_62 rfl (lv_at hl 3 rfl) ?_
  refine lv_iload hx hb dX4_choose_63 (lv_at hl 0 rfl) ?_
  refine c_virt (As := [.int (nI 1), .int (nI (4 * (D i))), .int (nI 50), .int (nI i), .int (nI j), .int (nI z), .int (nI (D i))]) (rest := []) (wc := [eo hm 4 [.int (nI cd), .int (nI n), .int (nI wg), .ref ad.1, .ref ad.2.1, .ref ad.2.2.1, .ref ad.2.2.2.1, .ref ad.2.2.2.2.1, .ref ad.2.2.2.2.2], ey Z ad.1 4000 K, ea Z ad.2.1 4000 F, ea Z ad.2.2.1 4000 S, ea Z ad.2.2.2.1 4000 T, ea Z ad.2.2.2.2.1 4000 D, el Z ad.2.2.2.2.2 4000 V]) (wr := []) (nl := 0) hx hb hml hown hts hK hG rfl hA hl (k_madd2 l Z hm ad cd n wg K F S T D V (4 * D i) _ _ _ _ _ hn (by omega) (by omega)) hW trivial (hW.at 0 rfl) rfl rfl tb_816 tb_818 ts_10 tb_7 tb_819 (nA := 7) (by decide +kernel) rfl ⟨by omega, by omega⟩ ⟨by omega, by omega⟩ rfl (Nat.le_of_ble_eq_true rfl) dX4_choose_65 (fun v w1 H1 L1 hp hW hzz hkk hdd => ?_)
  obtain ⟨rfl, rfl⟩ := hp
  clear hzz hkk hdd
  generalize H1 = H at hW  ⊢
  generalize L1 = locs at hW ⊢
  have hW : Wd Z A s.heap ([eo hm 4 [.int (nI 2), .int (nI n), .int (nI wg), .ref ad.1, .ref ad.2.1, .ref ad.2.2.1, .ref ad.2.2.2.1, .ref ad.2.2.2.2.1, .ref ad.2.2.2.2.2], ey Z ad.1 4000 K, ea Z ad.2.1 4000 F, ea Z ad.2.2.1 4000 S, ea Z ad.2.2.2.1 4000 T, ea Z ad.2.2.2.2.1 4000 D, el Z ad.2.2.2.2.2 4000 V]) _ _ := hW
  refine W.eq (g2 := F0 m 68 ls [.int (nI 0)]) rfl ?_
  exact e_int hx hb hr hlk hAe hW (by omega) (by omega) dX4_choose_68 ⟨⟨_, rfl⟩, rfl⟩
set_option maxHeartbeats 4000000 in
set_option maxRecDepth 100000 in
theorem k_mconcat0 (l : Launch) (Z : Zt) (hm : Nat) (ad : MA) (cd n wg : Nat) (K F S T D V : Nat → Nat) (xa xb : Int32) (h : ¬ ∃ i j, i < n ∧ j < n ∧ xa = nI i ∧ xb = nI j ∧ D i + D j ≤ 64) (hD : ∀ i, i < n → D i ≤ 64) (hn : n < 4000)  : MC l yX4_concat cX4_concat 5 (some .int) 1 60 (0) (0) Z (mw Z hm ad cd n wg K F S T D V) (fun _ => True) [.ref hm, .int xa, .int xb] (fun r w1 => (∃ r0 : Int32, r = some (.int r0)) ∧ w1 = mw Z hm ad 1 n wg K F S T D V) := by
  refine mc_of (by decide) (Nat.le_of_ble_eq_true rfl) (fun p e s m below meth c ls A hx hb hr hts hown hlk hml hin hK hG hW hA hAe hro hl R hRf hRc hRs hRl => ?_)
  have hl : lv_has ls 5 [(0, .ref hm), (1, .int xa), (2, .int xb)] := hl
  have hW : Wd Z A s.heap ([eo hm 4 [.int (nI cd), .int (nI n), .int (nI wg), .ref ad.1, .ref ad.2.1, .ref ad.2.2.1, .ref ad.2.2.2.1, .ref ad.2.2.2.2.1, .ref ad.2.2.2.2.2], ey Z ad.1 4000 K, ea Z ad.2.1 4000 F, ea Z ad.2.2.1 4000 S, ea Z ad.2.2.2.1 4000 T, ea Z ad.2.2.2.2.1 4000 D, el Z ad.2.2.2.2.2 4000 V]) _ _ := hW
  refine lv_aload_n hx hb dX4_concat_0 rfl (lv_at hl 0 rfl) ?_
  refine lv_iload_n hx hb dX4_concat_1 rfl (lv_at hl 1 rfl) ?_
  by_cases ha : vix xa n
  · obtain ⟨i, hi, rfl⟩ := ha
    have hdi := hD i hi
    refine c_virt (As := [.int (nI i)]) (rest := []) (wc := [eo hm 4 [.int (nI cd), .int (nI n), .int (nI wg), .ref ad.1, .ref ad.2.1, .ref ad.2.2.1, .ref ad.2.2.2.1, .ref ad.2.2.2.2.1, .ref ad.2.2.2.2.2], ey Z ad.1 4000 K, ea Z ad.2.1 4000 F, ea Z ad.2.2.1 4000 S, ea Z ad.2.2.2.1 4000 T, ea Z ad.2.2.2.2.1 4000 D, el Z ad.2.2.2.2.2 4000 V]) (wr := []) (nl := 0) hx hb hml hown hts hK hG rfl hA hl (k_is1 l Z hm ad cd n wg K F S T D V i hi (by omega)) hW trivial (hW.at 0 rfl) rfl rfl tb_833 tb_835 ts_11 tb_7 tb_836 (nA := 1) (by decide +kernel) rfl ⟨by omega, by omega⟩ ⟨by omega, by omega⟩ rfl (Nat.le_of_ble_eq_true rfl) dX4_concat_2 (fun v w1 H1 L1 hp hW hzz hkk hdd => ?_)
    obtain ⟨rfl, rfl⟩ := hp
    clear hzz hkk hdd
    generalize H1 = H at hW  ⊢
    generalize L1 = locs at hW ⊢
    have hW : Wd Z A s.heap ([eo hm 4 [.int (nI cd), .int (nI n), .int (nI wg), .ref ad.1, .ref ad.2.1, .ref ad.2.2.1, .ref ad.2.2.2.1, .ref ad.2.2.2.2.1, .ref ad.2.2.2.2.2], ey Z ad.1 4000 K, ea Z ad.2.1 4000 F, ea Z ad.2.2.1 4000 S, ea Z ad.2.2.2.1 4000 T, ea Z ad.2.2.2.2.1 4000 D, el Z ad.2.2.2.2.2 4000 V]) _ _ := hW
    refine W.eq (g2 := F0 m 5 ls [.int (nI 1)]) rfl ?_
    refine n_zeq_f (tgt := 38) hx hb (by decide) (by omega) dX4_concat_5 (by decide) ?_
    refine lv_aload_n hx hb dX4_concat_8 rfl (lv_at hl 0 rfl) ?_
    refine lv_iload_n hx hb dX4_concat_9 rfl (lv_at hl 2 rfl) ?_
    by_cases hb2 : vix xb n
    · obtain ⟨j, hj, rfl⟩ := hb2
      have hdj := hD j hj
      have hgt : ¬ D i + D j ≤ 64 := fun q => h ⟨i, j, hi, hj, rfl, rfl, q⟩
      refine c_virt (As := [.int (nI j)]) (rest := []) (wc := [eo hm 4 [.int (nI cd), .int (nI n), .int (nI wg), .ref ad.1, .ref ad.2.1, .ref ad.2.2.1, .ref ad.2.2.2.1, .ref ad.2.2.2.2.1, .ref ad.2.2.2.2.2], ey Z ad.1 4000 K, ea Z ad.2.1 4000 F, ea Z ad.2.2.1 4000 S, ea Z ad.2.2.2.1 4000 T, ea Z ad.2.2.2.2.1 4000 D, el Z ad.2.2.2.2.2 4000 V]) (wr := []) (nl := 0) hx hb hml hown hts hK hG rfl hA hl (k_is1 l Z hm ad cd n wg K F S T D V j hj (by omega)) hW trivial (hW.at 0 rfl) rfl rfl tb_833 tb_835 ts_11 tb_7 tb_836 (nA := 1) (by decide +kernel) rfl ⟨by omega, by omega⟩ ⟨by omega, by omega⟩ rfl (Nat.le_of_ble_eq_true rfl) dX4_concat_10 (fun v w1 H1 L1 hp hW hzz hkk hdd => ?_)
      obtain ⟨rfl, rfl⟩ := hp
      clear hzz hkk hdd
      generalize H1 = H at hW  ⊢
      generalize L1 = locs at hW ⊢
      have hW : Wd Z A s.heap ([eo hm 4 [.int (nI cd), .int (nI n), .int (nI wg), .ref ad.1, .ref ad.2.1, .ref ad.2.2.1, .ref ad.2.2.2.1, .ref ad.2.2.2.2.1, .ref ad.2.2.2.2.2], ey Z ad.1 4000 K, ea Z ad.2.1 4000 F, ea Z ad.2.2.1 4000 S, ea Z ad.2.2.2.1 4000 T, ea Z ad.2.2.2.2.1 4000 D, el Z ad.2.2.2.2.2 4000 V]) _ _ := hW
      refine W.eq (g2 := F0 m 13 ls [.int (nI 1)]) rfl ?_
      refine n_zeq_f (tgt := 38) hx hb (by decide) (by omega) dX4_concat_13 (by decide) ?_
      refine lv_aload_n hx hb dX4_concat_16 rfl (lv_at hl 0 rfl) ?_
      refine r_get hx hb hts hown hK (hW.at 0 rfl) rfl in_X4 7 (by decide) tb_786 (fun _ h => h) rfl dX4_concat_17 ?_
      refine lv_iload_n hx hb dX4_concat_20 rfl (lv_at hl 1 rfl) ?_
      refine r_ald (i := i) hx hb hK (hW.at 5 rfl) (by omega) (by omega) dX4_concat_21 ?_
      refine lv_aload_n hx hb dX4_concat_22 rfl (lv_at hl 0 rfl) ?_
      refine r_get hx hb hts hown hK (hW.at 0 rfl) rfl in_X4 7 (by decide) tb_786 (fun _ h => h) rfl dX4_concat_23 ?_
      refine lv_iload_n hx hb dX4_concat_26 rfl (lv_at hl 2 rfl) ?_
      refine r_ald (i := j) hx hb hK (hW.at 5 rfl) (by omega) (by omega) dX4_concat_27 ?_
      refine n_iadd hx hb dX4_concat_28 ?_
      refine lv_bipush (v := nI 64) hx hb dX4_concat_29 (by decide) ?_
      refine n_gt_t (tgt := 38) hx hb (by omega) (by omega) dX4_concat_31 (by decide) ?_
      refine lv_iconst (v := nI 0) hx hb dX4_concat_38 (by decide) ?_
      refine lv_istore_n (lv' := [(3, .int (nI 0)), (0, .ref hm), (1, .int (nI i)), (2, .int (nI j))]) hx hb dX4_concat_39 rfl hl (by decide) rfl (fun ls hl => ?_)
      refine lv_iload_n hx hb dX4_concat_40 rfl (lv_at hl 0 rfl) ?_
      refine n_zeq_t (tgt := 60) hx hb rfl dX4_concat_41 (by decide) ?_
      refine lv_iconst (v := nI 1) hx hb dX4_concat_60 (by decide) ?_
      refine lv_istore (lv' := [(4, .int (nI 1)), (3, .int (nI 0)), (0, .ref hm), (1, .int (nI i)), (2, .int (nI j))]) hx hb dX4_concat_61 hl (by decide) rfl (fun ls hl => ?_)
      refine lv_aload_n hx hb dX4_concat_63 rfl (lv_at hl 2 rfl) ?_
      refine lv_iload_n hx hb dX4_concat_64 rfl (lv_at hl 1 rfl) ?_
      refine lv_iload hx hb dX4_concat_65 (lv_at hl 0 rfl) ?_
      refine lv_bipush (v := nI 51) hx hb dX4_concat_67 (by decide) ?_
      refine lv_iload_n hx hb dX4_concat_69 rfl (lv_at hl 3 rfl) ?_
      refine lv_iload_n hx hb dX4_concat_70 rfl (lv_at hl 4 rfl) ?_
      refine lv_iconst (v := nI 0) hx hb dX4_concat_71 (by decide) ?_
      refine lv_iload hx hb dX4_concat_72 (lv_at hl 0 rfl) ?_
      refine c_virt (As := [.int (nI 0), .int (nI 1), .int (nI 51), .int (nI i), .int (nI j), .int (nI 0), .int (nI 1)]) (rest := []) (wc := [eo hm 4 [.int (nI cd), .int (nI n), .int (nI wg), .ref ad.1, .ref ad.2.1, .ref ad.2.2.1, .ref ad.2.2.2.1, .ref ad.2.2.2.2.1, .ref ad.2.2.2.2.2], ey Z ad.1 4000 K, ea Z ad.2.1 4000 F, ea Z ad.2.2.1 4000 S, ea Z ad.2.2.2.1 4000 T, ea Z ad.2.2.2.2.1 4000 D, el Z ad.2.2.2.2.2 4000 V]) (wr := []) (nl := 0) hx hb hml hown hts hK hG rfl hA hl (k_madd0 l Z hm ad cd n wg K F S T D V _ _ _ _ _ _) hW trivial (hW.at 0 rfl) rfl rfl tb_816 tb_818 ts_10 tb_7 tb_819 (nA := 7) (by decide +kernel) rfl ⟨by omega, by omega⟩ ⟨by omega, by omega⟩ rfl (Nat.le_of_ble_eq_true rfl) dX4_concat_74 (fun v w1 H1 L1 hp hW hzz hkk hdd => ?_)
      obtain ⟨rfl, rfl⟩ := hp
      clear hzz hkk hdd
      generalize H1 = H at hW  ⊢
      generalize L1 = locs at hW ⊢
      have hW : Wd Z A s.heap ([eo hm 4 [.int (nI 1), .int (nI n), .int (nI wg), .ref ad.1, .ref ad.2.1, .ref ad.2.2.1, .ref ad.2.2.2.1, .ref ad.2.2.2.2.1, .ref ad.2.2.2.2.2], ey Z ad.1 4000 K, ea Z ad.2.1 4000 F, ea Z ad.2.2.1 4000 S, ea Z ad.2.2.2.1 4000 T, ea Z ad.2.2.2.2.1 4000 D, el Z ad.2.2.2.2.2 4000 V]) _ _ := hW
      refine W.eq (g2 := F0 m 77 ls [.int (nI 0)]) rfl ?_
      exact e_int hx hb hr hlk hAe hW (by omega) (by omega) dX4_concat_77 ⟨⟨_, rfl⟩, rfl⟩
    · refine c_virt (As := [.int xb]) (rest := []) (wc := [eo hm 4 [.int (nI cd), .int (nI n), .int (nI wg), .ref ad.1, .ref ad.2.1, .ref ad.2.2.1, .ref ad.2.2.2.1, .ref ad.2.2.2.2.1, .ref ad.2.2.2.2.2], ey Z ad.1 4000 K, ea Z ad.2.1 4000 F, ea Z ad.2.2.1 4000 S, ea Z ad.2.2.2.1 4000 T, ea Z ad.2.2.2.2.1 4000 D, el Z ad.2.2.2.2.2 4000 V]) (wr := []) (nl := 0) hx hb hml hown hts hK hG rfl hA hl (k_is0 l Z hm ad cd n wg K F S T D V xb hb2 (by omega)) hW trivial (hW.at 0 rfl) rfl rfl tb_833 tb_835 ts_11 tb_7 tb_836 (nA := 1) (by decide +kernel) rfl ⟨by omega, by omega⟩ ⟨by omega, by omega⟩ rfl (Nat.le_of_ble_eq_true rfl) dX4_concat_10 (fun v w1 H1 L1 hp hW hzz hkk hdd => ?_)
      obtain ⟨rfl, rfl⟩ := hp
      clear hzz hkk hdd
      generalize H1 = H at hW  ⊢
      generalize L1 = locs at hW ⊢
      have hW : Wd Z A s.heap ([eo hm 4 [.int (nI cd), .int (nI n), .int (nI wg), .ref ad.1, .ref ad.2.1, .ref ad.2.2.1, .ref ad.2.2.2.1, .ref ad.2.2.2.2.1, .ref ad.2.2.2.2.2], ey Z ad.1 4000 K, ea Z ad.2.1 4000 F, ea Z ad.2.2.1 4000 S, ea Z ad.2.2.2.1 4000 T, ea Z ad.2.2.2.2.1 4000 D, el Z ad.2.2.2.2.2 4000 V]) _ _ := hW
      refine W.eq (g2 := F0 m 13 ls [.int (nI 0)]) rfl ?_
      refine n_zeq_t (tgt := 38) hx hb rfl dX4_concat_13 (by decide) ?_
      refine lv_iconst (v := nI 0) hx hb dX4_concat_38 (by decide) ?_
      refine lv_istore_n (lv' := [(3, .int (nI 0)), (0, .ref hm), (1, .int (nI i)), (2, .int xb)]) hx hb dX4_concat_39 rfl hl (by decide) rfl (fun ls hl => ?_)
      refine lv_iload_n hx hb dX4_concat_40 rfl (lv_at hl 0 rfl) ?_
      refine n_zeq_t (tgt := 60) hx hb rfl dX4_concat_41 (by decide) ?_
      refine lv_iconst (v := nI 1) hx hb dX4_concat_60 (by decide) ?_
      refine lv_istore (lv' := [(4, .int (nI 1)), (3, .int (nI 0)), (0, .ref hm), (1, .int (nI i)), (2, .int xb)]) hx hb dX4_concat_61 hl (by decide) rfl (fun ls hl => ?_)
      refine lv_aload_n hx hb dX4_concat_63 rfl (lv_at hl 2 rfl) ?_
      refine lv_iload_n hx hb dX4_concat_64 rfl (lv_at hl 1 rfl) ?_
      refine lv_iload hx hb dX4_concat_65 (lv_at hl 0 rfl) ?_
      refine lv_bipush (v := nI 51) hx hb dX4_concat_67 (by decide) ?_
      refine lv_iload_n hx hb dX4_concat_69 rfl (lv_at hl 3 rfl) ?_
      refine lv_iload_n hx hb dX4_concat_70 rfl (lv_at hl 4 rfl) ?_
      refine lv_iconst (v := nI 0) hx hb dX4_concat_71 (by decide) ?_
      refine lv_iload hx hb dX4_concat_72 (lv_at hl 0 rfl) ?_
      refine c_virt (As := [.int (nI 0), .int (nI 1), .int (nI 51), .int (nI i), .int xb, .int (nI 0), .int (nI 1)]) (rest := []) (wc := [eo hm 4 [.int (nI cd), .int (nI n), .int (nI wg), .ref ad.1, .ref ad.2.1, .ref ad.2.2.1, .ref ad.2.2.2.1, .ref ad.2.2.2.2.1, .ref ad.2.2.2.2.2], ey Z ad.1 4000 K, ea Z ad.2.1 4000 F, ea Z ad.2.2.1 4000 S, ea Z ad.2.2.2.1 4000 T, ea Z ad.2.2.2.2.1 4000 D, el Z ad.2.2.2.2.2 4000 V]) (wr := []) (nl := 0) hx hb hml hown hts hK hG rfl hA hl (k_madd0 l Z hm ad cd n wg K F S T D V _ _ _ _ _ _) hW trivial (hW.at 0 rfl) rfl rfl tb_816 tb_818 ts_10 tb_7 tb_819 (nA := 7) (by decide +kernel) rfl ⟨by omega, by omega⟩ ⟨by omega, by omega⟩ rfl (Nat.le_of_ble_eq_true rfl) dX4_concat_74 (fun v w1 H1 L1 hp hW hzz hkk hdd => ?_)
      obtain ⟨rfl, rfl⟩ := hp
      clear hzz hkk hdd
      generalize H1 = H at hW  ⊢
      generalize L1 = locs at hW ⊢
      have hW : Wd Z A s.heap ([eo hm 4 [.int (nI 1), .int (nI n), .int (nI wg), .ref ad.1, .ref ad.2.1, .ref ad.2.2.1, .ref ad.2.2.2.1, .ref ad.2.2.2.2.1, .ref ad.2.2.2.2.2], ey Z ad.1 4000 K, ea Z ad.2.1 4000 F, ea Z ad.2.2.1 4000 S, ea Z ad.2.2.2.1 4000 T, ea Z ad.2.2.2.2.1 4000 D, el Z ad.2.2.2.2.2 4000 V]) _ _ := hW
      refine W.eq (g2 := F0 m 77 ls [.int (nI 0)]) rfl ?_
      exact e_int hx hb hr hlk hAe hW (by omega) (by omega) dX4_concat_77 ⟨⟨_, rfl⟩, rfl⟩
  · refine c_virt (As := [.int xa]) (rest := []) (wc := [eo hm 4 [.int (nI cd), .int (nI n), .int (nI wg), .ref ad.1, .ref ad.2.1, .ref ad.2.2.1, .ref ad.2.2.2.1, .ref ad.2.2.2.2.1, .ref ad.2.2.2.2.2], ey Z ad.1 4000 K, ea Z ad.2.1 4000 F, ea Z ad.2.2.1 4000 S, ea Z ad.2.2.2.1 4000 T, ea Z ad.2.2.2.2.1 4000 D, el Z ad.2.2.2.2.2 4000 V]) (wr := []) (nl := 0) hx hb hml hown hts hK hG rfl hA hl (k_is0 l Z hm ad cd n wg K F S T D V xa ha (by omega)) hW trivial (hW.at 0 rfl) rfl rfl tb_833 tb_835 ts_11 tb_7 tb_836 (nA := 1) (by decide +kernel) rfl ⟨by omega, by omega⟩ ⟨by omega, by omega⟩ rfl (Nat.le_of_ble_eq_true rfl) dX4_concat_2 (fun v w1 H1 L1 hp hW hzz hkk hdd => ?_)
    obtain ⟨rfl, rfl⟩ := hp
    clear hzz hkk hdd
    generalize H1 = H at hW  ⊢
    generalize L1 = locs at hW ⊢
    have hW : Wd Z A s.heap ([eo hm 4 [.int (nI cd), .int (nI n), .int (nI wg), .ref ad.1, .ref ad.2.1, .ref ad.2.2.1, .ref ad.2.2.2.1, .ref ad.2.2.2.2.1, .ref ad.2.2.2.2.2], ey Z ad.1 4000 K, ea Z ad.2.1 4000 F, ea Z ad.2.2.1 4000 S, ea Z ad.2.2.2.1 4000 T, ea Z ad.2.2.2.2.1 4000 D, el Z ad.2.2.2.2.2 4000 V]) _ _ := hW
    refine W.eq (g2 := F0 m 5 ls [.int (nI 0)]) rfl ?_
    refine n_zeq_t (tgt := 38) hx hb rfl dX4_concat_5 (by decide) ?_
    refine lv_iconst (v := nI 0) hx hb dX4_concat_38 (by decide) ?_
    refine lv_istore_n (lv' := [(3, .int (nI 0)), (0, .ref hm), (1, .int xa), (2, .int xb)]) hx hb dX4_concat_39 rfl hl (by decide) rfl (fun ls hl => ?_)
    refine lv_iload_n hx hb dX4_concat_40 rfl (lv_at hl 0 rfl) ?_
    refine n_zeq_t (tgt := 60) hx hb rfl dX4_concat_41 (by decide) ?_
    refine lv_iconst (v := nI 1) hx hb dX4_concat_60 (by decide) ?_
    refine lv_istore (lv' := [(4, .int (nI 1)), (3, .int (nI 0)), (0, .ref hm), (1, .int xa), (2, .int xb)]) hx hb dX4_concat_61 hl (by decide) rfl (fun ls hl => ?_)
    refine lv_aload_n hx hb dX4_concat_63 rfl (lv_at hl 2 rfl) ?_
    refine lv_iload_n hx hb dX4_concat_64 rfl (lv_at hl 1 rfl) ?_
    refine lv_iload hx hb dX4_concat_65 (lv_at hl 0 rfl) ?_
    refine lv_bipush (v := nI 51) hx hb dX4_concat_67 (by decide) ?_
    refine lv_iload_n hx hb dX4_concat_69 rfl (lv_at hl 3 rfl) ?_
    refine lv_iload_n hx hb dX4_concat_70 rfl (lv_at hl 4 rfl) ?_
    refine lv_iconst (v := nI 0) hx hb dX4_concat_71 (by decide) ?_
    refine lv_iload hx hb dX4_concat_72 (lv_at hl 0 rfl) ?_
    refine c_virt (As := [.int (nI 0), .int (nI 1), .int (nI 51), .int xa, .int xb, .int (nI 0), .int (nI 1)]) (rest := []) (wc := [eo hm 4 [.int (nI cd), .int (nI n), .int (nI wg), .ref ad.1, .ref ad.2.1, .ref ad.2.2.1, .ref ad.2.2.2.1, .ref ad.2.2.2.2.1, .ref ad.2.2.2.2.2], ey Z ad.1 4000 K, ea Z ad.2.1 4000 F, ea Z ad.2.2.1 4000 S, ea Z ad.2.2.2.1 4000 T, ea Z ad.2.2.2.2.1 4000 D, el Z ad.2.2.2.2.2 4000 V]) (wr := []) (nl := 0) hx hb hml hown hts hK hG rfl hA hl (k_madd0 l Z hm ad cd n wg K F S T D V _ _ _ _ _ _) hW trivial (hW.at 0 rfl) rfl rfl tb_816 tb_818 ts_10 tb_7 tb_819 (nA := 7) (by decide +kernel) rfl ⟨by omega, by omega⟩ ⟨by omega, by omega⟩ rfl (Nat.le_of_ble_eq_true rfl) dX4_concat_74 (fun v w1 H1 L1 hp hW hzz hkk hdd => ?_)
    obtain ⟨rfl, rfl⟩ := hp
    clear hzz hkk hdd
    generalize H1 = H at hW  ⊢
    generalize L1 = locs at hW ⊢
    have hW : Wd Z A s.heap ([eo hm 4 [.int (nI 1), .int (nI n), .int (nI wg), .ref ad.1, .ref ad.2.1, .ref ad.2.2.1, .ref ad.2.2.2.1, .ref ad.2.2.2.2.1, .ref ad.2.2.2.2.2], ey Z ad.1 4000 K, ea Z ad.2.1 4000 F, ea Z ad.2.2.1 4000 S, ea Z ad.2.2.2.1 4000 T, ea Z ad.2.2.2.2.1 4000 D, el Z ad.2.2.2.2.2 4000 V]) _ _ := hW
    refine W.eq (g2 := F0 m 77 ls [.int (nI 0)]) rfl ?_
    exact e_int hx hb hr hlk hAe hW (by omega) (by omega) dX4_concat_77 ⟨⟨_, rfl⟩, rfl⟩
set_option maxHeartbeats 4000000 in
set_option maxRecDepth 100000 in
theorem k_mconcat1 (l : Launch) (Z : Zt) (hm : Nat) (ad : MA) (cd n wg : Nat) (K F S T D V : Nat → Nat) (i j : Nat) (hi : i < n) (hj : j < n) (hij : D i + D j ≤ 64) (hD : ∀ i, i < n → D i ≤ 64) (hn : n < 4000) (hwg : wg ≤ 100000) (hg : D i + D j + wg ≤ 100000)  : MC l yX4_concat cX4_concat 5 (some .int) 1 60 (0) (0) Z (mw Z hm ad cd n wg K F S T D V) (fun _ => True) [.ref hm, .int (nI i), .int (nI j)] (fun r w1 => r = some (.int (nI n)) ∧ w1 = mw Z hm ad 0 (n + 1) (wg + (D i + D j)) (up K n 51) (up F n i) (up S n j) (up T n 0) (up D n (D i + D j)) (up V n 0)) := by
  refine mc_of (by decide) (Nat.le_of_ble_eq_true rfl) (fun p e s m below meth c ls A hx hb hr hts hown hlk hml hin hK hG hW hA hAe hro hl R hRf hRc hRs hRl => ?_)
  have hl : lv_has ls 5 [(0, .ref hm), (1, .int (nI i)), (2, .int (nI j))] := hl
  have hW : Wd Z A s.heap ([eo hm 4 [.int (nI cd), .int (nI n), .int (nI wg), .ref ad.1, .ref ad.2.1, .ref ad.2.2.1, .ref ad.2.2.2.1, .ref ad.2.2.2.2.1, .ref ad.2.2.2.2.2], ey Z ad.1 4000 K, ea Z ad.2.1 4000 F, ea Z ad.2.2.1 4000 S, ea Z ad.2.2.2.1 4000 T, ea Z ad.2.2.2.2.1 4000 D, el Z ad.2.2.2.2.2 4000 V]) _ _ := hW
  have hdi := hD i hi
  refine lv_aload_n hx hb dX4_concat_0 rfl (lv_at hl 0 rfl) ?_
  refine lv_iload_n hx hb dX4_concat_1 rfl (lv_at hl 1 rfl) ?_
  refine c_virt (As := [.int (nI i)]) (rest := []) (wc := [eo hm 4 [.int (nI cd), .int (nI n), .int (nI wg), .ref ad.1, .ref ad.2.1, .ref ad.2.2.1, .ref ad.2.2.2.1, .ref ad.2.2.2.2.1, .ref ad.2.2.2.2.2], ey Z ad.1 4000 K, ea Z ad.2.1 4000 F, ea Z ad.2.2.1 4000 S, ea Z ad.2.2.2.1 4000 T, ea Z ad.2.2.2.2.1 4000 D, el Z ad.2.2.2.2.2 4000 V]) (wr := []) (nl := 0) hx hb hml hown hts hK hG rfl hA hl (k_is1 l Z hm ad cd n wg K F S T D V i hi (by omega)) hW trivial (hW.at 0 rfl) rfl rfl tb_833 tb_835 ts_11 tb_7 tb_836 (nA := 1) (by decide +kernel) rfl ⟨by omega, by omega⟩ ⟨by omega, by omega⟩ rfl (Nat.le_of_ble_eq_true rfl) dX4_concat_2 (fun v w1 H1 L1 hp hW hzz hkk hdd => ?_)
  obtain ⟨rfl, rfl⟩ := hp
  clear hzz hkk hdd
  generalize H1 = H at hW  ⊢
  generalize L1 = locs at hW ⊢
  have hW : Wd Z A s.heap ([eo hm 4 [.int (nI cd), .int (nI n), .int (nI wg), .ref ad.1, .ref ad.2.1, .ref ad.2.2.1, .ref ad.2.2.2.1, .ref ad.2.2.2.2.1, .ref ad.2.2.2.2.2], ey Z ad.1 4000 K, ea Z ad.2.1 4000 F, ea Z ad.2.2.1 4000 S, ea Z ad.2.2.2.1 4000 T, ea Z ad.2.2.2.2.1 4000 D, el Z ad.2.2.2.2.2 4000 V]) _ _ := hW
  refine W.eq (g2 := F0 m 5 ls [.int (nI 1)]) rfl ?_
  refine n_zeq_f (tgt := 38) hx hb (by decide) (by omega) dX4_concat_5 (by decide) ?_
  refine lv_aload_n hx hb dX4_concat_8 rfl (lv_at hl 0 rfl) ?_
  refine lv_iload_n hx hb dX4_concat_9 rfl (lv_at hl 2 rfl) ?_
  refine c_virt (As := [.int (nI j)]) (rest := []) (wc := [eo hm 4 [.int (nI cd), .int (nI n), .int (nI wg), .ref ad.1, .ref ad.2.1, .ref ad.2.2.1, .ref ad.2.2.2.1, .ref ad.2.2.2.2.1, .ref ad.2.2.2.2.2], ey Z ad.1 4000 K, ea Z ad.2.1 4000 F, ea Z ad.2.2.1 4000 S, ea Z ad.2.2.2.1 4000 T, ea Z ad.2.2.2.2.1 4000 D, el Z ad.2.2.2.2.2 4000 V]) (wr := []) (nl := 0) hx hb hml hown hts hK hG rfl hA hl (k_is1 l Z hm ad cd n wg K F S T D V j hj (by omega)) hW trivial (hW.at 0 rfl) rfl rfl tb_833 tb_835 ts_11 tb_7 tb_836 (nA := 1) (by decide +kernel) rfl ⟨by omega, by omega⟩ ⟨by omega, by omega⟩ rfl (Nat.le_of_ble_eq_true rfl) dX4_concat_10 (fun v w1 H1 L1 hp hW hzz hkk hdd => ?_)
  obtain ⟨rfl, rfl⟩ := hp
  clear hzz hkk hdd
  generalize H1 = H at hW  ⊢
  generalize L1 = locs at hW ⊢
  have hW : Wd Z A s.heap ([eo hm 4 [.int (nI cd), .int (nI n), .int (nI wg), .ref ad.1, .ref ad.2.1, .ref ad.2.2.1, .ref ad.2.2.2.1, .ref ad.2.2.2.2.1, .ref ad.2.2.2.2.2], ey Z ad.1 4000 K, ea Z ad.2.1 4000 F, ea Z ad.2.2.1 4000 S, ea Z ad.2.2.2.1 4000 T, ea Z ad.2.2.2.2.1 4000 D, el Z ad.2.2.2.2.2 4000 V]) _ _ := hW
  refine W.eq (g2 := F0 m 13 ls [.int (nI 1)]) rfl ?_
  refine n_zeq_f (tgt := 38) hx hb (by decide) (by omega) dX4_concat_13 (by decide) ?_
  refine lv_aload_n hx hb dX4_concat_16 rfl (lv_at hl 0 rfl) ?_
  refine r_get hx hb hts hown hK (hW.at 0 rfl) rfl in_X4 7 (by decide) tb_786 (fun _ h => h) rfl dX4_concat_17 ?_
  refine lv_iload_n hx hb dX4_concat_20 rfl (lv_at hl 1 rfl) ?_
  refine r_ald (i := i) hx hb hK (hW.at 5 rfl) (by omega) (by omega) dX4_concat_21 ?_
  refine lv_aload_n hx hb dX4_concat_22 rfl (lv_at hl 0 rfl) ?_
  refine r_get hx hb hts hown hK (hW.at 0 rfl) rfl in_X4 7 (by decide) tb_786 (fun _ h => h) rfl dX4_concat_23 ?_
  refine lv_iload_n hx hb dX4_concat_26 rfl (lv_at hl 2 rfl) ?_
  refine r_ald (i := j) hx hb hK (hW.at 5 rfl) (by omega) (by omega) dX4_concat_27 ?_
  refine n_iadd hx hb dX4_concat_28 ?_
  refine lv_bipush (v := nI 64) hx hb dX4_concat_29 (by decide) ?_
  refine n_gt_f (tgt := 38) hx hb (by omega) (by omega) dX4_concat_31 (by decide) ?_
  refine lv_iconst (v := nI 1) hx hb dX4_concat_34 (by decide) ?_
  refine lv_goto (tgt := 39) hx hb dX4_concat_35 (by decide) ?_
  refine lv_istore_n (lv' := [(3, .int (nI 1)), (0, .ref hm), (1, .int (nI i)), (2, .int (nI j))]) hx hb dX4_concat_39 rfl hl (by decide) rfl (fun ls hl => ?_)
  refine lv_iload_n hx hb dX4_concat_40 rfl (lv_at hl 0 rfl) ?_
  refine n_zeq_f (tgt := 60) hx hb (by decide) (by omega) dX4_concat_41 (by decide) ?_
  refine lv_aload_n hx hb dX4_concat_44 rfl (lv_at hl 1 rfl) ?_
  refine r_get hx hb hts hown hK (hW.at 0 rfl) rfl in_X4 7 (by decide) tb_786 (fun _ h => h) rfl dX4_concat_45 ?_
  refine lv_iload_n hx hb dX4_concat_48 rfl (lv_at hl 2 rfl) ?_
  refine r_ald (i := i) hx hb hK (hW.at 5 rfl) (by omega) (by omega) dX4_concat_49 ?_
  refine lv_aload_n hx hb dX4_concat_50 rfl (lv_at hl 1 rfl) ?_
  refine r_get hx hb hts hown hK (hW.at 0 rfl) rfl in_X4 7 (by decide) tb_786 (fun _ h => h) rfl dX4_concat_51 ?_
  refine lv_iload_n hx hb dX4_concat_54 rfl (lv_at hl 3 rfl) ?_
  refine r_ald (i := j) hx hb hK (hW.at 5 rfl) (by omega) (by omega) dX4_concat_55 ?_
  refine n_iadd hx hb dX4_concat_56 ?_
  refine lv_goto (tgt := 61) hx hb dX4_concat_57 (by decide) ?_
  refine lv_istore (lv' := [(4, .int (nI ((D i) + (D j)))), (3, .int (nI 1)), (0, .ref hm), (1, .int (nI i)), (2, .int (nI j))]) hx hb dX4_concat_61 hl (by decide) rfl (fun ls hl => ?_)
  refine lv_aload_n hx hb dX4_concat_63 rfl (lv_at hl 2 rfl) ?_
  refine lv_iload_n hx hb dX4_concat_64 rfl (lv_at hl 1 rfl) ?_
  refine lv_iload hx hb dX4_concat_65 (lv_at hl 0 rfl) ?_
  refine lv_bipush (v := nI 51) hx hb dX4_concat_67 (by decide) ?_
  refine lv_iload_n hx hb dX4_concat_69 rfl (lv_at hl 3 rfl) ?_
  refine lv_iload_n hx hb dX4_concat_70 rfl (lv_at hl 4 rfl) ?_
  refine lv_iconst (v := nI 0) hx hb dX4_concat_71 (by decide) ?_
  refine lv_iload hx hb dX4_concat_72 (lv_at hl 0 rfl) ?_
  refine c_virt (As := [.int (nI 1), .int (nI ((D i) + (D j))), .int (nI 51), .int (nI i), .int (nI j), .int (nI 0), .int (nI ((D i) + (D j)))]) (rest := []) (wc := [eo hm 4 [.int (nI cd), .int (nI n), .int (nI wg), .ref ad.1, .ref ad.2.1, .ref ad.2.2.1, .ref ad.2.2.2.1, .ref ad.2.2.2.2.1, .ref ad.2.2.2.2.2], ey Z ad.1 4000 K, ea Z ad.2.1 4000 F, ea Z ad.2.2.1 4000 S, ea Z ad.2.2.2.1 4000 T, ea Z ad.2.2.2.2.1 4000 D, el Z ad.2.2.2.2.2 4000 V]) (wr := []) (nl := 0) hx hb hml hown hts hK hG rfl hA hl (k_madd1 l Z hm ad cd n wg K F S T D V (D i + D j) 51 i j 0 (D i + D j) hn (by omega) (by omega)) hW trivial (hW.at 0 rfl) rfl rfl tb_816 tb_818 ts_10 tb_7 tb_819 (nA := 7) (by decide +kernel) rfl ⟨by omega, by omega⟩ ⟨by omega, by omega⟩ rfl (Nat.le_of_ble_eq_true rfl) dX4_concat_74 (fun v w1 H1 L1 hp hW hzz hkk hdd => ?_)
  obtain ⟨rfl, rfl⟩ := hp
  clear hzz hkk hdd
  generalize H1 = H at hW  ⊢
  generalize L1 = locs at hW ⊢
  have hW : Wd Z A s.heap ([eo hm 4 [.int (nI 0), .int (nI (n + 1)), .int (nI (wg + (D i + D j))), .ref ad.1, .ref ad.2.1, .ref ad.2.2.1, .ref ad.2.2.2.1, .ref ad.2.2.2.2.1, .ref ad.2.2.2.2.2], ey Z ad.1 4000 (up K n 51), ea Z ad.2.1 4000 (up F n i), ea Z ad.2.2.1 4000 (up S n j), ea Z ad.2.2.2.1 4000 (up T n 0), ea Z ad.2.2.2.2.1 4000 (up D n (D i + D j)), el Z ad.2.2.2.2.2 4000 (up V n 0)]) _ _ := hW
  refine W.eq (g2 := F0 m 77 ls [.int (nI n)]) rfl ?_
  exact e_int hx hb hr hlk hAe hW (by omega) (by omega) dX4_concat_77 ⟨rfl, rfl⟩
set_option maxHeartbeats 4000000 in
set_option maxRecDepth 100000 in
theorem k_mconcat2 (l : Launch) (Z : Zt) (hm : Nat) (ad : MA) (cd n wg : Nat) (K F S T D V : Nat → Nat) (i j : Nat) (hi : i < n) (hj : j < n) (hij : D i + D j ≤ 64) (hD : ∀ i, i < n → D i ≤ 64) (hn : n < 4000) (hwg : wg ≤ 100000) (hg : ¬ D i + D j + wg ≤ 100000)  : MC l yX4_concat cX4_concat 5 (some .int) 1 60 (0) (0) Z (mw Z hm ad cd n wg K F S T D V) (fun _ => True) [.ref hm, .int (nI i), .int (nI j)] (fun r w1 => (∃ r0 : Int32, r = some (.int r0)) ∧ w1 = mw Z hm ad 2 n wg K F S T D V) := by
  refine mc_of (by decide) (Nat.le_of_ble_eq_true rfl) (fun p e s m below meth c ls A hx hb hr hts hown hlk hml hin hK hG hW hA hAe hro hl R hRf hRc hRs hRl => ?_)
  have hl : lv_has ls 5 [(0, .ref hm), (1, .int (nI i)), (2, .int (nI j))] := hl
  have hW : Wd Z A s.heap ([eo hm 4 [.int (nI cd), .int (nI n), .int (nI wg), .ref ad.1, .ref ad.2.1, .ref ad.2.2.1, .ref ad.2.2.2.1, .ref ad.2.2.2.2.1, .ref ad.2.2.2.2.2], ey Z ad.1 4000 K, ea Z ad.2.1 4000 F, ea Z ad.2.2.1 4000 S, ea Z ad.2.2.2.1 4000 T, ea Z ad.2.2.2.2.1 4000 D, el Z ad.2.2.2.2.2 4000 V]) _ _ := hW
  have hdi := hD i hi
  refine lv_aload_n hx hb dX4_concat_0 rfl (lv_at hl 0 rfl) ?_
  refine lv_iload_n hx hb dX4_concat_1 rfl (lv_at hl 1 rfl) ?_
  refine c_virt (As := [.int (nI i)]) (rest := []) (wc := [eo hm 4 [.int (nI cd), .int (nI n), .int (nI wg), .ref ad.1, .ref ad.2.1, .ref ad.2.2.1, .ref ad.2.2.2.1, .ref ad.2.2.2.2.1, .ref ad.2.2.2.2.2], ey Z ad.1 4000 K, ea Z ad.2.1 4000 F, ea Z ad.2.2.1 4000 S, ea Z ad.2.2.2.1 4000 T, ea Z ad.2.2.2.2.1 4000 D, el Z ad.2.2.2.2.2 4000 V]) (wr := []) (nl := 0) hx hb hml hown hts hK hG rfl hA hl (k_is1 l Z hm ad cd n wg K F S T D V i hi (by omega)) hW trivial (hW.at 0 rfl) rfl rfl tb_833 tb_835 ts_11 tb_7 tb_836 (nA := 1) (by decide +kernel) rfl ⟨by omega, by omega⟩ ⟨by omega, by omega⟩ rfl (Nat.le_of_ble_eq_true rfl) dX4_concat_2 (fun v w1 H1 L1 hp hW hzz hkk hdd => ?_)
  obtain ⟨rfl, rfl⟩ := hp
  clear hzz hkk hdd
  generalize H1 = H at hW  ⊢
  generalize L1 = locs at hW ⊢
  have hW : Wd Z A s.heap ([eo hm 4 [.int (nI cd), .int (nI n), .int (nI wg), .ref ad.1, .ref ad.2.1, .ref ad.2.2.1, .ref ad.2.2.2.1, .ref ad.2.2.2.2.1, .ref ad.2.2.2.2.2], ey Z ad.1 4000 K, ea Z ad.2.1 4000 F, ea Z ad.2.2.1 4000 S, ea Z ad.2.2.2.1 4000 T, ea Z ad.2.2.2.2.1 4000 D, el Z ad.2.2.2.2.2 4000 V]) _ _ := hW
  refine W.eq (g2 := F0 m 5 ls [.int (nI 1)]) rfl ?_
  refine n_zeq_f (tgt := 38) hx hb (by decide) (by omega) dX4_concat_5 (by decide) ?_
  refine lv_aload_n hx hb dX4_concat_8 rfl (lv_at hl 0 rfl) ?_
  refine lv_iload_n hx hb dX4_concat_9 rfl (lv_at hl 2 rfl) ?_
  refine c_virt (As := [.int (nI j)]) (rest := []) (wc := [eo hm 4 [.int (nI cd), .int (nI n), .int (nI wg), .ref ad.1, .ref ad.2.1, .ref ad.2.2.1, .ref ad.2.2.2.1, .ref ad.2.2.2.2.1, .ref ad.2.2.2.2.2], ey Z ad.1 4000 K, ea Z ad.2.1 4000 F, ea Z ad.2.2.1 4000 S, ea Z ad.2.2.2.1 4000 T, ea Z ad.2.2.2.2.1 4000 D, el Z ad.2.2.2.2.2 4000 V]) (wr := []) (nl := 0) hx hb hml hown hts hK hG rfl hA hl (k_is1 l Z hm ad cd n wg K F S T D V j hj (by omega)) hW trivial (hW.at 0 rfl) rfl rfl tb_833 tb_835 ts_11 tb_7 tb_836 (nA := 1) (by decide +kernel) rfl ⟨by omega, by omega⟩ ⟨by omega, by omega⟩ rfl (Nat.le_of_ble_eq_true rfl) dX4_concat_10 (fun v w1 H1 L1 hp hW hzz hkk hdd => ?_)
  obtain ⟨rfl, rfl⟩ := hp
  clear hzz hkk hdd
  generalize H1 = H at hW  ⊢
  generalize L1 = locs at hW ⊢
  have hW : Wd Z A s.heap ([eo hm 4 [.int (nI cd), .int (nI n), .int (nI wg), .ref ad.1, .ref ad.2.1, .ref ad.2.2.1, .ref ad.2.2.2.1, .ref ad.2.2.2.2.1, .ref ad.2.2.2.2.2], ey Z ad.1 4000 K, ea Z ad.2.1 4000 F, ea Z ad.2.2.1 4000 S, ea Z ad.2.2.2.1 4000 T, ea Z ad.2.2.2.2.1 4000 D, el Z ad.2.2.2.2.2 4000 V]) _ _ := hW
  refine W.eq (g2 := F0 m 13 ls [.int (nI 1)]) rfl ?_
  refine n_zeq_f (tgt := 38) hx hb (by decide) (by omega) dX4_concat_13 (by decide) ?_
  refine lv_aload_n hx hb dX4_concat_16 rfl (lv_at hl 0 rfl) ?_
  refine r_get hx hb hts hown hK (hW.at 0 rfl) rfl in_X4 7 (by decide) tb_786 (fun _ h => h) rfl dX4_concat_17 ?_
  refine lv_iload_n hx hb dX4_concat_20 rfl (lv_at hl 1 rfl) ?_
  refine r_ald (i := i) hx hb hK (hW.at 5 rfl) (by omega) (by omega) dX4_concat_21 ?_
  refine lv_aload_n hx hb dX4_concat_22 rfl (lv_at hl 0 rfl) ?_
  refine r_get hx hb hts hown hK (hW.at 0 rfl) rfl in_X4 7 (by decide) tb_786 (fun _ h => h) rfl dX4_concat_23 ?_
  refine lv_iload_n hx hb dX4_concat_26 rfl (lv_at hl 2 rfl) ?_
  refine r_ald (i := j) hx hb hK (hW.at 5 rfl) (by omega) (by omega) dX4_concat_27 ?_
  refine n_iadd hx hb dX4_concat_28 ?_
  refine lv_bipush (v := nI 64) hx hb dX4_concat_29 (by decide) ?_
  refine n_gt_f (tgt := 38) hx hb (by omega) (by omega) dX4_concat_31 (by decide) ?_
  refine lv_iconst (v := nI 1) hx hb dX4_concat_34 (by decide) ?_
  refine lv_goto (tgt := 39) hx hb dX4_concat_35 (by decide) ?_
  refine lv_istore_n (lv' := [(3, .int (nI 1)), (0, .ref hm), (1, .int (nI i)), (2, .int (nI j))]) hx hb dX4_concat_39 rfl hl (by decide) rfl (fun ls hl => ?_)
  refine lv_iload_n hx hb dX4_concat_40 rfl (lv_at hl 0 rfl) ?_
  refine n_zeq_f (tgt := 60) hx hb (by decide) (by omega) dX4_concat_41 (by decide) ?_
  refine lv_aload_n hx hb dX4_concat_44 rfl (lv_at hl 1 rfl) ?_
  refine r_get hx hb hts hown hK (hW.at 0 rfl) rfl in_X4 7 (by decide) tb_786 (fun _ h => h) rfl dX4_concat_45 ?_
  refine lv_iload_n hx hb dX4_concat_48 rfl (lv_at hl 2 rfl) ?_
  refine r_ald (i := i) hx hb hK (hW.at 5 rfl) (by omega) (by omega) dX4_concat_49 ?_
  refine lv_aload_n hx hb dX4_concat_50 rfl (lv_at hl 1 rfl) ?_
  refine r_get hx hb hts hown hK (hW.at 0 rfl) rfl in_X4 7 (by decide) tb_786 (fun _ h => h) rfl dX4_concat_51 ?_
  refine lv_iload_n hx hb dX4_concat_54 rfl (lv_at hl 3 rfl) ?_
  refine r_ald (i := j) hx hb hK (hW.at 5 rfl) (by omega) (by omega) dX4_concat_55 ?_
  refine n_iadd hx hb dX4_concat_56 ?_
  refine lv_goto (tgt := 61) hx hb dX4_concat_57 (by decide) ?_
  refine lv_istore (lv' := [(4, .int (nI ((D i) + (D j)))), (3, .int (nI 1)), (0, .ref hm), (1, .int (nI i)), (2, .int (nI j))]) hx hb dX4_concat_61 hl (by decide) rfl (fun ls hl => ?_)
  refine lv_aload_n hx hb dX4_concat_63 rfl (lv_at hl 2 rfl) ?_
  refine lv_iload_n hx hb dX4_concat_64 rfl (lv_at hl 1 rfl) ?_
  refine lv_iload hx hb dX4_concat_65 (lv_at hl 0 rfl) ?_
  refine lv_bipush (v := nI 51) hx hb dX4_concat_67 (by decide) ?_
  refine lv_iload_n hx hb dX4_concat_69 rfl (lv_at hl 3 rfl) ?_
  refine lv_iload_n hx hb dX4_concat_70 rfl (lv_at hl 4 rfl) ?_
  refine lv_iconst (v := nI 0) hx hb dX4_concat_71 (by decide) ?_
  refine lv_iload hx hb dX4_concat_72 (lv_at hl 0 rfl) ?_
  refine c_virt (As := [.int (nI 1), .int (nI ((D i) + (D j))), .int (nI 51), .int (nI i), .int (nI j), .int (nI 0), .int (nI ((D i) + (D j)))]) (rest := []) (wc := [eo hm 4 [.int (nI cd), .int (nI n), .int (nI wg), .ref ad.1, .ref ad.2.1, .ref ad.2.2.1, .ref ad.2.2.2.1, .ref ad.2.2.2.2.1, .ref ad.2.2.2.2.2], ey Z ad.1 4000 K, ea Z ad.2.1 4000 F, ea Z ad.2.2.1 4000 S, ea Z ad.2.2.2.1 4000 T, ea Z ad.2.2.2.2.1 4000 D, el Z ad.2.2.2.2.2 4000 V]) (wr := []) (nl := 0) hx hb hml hown hts hK hG rfl hA hl (k_madd2 l Z hm ad cd n wg K F S T D V (D i + D j) _ _ _ _ _ hn (by omega) (by omega)) hW trivial (hW.at 0 rfl) rfl rfl tb_816 tb_818 ts_10 tb_7 tb_819 (nA := 7) (by decide +kernel) rfl ⟨by omega, by omega⟩ ⟨by omega, by omega⟩ rfl (Nat.le_of_ble_eq_true rfl) dX4_concat_74 (fun v w1 H1 L1 hp hW hzz hkk hdd => ?_)
  obtain ⟨rfl, rfl⟩ := hp
  clear hzz hkk hdd
  generalize H1 = H at hW  ⊢
  generalize L1 = locs at hW ⊢
  have hW : Wd Z A s.heap ([eo hm 4 [.int (nI 2), .int (nI n), .int (nI wg), .ref ad.1, .ref ad.2.1, .ref ad.2.2.1, .ref ad.2.2.2.1, .ref ad.2.2.2.2.1, .ref ad.2.2.2.2.2], ey Z ad.1 4000 K, ea Z ad.2.1 4000 F, ea Z ad.2.2.1 4000 S, ea Z ad.2.2.2.1 4000 T, ea Z ad.2.2.2.2.1 4000 D, el Z ad.2.2.2.2.2 4000 V]) _ _ := hW
  refine W.eq (g2 := F0 m 77 ls [.int (nI 0)]) rfl ?_
  exact e_int hx hb hr hlk hAe hW (by omega) (by omega) dX4_concat_77 ⟨⟨_, rfl⟩, rfl⟩
set_option maxHeartbeats 4000000 in
set_option maxRecDepth 100000 in
theorem k_mextract0 (l : Launch) (Z : Zt) (hm : Nat) (ad : MA) (cd n wg : Nat) (K F S T D V : Nat → Nat) (xa xh xl : Int32) (h : ¬ ∃ i lo hi, i < n ∧ xa = nI i ∧ xl = nI lo ∧ xh = nI hi ∧ lo ≤ hi ∧ hi < D i) (hD : ∀ i, i < n → D i ≤ 64) (hn : n < 4000)  : MC l yX4_extract cX4_extract 6 (some .int) 1 60 (0) (0) Z (mw Z hm ad cd n wg K F S T D V) (fun _ => True) [.ref hm, .int xa, .int xh, .int xl] (fun r w1 => (∃ r0 : Int32, r = some (.int r0)) ∧ w1 = mw Z hm ad 1 n wg K F S T D V) := by
  refine mc_of (by decide) (Nat.le_of_ble_eq_true rfl) (fun p e s m below meth c ls A hx hb hr hts hown hlk hml hin hK hG hW hA hAe hro hl R hRf hRc hRs hRl => ?_)
  have hl : lv_has ls 6 [(0, .ref hm), (1, .int xa), (2, .int xh), (3, .int xl)] := hl
  have hW : Wd Z A s.heap ([eo hm 4 [.int (nI cd), .int (nI n), .int (nI wg), .ref ad.1, .ref ad.2.1, .ref ad.2.2.1, .ref ad.2.2.2.1, .ref ad.2.2.2.2.1, .ref ad.2.2.2.2.2], ey Z ad.1 4000 K, ea Z ad.2.1 4000 F, ea Z ad.2.2.1 4000 S, ea Z ad.2.2.2.1 4000 T, ea Z ad.2.2.2.2.1 4000 D, el Z ad.2.2.2.2.2 4000 V]) _ _ := hW
  refine lv_aload_n hx hb dX4_extract_0 rfl (lv_at hl 0 rfl) ?_
  refine lv_iload_n hx hb dX4_extract_1 rfl (lv_at hl 1 rfl) ?_
  by_cases ha : vix xa n
  · obtain ⟨i, hi, rfl⟩ := ha
    have hdi := hD i hi
    refine c_virt (As := [.int (nI i)]) (rest := []) (wc := [eo hm 4 [.int (nI cd), .int (nI n), .int (nI wg), .ref ad.1, .ref ad.2.1, .ref ad.2.2.1, .ref ad.2.2.2.1, .ref ad.2.2.2.2.1, .ref ad.2.2.2.2.2], ey Z ad.1 4000 K, ea Z ad.2.1 4000 F, ea Z ad.2.2.1 4000 S, ea Z ad.2.2.2.1 4000 T, ea Z ad.2.2.2.2.1 4000 D, el Z ad.2.2.2.2.2 4000 V]) (wr := []) (nl := 0) hx hb hml hown hts hK hG rfl hA hl (k_is1 l Z hm ad cd n wg K F S T D V i hi (by omega)) hW trivial (hW.at 0 rfl) rfl rfl tb_833 tb_835 ts_11 tb_7 tb_836 (nA := 1) (by decide +kernel) rfl ⟨by omega, by omega⟩ ⟨by omega, by omega⟩ rfl (Nat.le_of_ble_eq_true rfl) dX4_extract_2 (fun v w1 H1 L1 hp hW hzz hkk hdd => ?_)
    obtain ⟨rfl, rfl⟩ := hp
    clear hzz hkk hdd
    generalize H1 = H at hW  ⊢
    generalize L1 = locs at hW ⊢
    have hW : Wd Z A s.heap ([eo hm 4 [.int (nI cd), .int (nI n), .int (nI wg), .ref ad.1, .ref ad.2.1, .ref ad.2.2.1, .ref ad.2.2.2.1, .ref ad.2.2.2.2.1, .ref ad.2.2.2.2.2], ey Z ad.1 4000 K, ea Z ad.2.1 4000 F, ea Z ad.2.2.1 4000 S, ea Z ad.2.2.2.1 4000 T, ea Z ad.2.2.2.2.1 4000 D, el Z ad.2.2.2.2.2 4000 V]) _ _ := hW
    refine W.eq (g2 := F0 m 5 ls [.int (nI 1)]) rfl ?_
    refine n_zeq_f (tgt := 31) hx hb (by decide) (by omega) dX4_extract_5 (by decide) ?_
    refine lv_iload_n hx hb dX4_extract_8 rfl (lv_at hl 3 rfl) ?_
    refine lv_if_lt (tgt := 31) hx hb dX4_extract_9 (by decide) (fun q1 => ?_) (fun q1 => ?_)
    all_goals rw [i_neg] at q1
    · refine lv_iconst (v := nI 0) hx hb dX4_extract_31 (by decide) ?_
      refine lv_istore (lv' := [(4, .int (nI 0)), (0, .ref hm), (1, .int (nI i)), (2, .int xh), (3, .int xl)]) hx hb dX4_extract_32 hl (by decide) rfl (fun ls hl => ?_)
      refine lv_iload hx hb dX4_extract_34 (lv_at hl 0 rfl) ?_
      refine n_zeq_t (tgt := 47) hx hb rfl dX4_extract_36 (by decide) ?_
      refine lv_iconst (v := nI 1) hx hb dX4_extract_47 (by decide) ?_
      refine lv_istore (lv' := [(5, .int (nI 1)), (4, .int (nI 0)), (0, .ref hm), (1, .int (nI i)), (2, .int xh), (3, .int xl)]) hx hb dX4_extract_48 hl (by decide) rfl (fun ls hl => ?_)
      refine lv_aload_n hx hb dX4_extract_50 rfl (lv_at hl 2 rfl) ?_
      refine lv_iload hx hb dX4_extract_51 (lv_at hl 1 rfl) ?_
      refine lv_iload hx hb dX4_extract_53 (lv_at hl 0 rfl) ?_
      refine lv_bipush (v := nI 52) hx hb dX4_extract_55 (by decide) ?_
      refine lv_iload_n hx hb dX4_extract_57 rfl (lv_at hl 3 rfl) ?_
      refine lv_iload_n hx hb dX4_extract_58 rfl (lv_at hl 5 rfl) ?_
      refine lv_iconst (v := nI 0) hx hb dX4_extract_59 (by decide) ?_
      refine lv_iload hx hb dX4_extract_60 (lv_at hl 0 rfl) ?_
      refine c_virt (As := [.int (nI 0), .int (nI 1), .int (nI 52), .int (nI i), .int xl, .int (nI 0), .int (nI 1)]) (rest := []) (wc := [eo hm 4 [.int (nI cd), .int (nI n), .int (nI wg), .ref ad.1, .ref ad.2.1, .ref ad.2.2.1, .ref ad.2.2.2.1, .ref ad.2.2.2.2.1, .ref ad.2.2.2.2.2], ey Z ad.1 4000 K, ea Z ad.2.1 4000 F, ea Z ad.2.2.1 4000 S, ea Z ad.2.2.2.1 4000 T, ea Z ad.2.2.2.2.1 4000 D, el Z ad.2.2.2.2.2 4000 V]) (wr := []) (nl := 0) hx hb hml hown hts hK hG rfl hA hl (k_madd0 l Z hm ad cd n wg K F S T D V _ _ _ _ _ _) hW trivial (hW.at 0 rfl) rfl rfl tb_816 tb_818 ts_10 tb_7 tb_819 (nA := 7) (by decide +kernel) rfl ⟨by omega, by omega⟩ ⟨by omega, by omega⟩ rfl (Nat.le_of_ble_eq_true rfl) dX4_extract_62 (fun v w1 H1 L1 hp hW hzz hkk hdd => ?_)
      obtain ⟨rfl, rfl⟩ := hp
      clear hzz hkk hdd
      generalize H1 = H at hW  ⊢
      generalize L1 = locs at hW ⊢
      have hW : Wd Z A s.heap ([eo hm 4 [.int (nI 1), .int (nI n), .int (nI wg), .ref ad.1, .ref ad.2.1, .ref ad.2.2.1, .ref ad.2.2.2.1, .ref ad.2.2.2.2.1, .ref ad.2.2.2.2.2], ey Z ad.1 4000 K, ea Z ad.2.1 4000 F, ea Z ad.2.2.1 4000 S, ea Z ad.2.2.2.1 4000 T, ea Z ad.2.2.2.2.1 4000 D, el Z ad.2.2.2.2.2 4000 V]) _ _ := hW
      refine W.eq (g2 := F0 m 65 ls [.int (nI 0)]) rfl ?_
      exact e_int hx hb hr hlk hAe hW (by omega) (by omega) dX4_extract_65 ⟨⟨_, rfl⟩, rfl⟩
    · refine lv_iload_n hx hb dX4_extract_12 rfl (lv_at hl 2 rfl) ?_
      refine lv_iload_n hx hb dX4_extract_13 rfl (lv_at hl 3 rfl) ?_
      refine lv_icmp_lt (tgt := 31) hx hb dX4_extract_14 (by decide) (fun q2 => ?_) (fun q2 => ?_)
      all_goals rw [Int32.lt_iff_toInt_lt] at q2
      · refine lv_iconst (v := nI 0) hx hb dX4_extract_31 (by decide) ?_
        refine lv_istore (lv' := [(4, .int (nI 0)), (0, .ref hm), (1, .int (nI i)), (2, .int xh), (3, .int xl)]) hx hb dX4_extract_32 hl (by decide) rfl (fun ls hl => ?_)
        refine lv_iload hx hb dX4_extract_34 (lv_at hl 0 rfl) ?_
        refine n_zeq_t (tgt := 47) hx hb rfl dX4_extract_36 (by decide) ?_
        refine lv_iconst (v := nI 1) hx hb dX4_extract_47 (by decide) ?_
        refine lv_istore (lv' := [(5, .int (nI 1)), (4, .int (nI 0)), (0, .ref hm), (1, .int (nI i)), (2, .int xh), (3, .int xl)]) hx hb dX4_extract_48 hl (by decide) rfl (fun ls hl => ?_)
        refine lv_aload_n hx hb dX4_extract_50 rfl (lv_at hl 2 rfl) ?_
        refine lv_iload hx hb dX4_extract_51 (lv_at hl 1 rfl) ?_
        refine lv_iload hx hb dX4_extract_53 (lv_at hl 0 rfl) ?_
        refine lv_bipush (v := nI 52) hx hb dX4_extract_55 (by decide) ?_
        refine lv_iload_n hx hb dX4_extract_57 rfl (lv_at hl 3 rfl) ?_
        refine lv_iload_n hx hb dX4_extract_58 rfl (lv_at hl 5 rfl) ?_
        refine lv_iconst (v := nI 0) hx hb dX4_extract_59 (by decide) ?_
        refine lv_iload hx hb dX4_extract_60 (lv_at hl 0 rfl) ?_
        refine c_virt (As := [.int (nI 0), .int (nI 1), .int (nI 52), .int (nI i), .int xl, .int (nI 0), .int (nI 1)]) (rest := []) (wc := [eo hm 4 [.int (nI cd), .int (nI n), .int (nI wg), .ref ad.1, .ref ad.2.1, .ref ad.2.2.1, .ref ad.2.2.2.1, .ref ad.2.2.2.2.1, .ref ad.2.2.2.2.2], ey Z ad.1 4000 K, ea Z ad.2.1 4000 F, ea Z ad.2.2.1 4000 S, ea Z ad.2.2.2.1 4000 T, ea Z ad.2.2.2.2.1 4000 D, el Z ad.2.2.2.2.2 4000 V]) (wr := []) (nl := 0) hx hb hml hown hts hK hG rfl hA hl (k_madd0 l Z hm ad cd n wg K F S T D V _ _ _ _ _ _) hW trivial (hW.at 0 rfl) rfl rfl tb_816 tb_818 ts_10 tb_7 tb_819 (nA := 7) (by decide +kernel) rfl ⟨by omega, by omega⟩ ⟨by omega, by omega⟩ rfl (Nat.le_of_ble_eq_true rfl) dX4_extract_62 (fun v w1 H1 L1 hp hW hzz hkk hdd => ?_)
        obtain ⟨rfl, rfl⟩ := hp
        clear hzz hkk hdd
        generalize H1 = H at hW  ⊢
        generalize L1 = locs at hW ⊢
        have hW : Wd Z A s.heap ([eo hm 4 [.int (nI 1), .int (nI n), .int (nI wg), .ref ad.1, .ref ad.2.1, .ref ad.2.2.1, .ref ad.2.2.2.1, .ref ad.2.2.2.2.1, .ref ad.2.2.2.2.2], ey Z ad.1 4000 K, ea Z ad.2.1 4000 F, ea Z ad.2.2.1 4000 S, ea Z ad.2.2.2.1 4000 T, ea Z ad.2.2.2.2.1 4000 D, el Z ad.2.2.2.2.2 4000 V]) _ _ := hW
        refine W.eq (g2 := F0 m 65 ls [.int (nI 0)]) rfl ?_
        exact e_int hx hb hr hlk hAe hW (by omega) (by omega) dX4_extract_65 ⟨⟨_, rfl⟩, rfl⟩
      · refine lv_iload_n hx hb dX4_extract_17 rfl (lv_at hl 2 rfl) ?_
        refine lv_aload_n hx hb dX4_extract_18 rfl (lv_at hl 0 rfl) ?_
        refine r_get hx hb hts hown hK (hW.at 0 rfl) rfl in_X4 7 (by decide) tb_786 (fun _ h => h) rfl dX4_extract_19 ?_
        refine lv_iload_n hx hb dX4_extract_22 rfl (lv_at hl 1 rfl) ?_
        refine r_ald (i := i) hx hb hK (hW.at 5 rfl) (by omega) (by omega) dX4_extract_23 ?_
        refine lv_icmp_ge (tgt := 31) hx hb dX4_extract_24 (by decide) (fun q3 => ?_) (fun q3 => ?_)
        all_goals rw [i_ge _ (by omega)] at q3
        · refine lv_iconst (v := nI 0) hx hb dX4_extract_31 (by decide) ?_
          refine lv_istore (lv' := [(4, .int (nI 0)), (0, .ref hm), (1, .int (nI i)), (2, .int xh), (3, .int xl)]) hx hb dX4_extract_32 hl (by decide) rfl (fun ls hl => ?_)
          refine lv_iload hx hb dX4_extract_34 (lv_at hl 0 rfl) ?_
          refine n_zeq_t (tgt := 47) hx hb rfl dX4_extract_36 (by decide) ?_
          refine lv_iconst (v := nI 1) hx hb dX4_extract_47 (by decide) ?_
          refine lv_istore (lv' := [(5, .int (nI 1)), (4, .int (nI 0)), (0, .ref hm), (1, .int (nI i)), (2, .int xh), (3, .int xl)]) hx hb dX4_extract_48 hl (by decide) rfl (fun ls hl => ?_)
          refine lv_aload_n hx hb dX4_extract_50 rfl (lv_at hl 2 rfl) ?_
          refine lv_iload hx hb dX4_extract_51 (lv_at hl 1 rfl) ?_
          refine lv_iload hx hb dX4_extract_53 (lv_at hl 0 rfl) ?_
          refine lv_bipush (v := nI 52) hx hb dX4_extract_55 (by decide) ?_
          refine lv_iload_n hx hb dX4_extract_57 rfl (lv_at hl 3 rfl) ?_
          refine lv_iload_n hx hb dX4_extract_58 rfl (lv_at hl 5 rfl) ?_
          refine lv_iconst (v := nI 0) hx hb dX4_extract_59 (by decide) ?_
          refine lv_iload hx hb dX4_extract_60 (lv_at hl 0 rfl) ?_
          refine c_virt (As := [.int (nI 0), .int (nI 1), .int (nI 52), .int (nI i), .int xl, .int (nI 0), .int (nI 1)]) (rest := []) (wc := [eo hm 4 [.int (nI cd), .int (nI n), .int (nI wg), .ref ad.1, .ref ad.2.1, .ref ad.2.2.1, .ref ad.2.2.2.1, .ref ad.2.2.2.2.1, .ref ad.2.2.2.2.2], ey Z ad.1 4000 K, ea Z ad.2.1 4000 F, ea Z ad.2.2.1 4000 S, ea Z ad.2.2.2.1 4000 T, ea Z ad.2.2.2.2.1 4000 D, el Z ad.2.2.2.2.2 4000 V]) (wr := []) (nl := 0) hx hb hml hown hts hK hG rfl hA hl (k_madd0 l Z hm ad cd n wg K F S T D V _ _ _ _ _ _) hW trivial (hW.at 0 rfl) rfl rfl tb_816 tb_818 ts_10 tb_7 tb_819 (nA := 7) (by decide +kernel) rfl ⟨by omega, by omega⟩ ⟨by omega, by omega⟩ rfl (Nat.le_of_ble_eq_true rfl) dX4_extract_62 (fun v w1 H1 L1 hp hW hzz hkk hdd => ?_)
          obtain ⟨rfl, rfl⟩ := hp
          clear hzz hkk hdd
          generalize H1 = H at hW  ⊢
          generalize L1 = locs at hW ⊢
          have hW : Wd Z A s.heap ([eo hm 4 [.int (nI 1), .int (nI n), .int (nI wg), .ref ad.1, .ref ad.2.1, .ref ad.2.2.1, .ref ad.2.2.2.1, .ref ad.2.2.2.2.1, .ref ad.2.2.2.2.2], ey Z ad.1 4000 K, ea Z ad.2.1 4000 F, ea Z ad.2.2.1 4000 S, ea Z ad.2.2.2.1 4000 T, ea Z ad.2.2.2.2.1 4000 D, el Z ad.2.2.2.2.2 4000 V]) _ _ := hW
          refine W.eq (g2 := F0 m 65 ls [.int (nI 0)]) rfl ?_
          exact e_int hx hb hr hlk hAe hW (by omega) (by omega) dX4_extract_65 ⟨⟨_, rfl⟩, rfl⟩
        · obtain ⟨lo, hlo, rfl, elo⟩ := i_nat (x := xl) (by omega)
          obtain ⟨hh, hhi, rfl, ehi⟩ := i_nat (x := xh) (by omega)
          exact absurd ⟨i, lo, hh, hi, rfl, rfl, rfl, by omega, by omega⟩ h
  · refine c_virt (As := [.int xa]) (rest := []) (wc := [eo hm 4 [.int (nI cd), .int (nI n), .int (nI wg), .ref ad.1, .ref ad.2.1, .ref ad.2.2.1, .ref ad.2.2.2.1, .ref ad.2.2.2.2.1, .ref ad.2.2.2.2.2], ey Z ad.1 4000 K, ea Z ad.2.1 4000 F, ea Z ad.2.2.1 4000 S, ea Z ad.2.2.2.1 4000 T, ea Z ad.2.2.2.2.1 4000 D, el Z ad.2.2.2.2.2 4000 V]) (wr := []) (nl := 0) hx hb hml hown hts hK hG rfl hA hl (k_is0 l Z hm ad cd n wg K F S T D V xa ha (by omega)) hW trivial (hW.at 0 rfl) rfl rfl tb_833 tb_835 ts_11 tb_7 tb_836 (nA := 1) (by decide +kernel) rfl ⟨by omega, by omega⟩ ⟨by omega, by omega⟩ rfl (Nat.le_of_ble_eq_true rfl) dX4_extract_2 (fun v w1 H1 L1 hp hW hzz hkk hdd => ?_)
    obtain ⟨rfl, rfl⟩ := hp
    clear hzz hkk hdd
    generalize H1 = H at hW  ⊢
    generalize L1 = locs at hW ⊢
    have hW : Wd Z A s.heap ([eo hm 4 [.int (nI cd), .int (nI n), .int (nI wg), .ref ad.1, .ref ad.2.1, .ref ad.2.2.1, .ref ad.2.2.2.1, .ref ad.2.2.2.2.1, .ref ad.2.2.2.2.2], ey Z ad.1 4000 K, ea Z ad.2.1 4000 F, ea Z ad.2.2.1 4000 S, ea Z ad.2.2.2.1 4000 T, ea Z ad.2.2.2.2.1 4000 D, el Z ad.2.2.2.2.2 4000 V]) _ _ := hW
    refine W.eq (g2 := F0 m 5 ls [.int (nI 0)]) rfl ?_
    refine n_zeq_t (tgt := 31) hx hb rfl dX4_extract_5 (by decide) ?_
    refine lv_iconst (v := nI 0) hx hb dX4_extract_31 (by decide) ?_
    refine lv_istore (lv' := [(4, .int (nI 0)), (0, .ref hm), (1, .int xa), (2, .int xh), (3, .int xl)]) hx hb dX4_extract_32 hl (by decide) rfl (fun ls hl => ?_)
    refine lv_iload hx hb dX4_extract_34 (lv_at hl 0 rfl) ?_
    refine n_zeq_t (tgt := 47) hx hb rfl dX4_extract_36 (by decide) ?_
    refine lv_iconst (v := nI 1) hx hb dX4_extract_47 (by decide) ?_
    refine lv_istore (lv' := [(5, .int (nI 1)), (4, .int (nI 0)), (0, .ref hm), (1, .int xa), (2, .int xh), (3, .int xl)]) hx hb dX4_extract_48 hl (by decide) rfl (fun ls hl => ?_)
    refine lv_aload_n hx hb dX4_extract_50 rfl (lv_at hl 2 rfl) ?_
    refine lv_iload hx hb dX4_extract_51 (lv_at hl 1 rfl) ?_
    refine lv_iload hx hb dX4_extract_53 (lv_at hl 0 rfl) ?_
    refine lv_bipush (v := nI 52) hx hb dX4_extract_55 (by decide) ?_
    refine lv_iload_n hx hb dX4_extract_57 rfl (lv_at hl 3 rfl) ?_
    refine lv_iload_n hx hb dX4_extract_58 rfl (lv_at hl 5 rfl) ?_
    refine lv_iconst (v := nI 0) hx hb dX4_extract_59 (by decide) ?_
    refine lv_iload hx hb dX4_extract_60 (lv_at hl 0 rfl) ?_
    refine c_virt (As := [.int (nI 0), .int (nI 1), .int (nI 52), .int xa, .int xl, .int (nI 0), .int (nI 1)]) (rest := []) (wc := [eo hm 4 [.int (nI cd), .int (nI n), .int (nI wg), .ref ad.1, .ref ad.2.1, .ref ad.2.2.1, .ref ad.2.2.2.1, .ref ad.2.2.2.2.1, .ref ad.2.2.2.2.2], ey Z ad.1 4000 K, ea Z ad.2.1 4000 F, ea Z ad.2.2.1 4000 S, ea Z ad.2.2.2.1 4000 T, ea Z ad.2.2.2.2.1 4000 D, el Z ad.2.2.2.2.2 4000 V]) (wr := []) (nl := 0) hx hb hml hown hts hK hG rfl hA hl (k_madd0 l Z hm ad cd n wg K F S T D V _ _ _ _ _ _) hW trivial (hW.at 0 rfl) rfl rfl tb_816 tb_818 ts_10 tb_7 tb_819 (nA := 7) (by decide +kernel) rfl ⟨by omega, by omega⟩ ⟨by omega, by omega⟩ rfl (Nat.le_of_ble_eq_true rfl) dX4_extract_62 (fun v w1 H1 L1 hp hW hzz hkk hdd => ?_)
    obtain ⟨rfl, rfl⟩ := hp
    clear hzz hkk hdd
    generalize H1 = H at hW  ⊢
    generalize L1 = locs at hW ⊢
    have hW : Wd Z A s.heap ([eo hm 4 [.int (nI 1), .int (nI n), .int (nI wg), .ref ad.1, .ref ad.2.1, .ref ad.2.2.1, .ref ad.2.2.2.1, .ref ad.2.2.2.2.1, .ref ad.2.2.2.2.2], ey Z ad.1 4000 K, ea Z ad.2.1 4000 F, ea Z ad.2.2.1 4000 S, ea Z ad.2.2.2.1 4000 T, ea Z ad.2.2.2.2.1 4000 D, el Z ad.2.2.2.2.2 4000 V]) _ _ := hW
    refine W.eq (g2 := F0 m 65 ls [.int (nI 0)]) rfl ?_
    exact e_int hx hb hr hlk hAe hW (by omega) (by omega) dX4_extract_65 ⟨⟨_, rfl⟩, rfl⟩
set_option maxHeartbeats 4000000 in
set_option maxRecDepth 100000 in
theorem k_mextract1 (l : Launch) (Z : Zt) (hm : Nat) (ad : MA) (cd n wg : Nat) (K F S T D V : Nat → Nat) (i lo hh : Nat) (hi : i < n) (hlo : lo ≤ hh) (hhi : hh < D i) (hD : ∀ i, i < n → D i ≤ 64) (hn : n < 4000) (hwg : wg ≤ 100000) (hg : hh - lo + 1 + wg ≤ 100000)  : MC l yX4_extract cX4_extract 6 (some .int) 1 60 (0) (0) Z (mw Z hm ad cd n wg K F S T D V) (fun _ => True) [.ref hm, .int (nI i), .int (nI hh), .int (nI lo)] (fun r w1 => r = some (.int (nI n)) ∧ w1 = mw Z hm ad 0 (n + 1) (wg + (hh - lo + 1)) (up K n 52) (up F n i) (up S n lo) (up T n 0) (up D n (hh - lo + 1)) (up V n 0)) := by
  refine mc_of (by decide) (Nat.le_of_ble_eq_true rfl) (fun p e s m below meth c ls A hx hb hr hts hown hlk hml hin hK hG hW hA hAe hro hl R hRf hRc hRs hRl => ?_)
  have hl : lv_has ls 6 [(0, .ref hm), (1, .int (nI i)), (2, .int (nI hh)), (3, .int (nI lo))] := hl
  have hW : Wd Z A s.heap ([eo hm 4 [.int (nI cd), .int (nI n), .int (nI wg), .ref ad.1, .ref ad.2.1, .ref ad.2.2.1, .ref ad.2.2.2.1, .ref ad.2.2.2.2.1, .ref ad.2.2.2.2.2], ey Z ad.1 4000 K, ea Z ad.2.1 4000 F, ea Z ad.2.2.1 4000 S, ea Z ad.2.2.2.1 4000 T, ea Z ad.2.2.2.2.1 4000 D, el Z ad.2.2.2.2.2 4000 V]) _ _ := hW
  have hdi := hD i hi
  refine lv_aload_n hx hb dX4_extract_0 rfl (lv_at hl 0 rfl) ?_
  refine lv_iload_n hx hb dX4_extract_1 rfl (lv_at hl 1 rfl) ?_
  refine c_virt (As := [.int (nI i)]) (rest := []) (wc := [eo hm 4 [.int (nI cd), .int (nI n), .int (nI wg), .ref ad.1, .ref ad.2.1, .ref ad.2.2.1, .ref ad.2.2.2.1, .ref ad.2.2.2.2.1, .ref ad.2.2.2.2.2], ey Z ad.1 4000 K, ea Z ad.2.1 4000 F, ea Z ad.2.2.1 4000 S, ea Z ad.2.2.2.1 4000 T, ea Z ad.2.2.2.2.1 4000 D, el Z ad.2.2.2.2.2 4000 V]) (wr := []) (nl := 0) hx hb hml hown hts hK hG rfl hA hl (k_is1 l Z hm ad cd n wg K F S T D V i hi (by omega)) hW trivial (hW.at 0 rfl) rfl rfl tb_833 tb_835 ts_11 tb_7 tb_836 (nA := 1) (by decide +kernel) rfl ⟨by omega, by omega⟩ ⟨by omega, by omega⟩ rfl (Nat.le_of_ble_eq_true rfl) dX4_extract_2 (fun v w1 H1 L1 hp hW hzz hkk hdd => ?_)
  obtain ⟨rfl, rfl⟩ := hp
  clear hzz hkk hdd
  generalize H1 = H at hW  ⊢
  generalize L1 = locs at hW ⊢
  have hW : Wd Z A s.heap ([eo hm 4 [.int (nI cd), .int (nI n), .int (nI wg), .ref ad.1, .ref ad.2.1, .ref ad.2.2.1, .ref ad.2.2.2.1, .ref ad.2.2.2.2.1, .ref ad.2.2.2.2.2], ey Z ad.1 4000 K, ea Z ad.2.1 4000 F, ea Z ad.2.2.1 4000 S, ea Z ad.2.2.2.1 4000 T, ea Z ad.2.2.2.2.1 4000 D, el Z ad.2.2.2.2.2 4000 V]) _ _ := hW
  refine W.eq (g2 := F0 m 5 ls [.int (nI 1)]) rfl ?_
  refine n_zeq_f (tgt := 31) hx hb (by decide) (by omega) dX4_extract_5 (by decide) ?_
  refine lv_iload_n hx hb dX4_extract_8 rfl (lv_at hl 3 rfl) ?_
  refine n_zlt_f (tgt := 31) hx hb (by omega) dX4_extract_9 (by decide) ?_
  refine lv_iload_n hx hb dX4_extract_12 rfl (lv_at hl 2 rfl) ?_
  refine lv_iload_n hx hb dX4_extract_13 rfl (lv_at hl 3 rfl) ?_
  refine n_lt_f (tgt := 31) hx hb (by omega) (by omega) dX4_extract_14 (by decide) ?_
  refine lv_iload_n hx hb dX4_extract_17 rfl (lv_at hl 2 rfl) ?_
  refine lv_aload_n hx hb dX4_extract_18 rfl (lv_at hl 0 rfl) ?_
  refine r_get hx hb hts hown hK (hW.at 0 rfl) rfl in_X4 7 (by decide) tb_786 (fun _ h => h) rfl dX4_extract_19 ?_
  refine lv_iload_n hx hb dX4_extract_22 rfl (lv_at hl 1 rfl) ?_
  refine r_ald (i := i) hx hb hK (hW.at 5 rfl) (by omega) (by omega) dX4_extract_23 ?_
  refine n_ge_f (tgt := 31) hx hb (by omega) (by omega) dX4_extract_24 (by decide) ?_
  refine lv_iconst (v := nI 1) hx hb dX4_extract_27 (by decide) ?_
  refine lv_goto (tgt := 32) hx hb dX4_extract_28 (by decide) ?_
  refine lv_istore (lv' := [(4, .int (nI 1)), (0, .ref hm), (1, .int (nI i)), (2, .int (nI hh)), (3, .int (nI lo))]) hx hb dX4_extract_32 hl (by decide) rfl (fun ls hl => ?_)
  refine lv_iload hx hb dX4_extract_34 (lv_at hl 0 rfl) ?_
  refine n_zeq_f (tgt := 47) hx hb (by decide) (by omega) dX4_extract_36 (by decide) ?_
  refine lv_iload_n hx hb dX4_extract_39 rfl (lv_at hl 3 rfl) ?_
  refine lv_iload_n hx hb dX4_extract_40 rfl (lv_at hl 4 rfl) ?_
  refine n_isub hx hb (by omega) dX4_extract_41 ?_
  refine lv_iconst (v := nI 1) hx hb dX4_extract_42 (by decide) ?_
  refine n_iadd hx hb dX4_extract_43 ?_
  refine lv_goto (tgt := 48) hx hb dX4_extract_44 (by decide) ?_
  refine lv_istore (lv' := [(5, .int (nI ((hh - lo) + 1))), (4, .int (nI 1)), (0, .ref hm), (1, .int (nI i)), (2, .int (nI hh)), (3, .int (nI lo))]) hx hb dX4_extract_48 hl (by decide) rfl (fun ls hl => ?_)
  refine lv_aload_n hx hb dX4_extract_50 rfl (lv_at hl 2 rfl) ?_
  refine lv_iload hx hb dX4_extract_51 (lv_at hl 1 rfl) ?_
  refine lv_iload hx hb dX4_extract_53 (lv_at hl 0 rfl) ?_
  refine lv_bipush (v := nI 52) hx hb dX4_extract_55 (by decide) ?_
  refine lv_iload_n hx hb dX4_extract_57 rfl (lv_at hl 3 rfl) ?_
  refine lv_iload_n hx hb dX4_extract_58 rfl (lv_at hl 5 rfl) ?_
  refine lv_iconst (v := nI 0) hx hb dX4_extract_59 (by decide) ?_
  refine lv_iload hx hb dX4_extract_60 (lv_at hl 0 rfl) ?_
  refine c_virt (As := [.int (nI 1), .int (nI ((hh - lo) + 1)), .int (nI 52), .int (nI i), .int (nI lo), .int (nI 0), .int (nI ((hh - lo) + 1))]) (rest := []) (wc := [eo hm 4 [.int (nI cd), .int (nI n), .int (nI wg), .ref ad.1, .ref ad.2.1, .ref ad.2.2.1, .ref ad.2.2.2.1, .ref ad.2.2.2.2.1, .ref ad.2.2.2.2.2], ey Z ad.1 4000 K, ea Z ad.2.1 4000 F, ea Z ad.2.2.1 4000 S, ea Z ad.2.2.2.1 4000 T, ea Z ad.2.2.2.2.1 4000 D, el Z ad.2.2.2.2.2 4000 V]) (wr := []) (nl := 0) hx hb hml hown hts hK hG rfl hA hl (k_madd1 l Z hm ad cd n wg K F S T D V (hh - lo + 1) 52 i lo 0 (hh - lo + 1) hn (by omega) (by omega)) hW trivial (hW.at 0 rfl) rfl rfl tb_816 tb_818 ts_10 tb_7 tb_819 (nA := 7) (by decide +kernel) rfl ⟨by omega, by omega⟩ ⟨by omega, by omega⟩ rfl (Nat.le_of_ble_eq_true rfl) dX4_extract_62 (fun v w1 H1 L1 hp hW hzz hkk hdd => ?_)
  obtain ⟨rfl, rfl⟩ := hp
  clear hzz hkk hdd
  generalize H1 = H at hW  ⊢
  generalize L1 = locs at hW ⊢
  have hW : Wd Z A s.heap ([eo hm 4 [.int (nI 0), .int (nI (n + 1)), .int (nI (wg + (hh - lo + 1))), .ref ad.1, .ref ad.2.1, .ref ad.2.2.1, .ref ad.2.2.2.1, .ref ad.2.2.2.2.1, .ref ad.2.2.2.2.2], ey Z ad.1 4000 (up K n 52), ea Z ad.2.1 4000 (up F n i), ea Z ad.2.2.1 4000 (up S n lo), ea Z ad.2.2.2.1 4000 (up T n 0), ea Z ad.2.2.2.2.1 4000 (up D n (hh - lo + 1)), el Z ad.2.2.2.2.2 4000 (up V n 0)]) _ _ := hW
  refine W.eq (g2 := F0 m 65 ls [.int (nI n)]) rfl ?_
  exact e_int hx hb hr hlk hAe hW (by omega) (by omega) dX4_extract_65 ⟨rfl, rfl⟩
set_option maxHeartbeats 4000000 in
set_option maxRecDepth 100000 in
theorem k_mextract2 (l : Launch) (Z : Zt) (hm : Nat) (ad : MA) (cd n wg : Nat) (K F S T D V : Nat → Nat) (i lo hh : Nat) (hi : i < n) (hlo : lo ≤ hh) (hhi : hh < D i) (hD : ∀ i, i < n → D i ≤ 64) (hn : n < 4000) (hwg : wg ≤ 100000) (hg : ¬ hh - lo + 1 + wg ≤ 100000)  : MC l yX4_extract cX4_extract 6 (some .int) 1 60 (0) (0) Z (mw Z hm ad cd n wg K F S T D V) (fun _ => True) [.ref hm, .int (nI i), .int (nI hh), .int (nI lo)] (fun r w1 => (∃ r0 : Int32, r = some (.int r0)) ∧ w1 = mw Z hm ad 2 n wg K F S T D V) := by
  refine mc_of (by decide) (Nat.le_of_ble_eq_true rfl) (fun p e s m below meth c ls A hx hb hr hts hown hlk hml hin hK hG hW hA hAe hro hl R hRf hRc hRs hRl => ?_)
  have hl : lv_has ls 6 [(0, .ref hm), (1, .int (nI i)), (2, .int (nI hh)), (3, .int (nI lo))] := hl
  have hW : Wd Z A s.heap ([eo hm 4 [.int (nI cd), .int (nI n), .int (nI wg), .ref ad.1, .ref ad.2.1, .ref ad.2.2.1, .ref ad.2.2.2.1, .ref ad.2.2.2.2.1, .ref ad.2.2.2.2.2], ey Z ad.1 4000 K, ea Z ad.2.1 4000 F, ea Z ad.2.2.1 4000 S, ea Z ad.2.2.2.1 4000 T, ea Z ad.2.2.2.2.1 4000 D, el Z ad.2.2.2.2.2 4000 V]) _ _ := hW
  have hdi := hD i hi
  refine lv_aload_n hx hb dX4_extract_0 rfl (lv_at hl 0 rfl) ?_
  refine lv_iload_n hx hb dX4_extract_1 rfl (lv_at hl 1 rfl) ?_
  refine c_virt (As := [.int (nI i)]) (rest := []) (wc := [eo hm 4 [.int (nI cd), .int (nI n), .int (nI wg), .ref ad.1, .ref ad.2.1, .ref ad.2.2.1, .ref ad.2.2.2.1, .ref ad.2.2.2.2.1, .ref ad.2.2.2.2.2], ey Z ad.1 4000 K, ea Z ad.2.1 4000 F, ea Z ad.2.2.1 4000 S, ea Z ad.2.2.2.1 4000 T, ea Z ad.2.2.2.2.1 4000 D, el Z ad.2.2.2.2.2 4000 V]) (wr := []) (nl := 0) hx hb hml hown hts hK hG rfl hA hl (k_is1 l Z hm ad cd n wg K F S T D V i hi (by omega)) hW trivial (hW.at 0 rfl) rfl rfl tb_833 tb_835 ts_11 tb_7 tb_836 (nA := 1) (by decide +kernel) rfl ⟨by omega, by omega⟩ ⟨by omega, by omega⟩ rfl (Nat.le_of_ble_eq_true rfl) dX4_extract_2 (fun v w1 H1 L1 hp hW hzz hkk hdd => ?_)
  obtain ⟨rfl, rfl⟩ := hp
  clear hzz hkk hdd
  generalize H1 = H at hW  ⊢
  generalize L1 = locs at hW ⊢
  have hW : Wd Z A s.heap ([eo hm 4 [.int (nI cd), .int (nI n), .int (nI wg), .ref ad.1, .ref ad.2.1, .ref ad.2.2.1, .ref ad.2.2.2.1, .ref ad.2.2.2.2.1, .ref ad.2.2.2.2.2], ey Z ad.1 4000 K, ea Z ad.2.1 4000 F, ea Z ad.2.2.1 4000 S, ea Z ad.2.2.2.1 4000 T, ea Z ad.2.2.2.2.1 4000 D, el Z ad.2.2.2.2.2 4000 V]) _ _ := hW
  refine W.eq (g2 := F0 m 5 ls [.int (nI 1)]) rfl ?_
  refine n_zeq_f (tgt := 31) hx hb (by decide) (by omega) dX4_extract_5 (by decide) ?_
  refine lv_iload_n hx hb dX4_extract_8 rfl (lv_at hl 3 rfl) ?_
  refine n_zlt_f (tgt := 31) hx hb (by omega) dX4_extract_9 (by decide) ?_
  refine lv_iload_n hx hb dX4_extract_12 rfl (lv_at hl 2 rfl) ?_
  refine lv_iload_n hx hb dX4_extract_13 rfl (lv_at hl 3 rfl) ?_
  refine n_lt_f (tgt := 31) hx hb (by omega) (by omega) dX4_extract_14 (by decide) ?_
  refine lv_iload_n hx hb dX4_extract_17 rfl (lv_at hl 2 rfl) ?_
  refine lv_aload_n hx hb dX4_extract_18 rfl (lv_at hl 0 rfl) ?_
  refine r_get hx hb hts hown hK (hW.at 0 rfl) rfl in_X4 7 (by decide) tb_786 (fun _ h => h) rfl dX4_extract_19 ?_
  refine lv_iload_n hx hb dX4_extract_22 rfl (lv_at hl 1 rfl) ?_
  refine r_ald (i := i) hx hb hK (hW.at 5 rfl) (by omega) (by omega) dX4_extract_23 ?_
  refine n_ge_f (tgt := 31) hx hb (by omega) (by omega) dX4_extract_24 (by decide) ?_
  refine lv_iconst (v := nI 1) hx hb dX4_extract_27 (by decide) ?_
  refine lv_goto (tgt := 32) hx hb dX4_extract_28 (by decide) ?_
  refine lv_istore (lv' := [(4, .int (nI 1)), (0, .ref hm), (1, .int (nI i)), (2, .int (nI hh)), (3, .int (nI lo))]) hx hb dX4_extract_32 hl (by decide) rfl (fun ls hl => ?_)
  refine lv_iload hx hb dX4_extract_34 (lv_at hl 0 rfl) ?_
  refine n_zeq_f (tgt := 47) hx hb (by decide) (by omega) dX4_extract_36 (by decide) ?_
  refine lv_iload_n hx hb dX4_extract_39 rfl (lv_at hl 3 rfl) ?_
  refine lv_iload_n hx hb dX4_extract_40 rfl (lv_at hl 4 rfl) ?_
  refine n_isub hx hb (by omega) dX4_extract_41 ?_
  refine lv_iconst (v := nI 1) hx hb dX4_extract_42 (by decide) ?_
  refine n_iadd hx hb dX4_extract_43 ?_
  refine lv_goto (tgt := 48) hx hb dX4_extract_44 (by decide) ?_
  refine lv_istore (lv' := [(5, .int (nI ((hh - lo) + 1))), (4, .int (nI 1)), (0, .ref hm), (1, .int (nI i)), (2, .int (nI hh)), (3, .int (nI lo))]) hx hb dX4_extract_48 hl (by decide) rfl (fun ls hl => ?_)
  refine lv_aload_n hx hb dX4_extract_50 rfl (lv_at hl 2 rfl) ?_
  refine lv_iload hx hb dX4_extract_51 (lv_at hl 1 rfl) ?_
  refine lv_iload hx hb dX4_extract_53 (lv_at hl 0 rfl) ?_
  refine lv_bipush (v := nI 52) hx hb dX4_extract_55 (by decide) ?_
  refine lv_iload_n hx hb dX4_extract_57 rfl (lv_at hl 3 rfl) ?_
  refine lv_iload_n hx hb dX4_extract_58 rfl (lv_at hl 5 rfl) ?_
  refine lv_iconst (v := nI 0) hx hb dX4_extract_59 (by decide) ?_
  refine lv_iload hx hb dX4_extract_60 (lv_at hl 0 rfl) ?_
  refine c_virt (As := [.int (nI 1), .int (nI ((hh - lo) + 1)), .int (nI 52), .int (nI i), .int (nI lo), .int (nI 0), .int (nI ((hh - lo) + 1))]) (rest := []) (wc := [eo hm 4 [.int (nI cd), .int (nI n), .int (nI wg), .ref ad.1, .ref ad.2.1, .ref ad.2.2.1, .ref ad.2.2.2.1, .ref ad.2.2.2.2.1, .ref ad.2.2.2.2.2], ey Z ad.1 4000 K, ea Z ad.2.1 4000 F, ea Z ad.2.2.1 4000 S, ea Z ad.2.2.2.1 4000 T, ea Z ad.2.2.2.2.1 4000 D, el Z ad.2.2.2.2.2 4000 V]) (wr := []) (nl := 0) hx hb hml hown hts hK hG rfl hA hl (k_madd2 l Z hm ad cd n wg K F S T D V (hh - lo + 1) _ _ _ _ _ hn (by omega) (by omega)) hW trivial (hW.at 0 rfl) rfl rfl tb_816 tb_818 ts_10 tb_7 tb_819 (nA := 7) (by decide +kernel) rfl ⟨by omega, by omega⟩ ⟨by omega, by omega⟩ rfl (Nat.le_of_ble_eq_true rfl) dX4_extract_62 (fun v w1 H1 L1 hp hW hzz hkk hdd => ?_)
  obtain ⟨rfl, rfl⟩ := hp
  clear hzz hkk hdd
  generalize H1 = H at hW  ⊢
  generalize L1 = locs at hW ⊢
  have hW : Wd Z A s.heap ([eo hm 4 [.int (nI 2), .int (nI n), .int (nI wg), .ref ad.1, .ref ad.2.1, .ref ad.2.2.1, .ref ad.2.2.2.1, .ref ad.2.2.2.2.1, .ref ad.2.2.2.2.2], ey Z ad.1 4000 K, ea Z ad.2.1 4000 F, ea Z ad.2.2.1 4000 S, ea Z ad.2.2.2.1 4000 T, ea Z ad.2.2.2.2.1 4000 D, el Z ad.2.2.2.2.2 4000 V]) _ _ := hW
  refine W.eq (g2 := F0 m 65 ls [.int (nI 0)]) rfl ?_
  exact e_int hx hb hr hlk hAe hW (by omega) (by omega) dX4_extract_65 ⟨⟨_, rfl⟩, rfl⟩
set_option maxHeartbeats 4000000 in
set_option maxRecDepth 100000 in
theorem k_mextend0 (l : Launch) (Z : Zt) (hm : Nat) (ad : MA) (cd n wg : Nat) (K F S T D V : Nat → Nat) (xa xb : Int32) (sg : Nat) (hsg : sg ≤ 1) (h : ¬ ∃ i b, i < n ∧ xa = nI i ∧ xb = nI b ∧ D i + b ≤ 64) (hD : ∀ i, i < n → D i ≤ 64) (hn : n < 4000)  : MC l yX4_extend cX4_extend 6 (some .int) 1 60 (0) (0) Z (mw Z hm ad cd n wg K F S T D V) (fun _ => True) [.ref hm, .int xa, .int xb, .int (nI sg)] (fun r w1 => (∃ r0 : Int32, r = some (.int r0)) ∧ w1 = mw Z hm ad 1 n wg K F S T D V) := by
  refine mc_of (by decide) (Nat.le_of_ble_eq_true rfl) (fun p e s m below meth c ls A hx hb hr hts hown hlk hml hin hK hG hW hA hAe hro hl R hRf hRc hRs hRl => ?_)
  have hl : lv_has ls 6 [(0, .ref hm), (1, .int xa), (2, .int xb), (3, .int (nI sg))] := hl
  have hW : Wd Z A s.heap ([eo hm 4 [.int (nI cd), .int (nI n), .int (nI wg), .ref ad.1, .ref ad.2.1, .ref ad.2.2.1, .ref ad.2.2.2.1, .ref ad.2.2.2.2.1, .ref ad.2.2.2.2.2], ey Z ad.1 4000 K, ea Z ad.2.1 4000 F, ea Z ad.2.2.1 4000 S, ea Z ad.2.2.2.1 4000 T, ea Z ad.2.2.2.2.1 4000 D, el Z ad.2.2.2.2.2 4000 V]) _ _ := hW
  refine lv_aload_n hx hb dX4_extend_0 rfl (lv_at hl 0 rfl) ?_
  refine lv_iload_n hx hb dX4_extend_1 rfl (lv_at hl 1 rfl) ?_
  by_cases ha : vix xa n
  · obtain ⟨i, hi, rfl⟩ := ha
    have hdi := hD i hi
    refine c_virt (As := [.int (nI i)]) (rest := []) (wc := [eo hm 4 [.int (nI cd), .int (nI n), .int (nI wg), .ref ad.1, .ref ad.2.1, .ref ad.2.2.1, .ref ad.2.2.2.1, .ref ad.2.2.2.2.1, .ref ad.2.2.2.2.2], ey Z ad.1 4000 K, ea Z ad.2.1 4000 F, ea Z ad.2.2.1 4000 S, ea Z ad.2.2.2.1 4000 T, ea Z ad.2.2.2.2.1 4000 D, el Z ad.2.2.2.2.2 4000 V]) (wr := []) (nl := 0) hx hb hml hown hts hK hG rfl hA hl (k_is1 l Z hm ad cd n wg K F S T D V i hi (by omega)) hW trivial (hW.at 0 rfl) rfl rfl tb_833 tb_835 ts_11 tb_7 tb_836 (nA := 1) (by decide +kernel) rfl ⟨by omega, by omega⟩ ⟨by omega, by omega⟩ rfl (Nat.le_of_ble_eq_true rfl) dX4_extend_2 (fun v w1 H1 L1 hp hW hzz hkk hdd => ?_)
    obtain ⟨rfl, rfl⟩ := hp
    clear hzz hkk hdd
    generalize H1 = H at hW  ⊢
    generalize L1 = locs at hW ⊢
    have hW : Wd Z A s.heap ([eo hm 4 [.int (nI cd), .int (nI n), .int (nI wg), .ref ad.1, .ref ad.2.1, .ref ad.2.2.1, .ref ad.2.2.2.1, .ref ad.2.2.2.2.1, .ref ad.2.2.2.2.2], ey Z ad.1 4000 K, ea Z ad.2.1 4000 F, ea Z ad.2.2.1 4000 S, ea Z ad.2.2.2.1 4000 T, ea Z ad.2.2.2.2.1 4000 D, el Z ad.2.2.2.2.2 4000 V]) _ _ := hW
    refine W.eq (g2 := F0 m 5 ls [.int (nI 1)]) rfl ?_
    refine n_zeq_f (tgt := 29) hx hb (by decide) (by omega) dX4_extend_5 (by decide) ?_
    refine lv_iload_n hx hb dX4_extend_8 rfl (lv_at hl 2 rfl) ?_
    refine lv_if_lt (tgt := 29) hx hb dX4_extend_9 (by decide) (fun q1 => ?_) (fun q1 => ?_)
    all_goals rw [i_neg] at q1
    · refine lv_iconst (v := nI 0) hx hb dX4_extend_29 (by decide) ?_
      refine lv_istore (lv' := [(4, .int (nI 0)), (0, .ref hm), (1, .int (nI i)), (2, .int xb), (3, .int (nI sg))]) hx hb dX4_extend_30 hl (by decide) rfl (fun ls hl => ?_)
      refine lv_iload hx hb dX4_extend_32 (lv_at hl 0 rfl) ?_
      refine n_zeq_t (tgt := 48) hx hb rfl dX4_extend_34 (by decide) ?_
      refine lv_iconst (v := nI 1) hx hb dX4_extend_48 (by decide) ?_
      refine lv_istore (lv' := [(5, .int (nI 1)), (4, .int (nI 0)), (0, .ref hm), (1, .int (nI i)), (2, .int xb), (3, .int (nI sg))]) hx hb dX4_extend_49 hl (by decide) rfl (fun ls hl => ?_)
      refine lv_aload_n hx hb dX4_extend_51 rfl (lv_at hl 2 rfl) ?_
      refine lv_iload hx hb dX4_extend_52 (lv_at hl 1 rfl) ?_
      refine lv_iload hx hb dX4_extend_54 (lv_at hl 0 rfl) ?_
      refine lv_iload_n hx hb dX4_extend_56 rfl (lv_at hl 5 rfl) ?_
      rcases (show sg = 0 ∨ sg = 1 by omega) with rfl | rfl
      · refine n_zeq_t (tgt := 65) hx hb rfl dX4_extend_57 (by decide) ?_
        refine lv_bipush (v := nI 53) hx hb dX4_extend_65 (by decide) ?_
        refine lv_iload_n hx hb dX4_extend_67 rfl (lv_at hl 3 rfl) ?_
        refine lv_iconst (v := nI 0) hx hb dX4_extend_68 (by decide) ?_
        refine lv_iconst (v := nI 0) hx hb dX4_extend_69 (by decide) ?_
        refine lv_iload hx hb dX4_extend_70 (lv_at hl 0 rfl) ?_
        refine c_virt (As := [.int (nI 0), .int (nI 1), .int (nI 53), .int (nI i), .int (nI 0), .int (nI 0), .int (nI 1)]) (rest := []) (wc := [eo hm 4 [.int (nI cd), .int (nI n), .int (nI wg), .ref ad.1, .ref ad.2.1, .ref ad.2.2.1, .ref ad.2.2.2.1, .ref ad.2.2.2.2.1, .ref ad.2.2.2.2.2], ey Z ad.1 4000 K, ea Z ad.2.1 4000 F, ea Z ad.2.2.1 4000 S, ea Z ad.2.2.2.1 4000 T, ea Z ad.2.2.2.2.1 4000 D, el Z ad.2.2.2.2.2 4000 V]) (wr := []) (nl := 0) hx hb hml hown hts hK hG rfl hA hl (k_madd0 l Z hm ad cd n wg K F S T D V _ _ _ _ _ _) hW trivial (hW.at 0 rfl) rfl rfl tb_816 tb_818 ts_10 tb_7 tb_819 (nA := 7) (by decide +kernel) rfl ⟨by omega, by omega⟩ ⟨by omega, by omega⟩ rfl (Nat.le_of_ble_eq_true rfl) dX4_extend_72 (fun v w1 H1 L1 hp hW hzz hkk hdd => ?_)
        obtain ⟨rfl, rfl⟩ := hp
        clear hzz hkk hdd
        generalize H1 = H at hW  ⊢
        generalize L1 = locs at hW ⊢
        have hW : Wd Z A s.heap ([eo hm 4 [.int (nI 1), .int (nI n), .int (nI wg), .ref ad.1, .ref ad.2.1, .ref ad.2.2.1, .ref ad.2.2.2.1, .ref ad.2.2.2.2.1, .ref ad.2.2.2.2.2], ey Z ad.1 4000 K, ea Z ad.2.1 4000 F, ea Z ad.2.2.1 4000 S, ea Z ad.2.2.2.1 4000 T, ea Z ad.2.2.2.2.1 4000 D, el Z ad.2.2.2.2.2 4000 V]) _ _ := hW
        refine W.eq (g2 := F0 m 75 ls [.int (nI 0)]) rfl ?_
        exact e_int hx hb hr hlk hAe hW (by omega) (by omega) dX4_extend_75 ⟨⟨_, rfl⟩, rfl⟩
      · refine n_zeq_f (tgt := 65) hx hb (by decide) (by omega) dX4_extend_57 (by decide) ?_
        refine lv_bipush (v := nI 54) hx hb dX4_extend_60 (by decide) ?_
        refine lv_goto (tgt := 67) hx hb dX4_extend_62 (by decide) ?_
        refine lv_iload_n hx hb dX4_extend_67 rfl (lv_at hl 3 rfl) ?_
        refine lv_iconst (v := nI 0) hx hb dX4_extend_68 (by decide) ?_
        refine lv_iconst (v := nI 0) hx hb dX4_extend_69 (by decide) ?_
        refine lv_iload hx hb dX4_extend_70 (lv_at hl 0 rfl) ?_
        refine c_virt (As := [.int (nI 0), .int (nI 1), .int (nI 54), .int (nI i), .int (nI 0), .int (nI 0), .int (nI 1)]) (rest := []) (wc := [eo hm 4 [.int (nI cd), .int (nI n), .int (nI wg), .ref ad.1, .ref ad.2.1, .ref ad.2.2.1, .ref ad.2.2.2.1, .ref ad.2.2.2.2.1, .ref ad.2.2.2.2.2], ey Z ad.1 4000 K, ea Z ad.2.1 4000 F, ea Z ad.2.2.1 4000 S, ea Z ad.2.2.2.1 4000 T, ea Z ad.2.2.2.2.1 4000 D, el Z ad.2.2.2.2.2 4000 V]) (wr := []) (nl := 0) hx hb hml hown hts hK hG rfl hA hl (k_madd0 l Z hm ad cd n wg K F S T D V _ _ _ _ _ _) hW trivial (hW.at 0 rfl) rfl rfl tb_816 tb_818 ts_10 tb_7 tb_819 (nA := 7) (by decide +kernel) rfl ⟨by omega, by omega⟩ ⟨by omega, by omega⟩ rfl (Nat.le_of_ble_eq_true rfl) dX4_extend_72 (fun v w1 H1 L1 hp hW hzz hkk hdd => ?_)
        obtain ⟨rfl, rfl⟩ := hp
        clear hzz hkk hdd
        generalize H1 = H at hW  ⊢
        generalize L1 = locs at hW ⊢
        have hW : Wd Z A s.heap ([eo hm 4 [.int (nI 1), .int (nI n), .int (nI wg), .ref ad.1, .ref ad.2.1, .ref ad.2.2.1, .ref ad.2.2.2.1, .ref ad.2.2.2.2.1, .ref ad.2.2.2.2.2], ey Z ad.1 4000 K, ea Z ad.2.1 4000 F, ea Z ad.2.2.1 4000 S, ea Z ad.2.2.2.1 4000 T, ea Z ad.2.2.2.2.1 4000 D, el Z ad.2.2.2.2.2 4000 V]) _ _ := hW
        refine W.eq (g2 := F0 m 75 ls [.int (nI 0)]) rfl ?_
        exact e_int hx hb hr hlk hAe hW (by omega) (by omega) dX4_extend_75 ⟨⟨_, rfl⟩, rfl⟩
    · refine lv_iload_n hx hb dX4_extend_12 rfl (lv_at hl 2 rfl) ?_
      refine lv_bipush (v := nI 64) hx hb dX4_extend_13 (by decide) ?_
      refine lv_aload_n hx hb dX4_extend_15 rfl (lv_at hl 0 rfl) ?_
      refine r_get hx hb hts hown hK (hW.at 0 rfl) rfl in_X4 7 (by decide) tb_786 (fun _ h => h) rfl dX4_extend_16 ?_
      refine lv_iload_n hx hb dX4_extend_19 rfl (lv_at hl 1 rfl) ?_
      refine r_ald (i := i) hx hb hK (hW.at 5 rfl) (by omega) (by omega) dX4_extend_20 ?_
      refine n_isub hx hb (by omega) dX4_extend_21 ?_
      refine lv_icmp_gt (tgt := 29) hx hb dX4_extend_22 (by decide) (fun q2 => ?_) (fun q2 => ?_)
      all_goals rw [i_gt _ (by omega)] at q2
      · refine lv_iconst (v := nI 0) hx hb dX4_extend_29 (by decide) ?_
        refine lv_istore (lv' := [(4, .int (nI 0)), (0, .ref hm), (1, .int (nI i)), (2, .int xb), (3, .int (nI sg))]) hx hb dX4_extend_30 hl (by decide) rfl (fun ls hl => ?_)
        refine lv_iload hx hb dX4_extend_32 (lv_at hl 0 rfl) ?_
        refine n_zeq_t (tgt := 48) hx hb rfl dX4_extend_34 (by decide) ?_
        refine lv_iconst (v := nI 1) hx hb dX4_extend_48 (by decide) ?_
        refine lv_istore (lv' := [(5, .int (nI 1)), (4, .int (nI 0)), (0, .ref hm), (1, .int (nI i)), (2, .int xb), (3, .int (nI sg))]) hx hb dX4_extend_49 hl (by decide) rfl (fun ls hl => ?_)
        refine lv_aload_n hx hb dX4_extend_51 rfl (lv_at hl 2 rfl) ?_
        refine lv_iload hx hb dX4_extend_52 (lv_at hl 1 rfl) ?_
        refine lv_iload hx hb dX4_extend_54 (lv_at hl 0 rfl) ?_
        refine lv_iload_n hx hb dX4_extend_56 rfl (lv_at hl 5 rfl) ?_
        rcases (show sg = 0 ∨ sg = 1 by omega) with rfl | rfl
        · refine n_zeq_t (tgt := 65) hx hb rfl dX4_extend_57 (by decide) ?_
          refine lv_bipush (v := nI 53) hx hb dX4_extend_65 (by decide) ?_
          refine lv_iload_n hx hb dX4_extend_67 rfl (lv_at hl 3 rfl) ?_
          refine lv_iconst (v := nI 0) hx hb dX4_extend_68 (by decide) ?_
          refine lv_iconst (v := nI 0) hx hb dX4_extend_69 (by decide) ?_
          refine lv_iload hx hb dX4_extend_70 (lv_at hl 0 rfl) ?_
          refine c_virt (As := [.int (nI 0), .int (nI 1), .int (nI 53), .int (nI i), .int (nI 0), .int (nI 0), .int (nI 1)]) (rest := []) (wc := [eo hm 4 [.int (nI cd), .int (nI n), .int (nI wg), .ref ad.1, .ref ad.2.1, .ref ad.2.2.1, .ref ad.2.2.2.1, .ref ad.2.2.2.2.1, .ref ad.2.2.2.2.2], ey Z ad.1 4000 K, ea Z ad.2.1 4000 F, ea Z ad.2.2.1 4000 S, ea Z ad.2.2.2.1 4000 T, ea Z ad.2.2.2.2.1 4000 D, el Z ad.2.2.2.2.2 4000 V]) (wr := []) (nl := 0) hx hb hml hown hts hK hG rfl hA hl (k_madd0 l Z hm ad cd n wg K F S T D V _ _ _ _ _ _) hW trivial (hW.at 0 rfl) rfl rfl tb_816 tb_818 ts_10 tb_7 tb_819 (nA := 7) (by decide +kernel) rfl ⟨by omega, by omega⟩ ⟨by omega, by omega⟩ rfl (Nat.le_of_ble_eq_true rfl) dX4_extend_72 (fun v w1 H1 L1 hp hW hzz hkk hdd => ?_)
          obtain ⟨rfl, rfl⟩ := hp
          clear hzz hkk hdd
          generalize H1 = H at hW  ⊢
          generalize L1 = locs at hW ⊢
          have hW : Wd Z A s.heap ([eo hm 4 [.int (nI 1), .int (nI n), .int (nI wg), .ref ad.1, .ref ad.2.1, .ref ad.2.2.1, .ref ad.2.2.2.1, .ref ad.2.2.2.2.1, .ref ad.2.2.2.2.2], ey Z ad.1 4000 K, ea Z ad.2.1 4000 F, ea Z ad.2.2.1 4000 S, ea Z ad.2.2.2.1 4000 T, ea Z ad.2.2.2.2.1 4000 D, el Z ad.2.2.2.2.2 4000 V]) _ _ := hW
          refine W.eq (g2 := F0 m 75 ls [.int (nI 0)]) rfl ?_
          exact e_int hx hb hr hlk hAe hW (by omega) (by omega) dX4_extend_75 ⟨⟨_, rfl⟩, rfl⟩
        · refine n_zeq_f (tgt := 65) hx hb (by decide) (by omega) dX4_extend_57 (by decide) ?_
          refine lv_bipush (v := nI 54) hx hb dX4_extend_60 (by decide) ?_
          refine lv_goto (tgt := 67) hx hb dX4_extend_62 (by decide) ?_
          refine lv_iload_n hx hb dX4_extend_67 rfl (lv_at hl 3 rfl) ?_
          refine lv_iconst (v := nI 0) hx hb dX4_extend_68 (by decide) ?_
          refine lv_iconst (v := nI 0) hx hb dX4_extend_69 (by decide) ?_
          refine lv_iload hx hb dX4_extend_70 (lv_at hl 0 rfl) ?_
          refine c_virt (As := [.int (nI 0), .int (nI 1), .int (nI 54), .int (nI i), .int (nI 0), .int (nI 0), .int (nI 1)]) (rest := []) (wc := [eo hm 4 [.int (nI cd), .int (nI n), .int (nI wg), .ref ad.1, .ref ad.2.1, .ref ad.2.2.1, .ref ad.2.2.2.1, .ref ad.2.2.2.2.1, .ref ad.2.2.2.2.2], ey Z ad.1 4000 K, ea Z ad.2.1 4000 F, ea Z ad.2.2.1 4000 S, ea Z ad.2.2.2.1 4000 T, ea Z ad.2.2.2.2.1 4000 D, el Z ad.2.2.2.2.2 4000 V]) (wr := []) (nl := 0) hx hb hml hown hts hK hG rfl hA hl (k_madd0 l Z hm ad cd n wg K F S T D V _ _ _ _ _ _) hW trivial (hW.at 0 rfl) rfl rfl tb_816 tb_818 ts_10 tb_7 tb_819 (nA := 7) (by decide +kernel) rfl ⟨by omega, by omega⟩ ⟨by omega, by omega⟩ rfl (Nat.le_of_ble_eq_true rfl) dX4_extend_72 (fun v w1 H1 L1 hp hW hzz hkk hdd => ?_)
          obtain ⟨rfl, rfl⟩ := hp
          clear hzz hkk hdd
          generalize H1 = H at hW  ⊢
          generalize L1 = locs at hW ⊢
          have hW : Wd Z A s.heap ([eo hm 4 [.int (nI 1), .int (nI n), .int (nI wg), .ref ad.1, .ref ad.2.1, .ref ad.2.2.1, .ref ad.2.2.2.1, .ref ad.2.2.2.2.1, .ref ad.2.2.2.2.2], ey Z ad.1 4000 K, ea Z ad.2.1 4000 F, ea Z ad.2.2.1 4000 S, ea Z ad.2.2.2.1 4000 T, ea Z ad.2.2.2.2.1 4000 D, el Z ad.2.2.2.2.2 4000 V]) _ _ := hW
          refine W.eq (g2 := F0 m 75 ls [.int (nI 0)]) rfl ?_
          exact e_int hx hb hr hlk hAe hW (by omega) (by omega) dX4_extend_75 ⟨⟨_, rfl⟩, rfl⟩
      · obtain ⟨bb, hbb, rfl, ebb⟩ := i_nat (x := xb) (by omega)
        exact absurd ⟨i, bb, hi, rfl, rfl, by omega⟩ h
  · refine c_virt (As := [.int xa]) (rest := []) (wc := [eo hm 4 [.int (nI cd), .int (nI n), .int (nI wg), .ref ad.1, .ref ad.2.1, .ref ad.2.2.1, .ref ad.2.2.2.1, .ref ad.2.2.2.2.1, .ref ad.2.2.2.2.2], ey Z ad.1 4000 K, ea Z ad.2.1 4000 F, ea Z ad.2.2.1 4000 S, ea Z ad.2.2.2.1 4000 T, ea Z ad.2.2.2.2.1 4000 D, el Z ad.2.2.2.2.2 4000 V]) (wr := []) (nl := 0) hx hb hml hown hts hK hG rfl hA hl (k_is0 l Z hm ad cd n wg K F S T D V xa ha (by omega)) hW trivial (hW.at 0 rfl) rfl rfl tb_833 tb_835 ts_11 tb_7 tb_836 (nA := 1) (by decide +kernel) rfl ⟨by omega, by omega⟩ ⟨by omega, by omega⟩ rfl (Nat.le_of_ble_eq_true rfl) dX4_extend_2 (fun v w1 H1 L1 hp hW hzz hkk hdd => ?_)
    obtain ⟨rfl, rfl⟩ := hp
    clear hzz hkk hdd
    generalize H1 = H at hW  ⊢
    generalize L1 = locs at hW ⊢
    have hW : Wd Z A s.heap ([eo hm 4 [.int (nI cd), .int (nI n), .int (nI wg), .ref ad.1, .ref ad.2.1, .ref ad.2.2.1, .ref ad.2.2.2.1, .ref ad.2.2.2.2.1, .ref ad.2.2.2.2.2], ey Z ad.1 4000 K, ea Z ad.2.1 4000 F, ea Z ad.2.2.1 4000 S, ea Z ad.2.2.2.1 4000 T, ea Z ad.2.2.2.2.1 4000 D, el Z ad.2.2.2.2.2 4000 V]) _ _ := hW
    refine W.eq (g2 := F0 m 5 ls [.int (nI 0)]) rfl ?_
    refine n_zeq_t (tgt := 29) hx hb rfl dX4_extend_5 (by decide) ?_
    refine lv_iconst (v := nI 0) hx hb dX4_extend_29 (by decide) ?_
    refine lv_istore (lv' := [(4, .int (nI 0)), (0, .ref hm), (1, .int xa), (2, .int xb), (3, .int (nI sg))]) hx hb dX4_extend_30 hl (by decide) rfl (fun ls hl => ?_)
    refine lv_iload hx hb dX4_extend_32 (lv_at hl 0 rfl) ?_
    refine n_zeq_t (tgt := 48) hx hb rfl dX4_extend_34 (by decide) ?_
    refine lv_iconst (v := nI 1) hx hb dX4_extend_48 (by decide) ?_
    refine lv_istore (lv' := [(5, .int (nI 1)), (4, .int (nI 0)), (0, .ref hm), (1, .int xa), (2, .int xb), (3, .int (nI sg))]) hx hb dX4_extend_49 hl (by decide) rfl (fun ls hl => ?_)
    refine lv_aload_n hx hb dX4_extend_51 rfl (lv_at hl 2 rfl) ?_
    refine lv_iload hx hb dX4_extend_52 (lv_at hl 1 rfl) ?_
    refine lv_iload hx hb dX4_extend_54 (lv_at hl 0 rfl) ?_
    refine lv_iload_n hx hb dX4_extend_56 rfl (lv_at hl 5 rfl) ?_
    rcases (show sg = 0 ∨ sg = 1 by omega) with rfl | rfl
    · refine n_zeq_t (tgt := 65) hx hb rfl dX4_extend_57 (by decide) ?_
      refine lv_bipush (v := nI 53) hx hb dX4_extend_65 (by decide) ?_
      refine lv_iload_n hx hb dX4_extend_67 rfl (lv_at hl 3 rfl) ?_
      refine lv_iconst (v := nI 0) hx hb dX4_extend_68 (by decide) ?_
      refine lv_iconst (v := nI 0) hx hb dX4_extend_69 (by decide) ?_
      refine lv_iload hx hb dX4_extend_70 (lv_at hl 0 rfl) ?_
      refine c_virt (As := [.int (nI 0), .int (nI 1), .int (nI 53), .int xa, .int (nI 0), .int (nI 0), .int (nI 1)]) (rest := []) (wc := [eo hm 4 [.int (nI cd), .int (nI n), .int (nI wg), .ref ad.1, .ref ad.2.1, .ref ad.2.2.1, .ref ad.2.2.2.1, .ref ad.2.2.2.2.1, .ref ad.2.2.2.2.2], ey Z ad.1 4000 K, ea Z ad.2.1 4000 F, ea Z ad.2.2.1 4000 S, ea Z ad.2.2.2.1 4000 T, ea Z ad.2.2.2.2.1 4000 D, el Z ad.2.2.2.2.2 4000 V]) (wr := []) (nl := 0) hx hb hml hown hts hK hG rfl hA hl (k_madd0 l Z hm ad cd n wg K F S T D V _ _ _ _ _ _) hW trivial (hW.at 0 rfl) rfl rfl tb_816 tb_818 ts_10 tb_7 tb_819 (nA := 7) (by decide +kernel) rfl ⟨by omega, by omega⟩ ⟨by omega, by omega⟩ rfl (Nat.le_of_ble_eq_true rfl) dX4_extend_72 (fun v w1 H1 L1 hp hW hzz hkk hdd => ?_)
      obtain ⟨rfl, rfl⟩ := hp
      clear hzz hkk hdd
      generalize H1 = H at hW  ⊢
      generalize L1 = locs at hW ⊢
      have hW : Wd Z A s.heap ([eo hm 4 [.int (nI 1), .int (nI n), .int (nI wg), .ref ad.1, .ref ad.2.1, .ref ad.2.2.1, .ref ad.2.2.2.1, .ref ad.2.2.2.2.1, .ref ad.2.2.2.2.2], ey Z ad.1 4000 K, ea Z ad.2.1 4000 F, ea Z ad.2.2.1 4000 S, ea Z ad.2.2.2.1 4000 T, ea Z ad.2.2.2.2.1 4000 D, el Z ad.2.2.2.2.2 4000 V]) _ _ := hW
      refine W.eq (g2 := F0 m 75 ls [.int (nI 0)]) rfl ?_
      exact e_int hx hb hr hlk hAe hW (by omega) (by omega) dX4_extend_75 ⟨⟨_, rfl⟩, rfl⟩
    · refine n_zeq_f (tgt := 65) hx hb (by decide) (by omega) dX4_extend_57 (by decide) ?_
      refine lv_bipush (v := nI 54) hx hb dX4_extend_60 (by decide) ?_
      refine lv_goto (tgt := 67) hx hb dX4_extend_62 (by decide) ?_
      refine lv_iload_n hx hb dX4_extend_67 rfl (lv_at hl 3 rfl) ?_
      refine lv_iconst (v := nI 0) hx hb dX4_extend_68 (by decide) ?_
      refine lv_iconst (v := nI 0) hx hb dX4_extend_69 (by decide) ?_
      refine lv_iload hx hb dX4_extend_70 (lv_at hl 0 rfl) ?_
      refine c_virt (As := [.int (nI 0), .int (nI 1), .int (nI 54), .int xa, .int (nI 0), .int (nI 0), .int (nI 1)]) (rest := []) (wc := [eo hm 4 [.int (nI cd), .int (nI n), .int (nI wg), .ref ad.1, .ref ad.2.1, .ref ad.2.2.1, .ref ad.2.2.2.1, .ref ad.2.2.2.2.1, .ref ad.2.2.2.2.2], ey Z ad.1 4000 K, ea Z ad.2.1 4000 F, ea Z ad.2.2.1 4000 S, ea Z ad.2.2.2.1 4000 T, ea Z ad.2.2.2.2.1 4000 D, el Z ad.2.2.2.2.2 4000 V]) (wr := []) (nl := 0) hx hb hml hown hts hK hG rfl hA hl (k_madd0 l Z hm ad cd n wg K F S T D V _ _ _ _ _ _) hW trivial (hW.at 0 rfl) rfl rfl tb_816 tb_818 ts_10 tb_7 tb_819 (nA := 7) (by decide +kernel) rfl ⟨by omega, by omega⟩ ⟨by omega, by omega⟩ rfl (Nat.le_of_ble_eq_true rfl) dX4_extend_72 (fun v w1 H1 L1 hp hW hzz hkk hdd => ?_)
      obtain ⟨rfl, rfl⟩ := hp
      clear hzz hkk hdd
      generalize H1 = H at hW  ⊢
      generalize L1 = locs at hW ⊢
      have hW : Wd Z A s.heap ([eo hm 4 [.int (nI 1), .int (nI n), .int (nI wg), .ref ad.1, .ref ad.2.1, .ref ad.2.2.1, .ref ad.2.2.2.1, .ref ad.2.2.2.2.1, .ref ad.2.2.2.2.2], ey Z ad.1 4000 K, ea Z ad.2.1 4000 F, ea Z ad.2.2.1 4000 S, ea Z ad.2.2.2.1 4000 T, ea Z ad.2.2.2.2.1 4000 D, el Z ad.2.2.2.2.2 4000 V]) _ _ := hW
      refine W.eq (g2 := F0 m 75 ls [.int (nI 0)]) rfl ?_
      exact e_int hx hb hr hlk hAe hW (by omega) (by omega) dX4_extend_75 ⟨⟨_, rfl⟩, rfl⟩
set_option maxHeartbeats 4000000 in
set_option maxRecDepth 100000 in
theorem k_mextend1 (l : Launch) (Z : Zt) (hm : Nat) (ad : MA) (cd n wg : Nat) (K F S T D V : Nat → Nat) (i bb sg : Nat) (hsg : sg ≤ 1) (hi : i < n) (hij : D i + bb ≤ 64) (hD : ∀ i, i < n → D i ≤ 64) (hn : n < 4000) (hwg : wg ≤ 100000) (hg : D i + bb + wg ≤ 100000)  : MC l yX4_extend cX4_extend 6 (some .int) 1 60 (0) (0) Z (mw Z hm ad cd n wg K F S T D V) (fun _ => True) [.ref hm, .int (nI i), .int (nI bb), .int (nI sg)] (fun r w1 => r = some (.int (nI n)) ∧ w1 = mw Z hm ad 0 (n + 1) (wg + (D i + bb)) (up K n (53 + sg)) (up F n i) (up S n 0) (up T n 0) (up D n (D i + bb)) (up V n 0)) := by
  refine mc_of (by decide) (Nat.le_of_ble_eq_true rfl) (fun p e s m below meth c ls A hx hb hr hts hown hlk hml hin hK hG hW hA hAe hro hl R hRf hRc hRs hRl => ?_)
  have hl : lv_has ls 6 [(0, .ref hm), (1, .int (nI i)), (2, .int (nI bb)), (3, .int (nI sg))] := hl
  have hW : Wd Z A s.heap ([eo hm 4 [.int (nI cd), .int (nI n), .int (nI wg), .ref ad.1, .ref ad.2.1, .ref ad.2.2.1, .ref ad.2.2.2.1, .ref ad.2.2.2.2.1, .ref ad.2.2.2.2.2], ey Z ad.1 4000 K, ea Z ad.2.1 4000 F, ea Z ad.2.2.1 4000 S, ea Z ad.2.2.2.1 4000 T, ea Z ad.2.2.2.2.1 4000 D, el Z ad.2.2.2.2.2 4000 V]) _ _ := hW
  have hdi := hD i hi
  refine lv_aload_n hx hb dX4_extend_0 rfl (lv_at hl 0 rfl) ?_
  refine lv_iload_n hx hb dX4_extend_1 rfl (lv_at hl 1 rfl) ?_
  refine c_virt (As := [.int (nI i)]) (rest := []) (wc := [eo hm 4 [.int (nI cd), .int (nI n), .int (nI wg), .ref ad.1, .ref ad.2.1, .ref ad.2.2.1, .ref ad.2.2.2.1, .ref ad.2.2.2.2.1, .ref ad.2.2.2.2.2], ey Z ad.1 4000 K, ea Z ad.2.1 4000 F, ea Z ad.2.2.1 4000 S, ea Z ad.2.2.2.1 4000 T, ea Z ad.2.2.2.2.1 4000 D, el Z ad.2.2.2.2.2 4000 V]) (wr := []) (nl := 0) hx hb hml hown hts hK hG rfl hA hl (k_is1 l Z hm ad cd n wg K F S T D V i hi (by omega)) hW trivial (hW.at 0 rfl) rfl rfl tb_833 tb_835 ts_11 tb_7 tb_836 (nA := 1) (by decide +kernel) rfl ⟨by omega, by omega⟩ ⟨by omega, by omega⟩ rfl (Nat.le_of_ble_eq_true rfl) dX4_extend_2 (fun v w1 H1 L1 hp hW hzz hkk hdd => ?_)
  obtain ⟨rfl, rfl⟩ := hp
  clear hzz hkk hdd
  generalize H1 = H at hW  ⊢
  generalize L1 = locs at hW ⊢
  have hW : Wd Z A s.heap ([eo hm 4 [.int (nI cd), .int (nI n), .int (nI wg), .ref ad.1, .ref ad.2.1, .ref ad.2.2.1, .ref ad.2.2.2.1, .ref ad.2.2.2.2.1, .ref ad.2.2.2.2.2], ey Z ad.1 4000 K, ea Z ad.2.1 4000 F, ea Z ad.2.2.1 4000 S, ea Z ad.2.2.2.1 4000 T, ea Z ad.2.2.2.2.1 4000 D, el Z ad.2.2.2.2.2 4000 V]) _ _ := hW
  refine W.eq (g2 := F0 m 5 ls [.int (nI 1)]) rfl ?_
  refine n_zeq_f (tgt := 29) hx hb (by decide) (by omega) dX4_extend_5 (by decide) ?_
  refine lv_iload_n hx hb dX4_extend_8 rfl (lv_at hl 2 rfl) ?_
  refine n_zlt_f (tgt := 29) hx hb (by omega) dX4_extend_9 (by decide) ?_
  refine lv_iload_n hx hb dX4_extend_12 rfl (lv_at hl 2 rfl) ?_
  refine lv_bipush (v := nI 64) hx hb dX4_extend_13 (by decide) ?_
  refine lv_aload_n hx hb dX4_extend_15 rfl (lv_at hl 0 rfl) ?_
  refine r_get hx hb hts hown hK (hW.at 0 rfl) rfl in_X4 7 (by decide) tb_786 (fun _ h => h) rfl dX4_extend_16 ?_
  refine lv_iload_n hx hb dX4_extend_19 rfl (lv_at hl 1 rfl) ?_
  refine r_ald (i := i) hx hb hK (hW.at 5 rfl) (by omega) (by omega) dX4_extend_20 ?_
  refine n_isub hx hb (by omega) dX4_extend_21 ?_
  refine n_gt_f (tgt := 29) hx hb (by omega) (by omega) dX4_extend_22 (by decide) ?_
  refine lv_iconst (v := nI 1) hx hb dX4_extend_25 (by decide) ?_
  refine lv_goto (tgt := 30) hx hb dX4_extend_26 (by decide) ?_
  refine lv_istore (lv' := [(4, .int (nI 1)), (0, .ref hm), (1, .int (nI i)), (2, .int (nI bb)), (3, .int (nI sg))]) hx hb dX4_extend_30 hl (by decide) rfl (fun ls hl => ?_)
  refine lv_iload hx hb dX4_extend_32 (lv_at hl 0 rfl) ?_
  refine n_zeq_f (tgt := 48) hx hb (by decide) (by omega) dX4_extend_34 (by decide) ?_
  refine lv_aload_n hx hb dX4_extend_37 rfl (lv_at hl 1 rfl) ?_
  refine r_get hx hb hts hown hK (hW.at 0 rfl) rfl in_X4 7 (by decide) tb_786 (fun _ h => h) rfl dX4_extend_38 ?_
  refine lv_iload_n hx hb dX4_extend_41 rfl (lv_at hl 2 rfl) ?_
  refine r_ald (i := i) hx hb hK (hW.at 5 rfl) (by omega) (by omega) dX4_extend_42 ?_
  refine lv_iload_n hx hb dX4_extend_43 rfl (lv_at hl 3 rfl) ?_
  refine n_iadd hx hb dX4_extend_44 ?_
  refine lv_goto (tgt := 49) hx hb dX4_extend_45 (by decide) ?_
  refine lv_istore (lv' := [(5, .int (nI ((D i) + bb))), (4, .int (nI 1)), (0, .ref hm), (1, .int (nI i)), (2, .int (nI bb)), (3, .int (nI sg))]) hx hb dX4_extend_49 hl (by decide) rfl (fun ls hl => ?_)
  refine lv_aload_n hx hb dX4_extend_51 rfl (lv_at hl 2 rfl) ?_
  refine lv_iload hx hb dX4_extend_52 (lv_at hl 1 rfl) ?_
  refine lv_iload hx hb dX4_extend_54 (lv_at hl 0 rfl) ?_
  refine lv_iload_n hx hb dX4_extend_56 rfl (lv_at hl 5 rfl) ?_
  rcases (show sg = 0 ∨ sg = 1 by omega) with rfl | rfl
  · refine n_zeq_t (tgt := 65) hx hb rfl dX4_extend_57 (by decide) ?_
    refine lv_bipush (v := nI 53) hx hb dX4_extend_65 (by decide) ?_
    refine lv_iload_n hx hb dX4_extend_67 rfl (lv_at hl 3 rfl) ?_
    refine lv_iconst (v := nI 0) hx hb dX4_extend_68 (by decide) ?_
    refine lv_iconst (v := nI 0) hx hb dX4_extend_69 (by decide) ?_
    refine lv_iload hx hb dX4_extend_70 (lv_at hl 0 rfl) ?_
    refine c_virt (As := [.int (nI 1), .int (nI ((D i) + bb)), .int (nI 53), .int (nI i), .int (nI 0), .int (nI 0), .int (nI ((D i) + bb))]) (rest := []) (wc := [eo hm 4 [.int (nI cd), .int (nI n), .int (nI wg), .ref ad.1, .ref ad.2.1, .ref ad.2.2.1, .ref ad.2.2.2.1, .ref ad.2.2.2.2.1, .ref ad.2.2.2.2.2], ey Z ad.1 4000 K, ea Z ad.2.1 4000 F, ea Z ad.2.2.1 4000 S, ea Z ad.2.2.2.1 4000 T, ea Z ad.2.2.2.2.1 4000 D, el Z ad.2.2.2.2.2 4000 V]) (wr := []) (nl := 0) hx hb hml hown hts hK hG rfl hA hl (k_madd1 l Z hm ad cd n wg K F S T D V (D i + bb) 53 i 0 0 (D i + bb) hn (by omega) (by omega)) hW trivial (hW.at 0 rfl) rfl rfl tb_816 tb_818 ts_10 tb_7 tb_819 (nA := 7) (by decide +kernel) rfl ⟨by omega, by omega⟩ ⟨by omega, by omega⟩ rfl (Nat.le_of_ble_eq_true rfl) dX4_extend_72 (fun v w1 H1 L1 hp hW hzz hkk hdd => ?_)
    obtain ⟨rfl, rfl⟩ := hp
    clear hzz hkk hdd
    generalize H1 = H at hW  ⊢
    generalize L1 = locs at hW ⊢
    have hW : Wd Z A s.heap ([eo hm 4 [.int (nI 0), .int (nI (n + 1)), .int (nI (wg + (D i + bb))), .ref ad.1, .ref ad.2.1, .ref ad.2.2.1, .ref ad.2.2.2.1, .ref ad.2.2.2.2.1, .ref ad.2.2.2.2.2], ey Z ad.1 4000 (up K n 53), ea Z ad.2.1 4000 (up F n i), ea Z ad.2.2.1 4000 (up S n 0), ea Z ad.2.2.2.1 4000 (up T n 0), ea Z ad.2.2.2.2.1 4000 (up D n (D i + bb)), el Z ad.2.2.2.2.2 4000 (up V n 0)]) _ _ := hW
    refine W.eq (g2 := F0 m 75 ls [.int (nI n)]) rfl ?_
    exact e_int hx hb hr hlk hAe hW (by omega) (by omega) dX4_extend_75 ⟨rfl, rfl⟩
  · refine n_zeq_f (tgt := 65) hx hb (by decide) (by omega) dX4_extend_57 (by decide) ?_
    refine lv_bipush (v := nI 54) hx hb dX4_extend_60 (by decide) ?_
    refine lv_goto (tgt := 67) hx hb dX4_extend_62 (by decide) ?_
    refine lv_iload_n hx hb dX4_extend_67 rfl (lv_at hl 3 rfl) ?_
    refine lv_iconst (v := nI 0) hx hb dX4_extend_68 (by decide) ?_
    refine lv_iconst (v := nI 0) hx hb dX4_extend_69 (by decide) ?_
    refine lv_iload hx hb dX4_extend_70 (lv_at hl 0 rfl) ?_
    refine c_virt (As := [.int (nI 1), .int (nI ((D i) + bb)), .int (nI 54), .int (nI i), .int (nI 0), .int (nI 0), .int (nI ((D i) + bb))]) (rest := []) (wc := [eo hm 4 [.int (nI cd), .int (nI n), .int (nI wg), .ref ad.1, .ref ad.2.1, .ref ad.2.2.1, .ref ad.2.2.2.1, .ref ad.2.2.2.2.1, .ref ad.2.2.2.2.2], ey Z ad.1 4000 K, ea Z ad.2.1 4000 F, ea Z ad.2.2.1 4000 S, ea Z ad.2.2.2.1 4000 T, ea Z ad.2.2.2.2.1 4000 D, el Z ad.2.2.2.2.2 4000 V]) (wr := []) (nl := 0) hx hb hml hown hts hK hG rfl hA hl (k_madd1 l Z hm ad cd n wg K F S T D V (D i + bb) 54 i 0 0 (D i + bb) hn (by omega) (by omega)) hW trivial (hW.at 0 rfl) rfl rfl tb_816 tb_818 ts_10 tb_7 tb_819 (nA := 7) (by decide +kernel) rfl ⟨by omega, by omega⟩ ⟨by omega, by omega⟩ rfl (Nat.le_of_ble_eq_true rfl) dX4_extend_72 (fun v w1 H1 L1 hp hW hzz hkk hdd => ?_)
    obtain ⟨rfl, rfl⟩ := hp
    clear hzz hkk hdd
    generalize H1 = H at hW  ⊢
    generalize L1 = locs at hW ⊢
    have hW : Wd Z A s.heap ([eo hm 4 [.int (nI 0), .int (nI (n + 1)), .int (nI (wg + (D i + bb))), .ref ad.1, .ref ad.2.1, .ref ad.2.2.1, .ref ad.2.2.2.1, .ref ad.2.2.2.2.1, .ref ad.2.2.2.2.2], ey Z ad.1 4000 (up K n 54), ea Z ad.2.1 4000 (up F n i), ea Z ad.2.2.1 4000 (up S n 0), ea Z ad.2.2.2.1 4000 (up T n 0), ea Z ad.2.2.2.2.1 4000 (up D n (D i + bb)), el Z ad.2.2.2.2.2 4000 (up V n 0)]) _ _ := hW
    refine W.eq (g2 := F0 m 75 ls [.int (nI n)]) rfl ?_
    exact e_int hx hb hr hlk hAe hW (by omega) (by omega) dX4_extend_75 ⟨rfl, rfl⟩
set_option maxHeartbeats 4000000 in
set_option maxRecDepth 100000 in
theorem k_mextend2 (l : Launch) (Z : Zt) (hm : Nat) (ad : MA) (cd n wg : Nat) (K F S T D V : Nat → Nat) (i bb sg : Nat) (hsg : sg ≤ 1) (hi : i < n) (hij : D i + bb ≤ 64) (hD : ∀ i, i < n → D i ≤ 64) (hn : n < 4000) (hwg : wg ≤ 100000) (hg : ¬ D i + bb + wg ≤ 100000)  : MC l yX4_extend cX4_extend 6 (some .int) 1 60 (0) (0) Z (mw Z hm ad cd n wg K F S T D V) (fun _ => True) [.ref hm, .int (nI i), .int (nI bb), .int (nI sg)] (fun r w1 => (∃ r0 : Int32, r = some (.int r0)) ∧ w1 = mw Z hm ad 2 n wg K F S T D V) := by
  refine mc_of (by decide) (Nat.le_of_ble_eq_true rfl) (fun p e s m below meth c ls A hx hb hr hts hown hlk hml hin hK hG hW hA hAe hro hl R hRf hRc hRs hRl => ?_)
  have hl : lv_has ls 6 [(0, .ref hm), (1, .int (nI i)), (2, .int (nI bb)), (3, .int (nI sg))] := hl
  have hW : Wd Z A s.heap ([eo hm 4 [.int (nI cd), .int (nI n), .int (nI wg), .ref ad.1, .ref ad.2.1, .ref ad.2.2.1, .ref ad.2.2.2.1, .ref ad.2.2.2.2.1, .ref ad.2.2.2.2.2], ey Z ad.1 4000 K, ea Z ad.2.1 4000 F, ea Z ad.2.2.1 4000 S, ea Z ad.2.2.2.1 4000 T, ea Z ad.2.2.2.2.1 4000 D, el Z ad.2.2.2.2.2 4000 V]) _ _ := hW
  have hdi := hD i hi
  refine lv_aload_n hx hb dX4_extend_0 rfl (lv_at hl 0 rfl) ?_
  refine lv_iload_n hx hb dX4_extend_1 rfl (lv_at hl 1 rfl) ?_
  refine c_virt (As := [.int (nI i)]) (rest := []) (wc := [eo hm 4 [.int (nI cd), .int (nI n), .int (nI wg), .ref ad.1, .ref ad.2.1, .ref ad.2.2.1, .ref ad.2.2.2.1, .ref ad.2.2.2.2.1, .ref ad.2.2.2.2.2], ey Z ad.1 4000 K, ea Z ad.2.1 4000 F, ea Z ad.2.2.1 4000 S, ea Z ad.2.2.2.1 4000 T, ea Z ad.2.2.2.2.1 4000 D, el Z ad.2.2.2.2.2 4000 V]) (wr := []) (nl := 0) hx hb hml hown hts hK hG rfl hA hl (k_is1 l Z hm ad cd n wg K F S T D V i hi (by omega)) hW trivial (hW.at 0 rfl) rfl rfl tb_833 tb_835 ts_11 tb_7 tb_836 (nA := 1) (by decide +kernel) rfl ⟨by omega, by omega⟩ ⟨by omega, by omega⟩ rfl (Nat.le_of_ble_eq_true rfl) dX4_extend_2 (fun v w1 H1 L1 hp hW hzz hkk hdd => ?_)
  obtain ⟨rfl, rfl⟩ := hp
  clear hzz hkk hdd
  generalize H1 = H at hW  ⊢
  generalize L1 = locs at hW ⊢
  have hW : Wd Z A s.heap ([eo hm 4 [.int (nI cd), .int (nI n), .int (nI wg), .ref ad.1, .ref ad.2.1, .ref ad.2.2.1, .ref ad.2.2.2.1, .ref ad.2.2.2.2.1, .ref ad.2.2.2.2.2], ey Z ad.1 4000 K, ea Z ad.2.1 4000 F, ea Z ad.2.2.1 4000 S, ea Z ad.2.2.2.1 4000 T, ea Z ad.2.2.2.2.1 4000 D, el Z ad.2.2.2.2.2 4000 V]) _ _ := hW
  refine W.eq (g2 := F0 m 5 ls [.int (nI 1)]) rfl ?_
  refine n_zeq_f (tgt := 29) hx hb (by decide) (by omega) dX4_extend_5 (by decide) ?_
  refine lv_iload_n hx hb dX4_extend_8 rfl (lv_at hl 2 rfl) ?_
  refine n_zlt_f (tgt := 29) hx hb (by omega) dX4_extend_9 (by decide) ?_
  refine lv_iload_n hx hb dX4_extend_12 rfl (lv_at hl 2 rfl) ?_
  refine lv_bipush (v := nI 64) hx hb dX4_extend_13 (by decide) ?_
  refine lv_aload_n hx hb dX4_extend_15 rfl (lv_at hl 0 rfl) ?_
  refine r_get hx hb hts hown hK (hW.at 0 rfl) rfl in_X4 7 (by decide) tb_786 (fun _ h => h) rfl dX4_extend_16 ?_
  refine lv_iload_n hx hb dX4_extend_19 rfl (lv_at hl 1 rfl) ?_
  refine r_ald (i := i) hx hb hK (hW.at 5 rfl) (by omega) (by omega) dX4_extend_20 ?_
  refine n_isub hx hb (by omega) dX4_extend_21 ?_
  refine n_gt_f (tgt := 29) hx hb (by omega) (by omega) dX4_extend_22 (by decide) ?_
  refine lv_iconst (v := nI 1) hx hb dX4_extend_25 (by decide) ?_
  refine lv_goto (tgt := 30) hx hb dX4_extend_26 (by decide) ?_
  refine lv_istore (lv' := [(4, .int (nI 1)), (0, .ref hm), (1, .int (nI i)), (2, .int (nI bb)), (3, .int (nI sg))]) hx hb dX4_extend_30 hl (by decide) rfl (fun ls hl => ?_)
  refine lv_iload hx hb dX4_extend_32 (lv_at hl 0 rfl) ?_
  refine n_zeq_f (tgt := 48) hx hb (by decide) (by omega) dX4_extend_34 (by decide) ?_
  refine lv_aload_n hx hb dX4_extend_37 rfl (lv_at hl 1 rfl) ?_
  refine r_get hx hb hts hown hK (hW.at 0 rfl) rfl in_X4 7 (by decide) tb_786 (fun _ h => h) rfl dX4_extend_38 ?_
  refine lv_iload_n hx hb dX4_extend_41 rfl (lv_at hl 2 rfl) ?_
  refine r_ald (i := i) hx hb hK (hW.at 5 rfl) (by omega) (by omega) dX4_extend_42 ?_
  refine lv_iload_n hx hb dX4_extend_43 rfl (lv_at hl 3 rfl) ?_
  refine n_iadd hx hb dX4_extend_44 ?_
  refine lv_goto (tgt := 49) hx hb dX4_extend_45 (by decide) ?_
  refine lv_istore (lv' := [(5, .int (nI ((D i) + bb))), (4, .int (nI 1)), (0, .ref hm), (1, .int (nI i)), (2, .int (nI bb)), (3, .int (nI sg))]) hx hb dX4_extend_49 hl (by decide) rfl (fun ls hl => ?_)
  refine lv_aload_n hx hb dX4_extend_51 rfl (lv_at hl 2 rfl) ?_
  refine lv_iload hx hb dX4_extend_52 (lv_at hl 1 rfl) ?_
  refine lv_iload hx hb dX4_extend_54 (lv_at hl 0 rfl) ?_
  refine lv_iload_n hx hb dX4_extend_56 rfl (lv_at hl 5 rfl) ?_
  rcases (show sg = 0 ∨ sg = 1 by omega) with rfl | rfl
  · refine n_zeq_t (tgt := 65) hx hb rfl dX4_extend_57 (by decide) ?_
    refine lv_bipush (v := nI 53) hx hb dX4_extend_65 (by decide) ?_
    refine lv_iload_n hx hb dX4_extend_67 rfl (lv_at hl 3 rfl) ?_
    refine lv_iconst (v := nI 0) hx hb dX4_extend_68 (by decide) ?_
    refine lv_iconst (v := nI 0) hx hb dX4_extend_69 (by decide) ?_
    refine lv_iload hx hb dX4_extend_70 (lv_at hl 0 rfl) ?_
    refine c_virt (As := [.int (nI 1), .int (nI ((D i) + bb)), .int (nI 53), .int (nI i), .int (nI 0), .int (nI 0), .int (nI ((D i) + bb))]) (rest := []) (wc := [eo hm 4 [.int (nI cd), .int (nI n), .int (nI wg), .ref ad.1, .ref ad.2.1, .ref ad.2.2.1, .ref ad.2.2.2.1, .ref ad.2.2.2.2.1, .ref ad.2.2.2.2.2], ey Z ad.1 4000 K, ea Z ad.2.1 4000 F, ea Z ad.2.2.1 4000 S, ea Z ad.2.2.2.1 4000 T, ea Z ad.2.2.2.2.1 4000 D, el Z ad.2.2.2.2.2 4000 V]) (wr := []) (nl := 0) hx hb hml hown hts hK hG rfl hA hl (k_madd2 l Z hm ad cd n wg K F S T D V (D i + bb) _ _ _ _ _ hn (by omega) (by omega)) hW trivial (hW.at 0 rfl) rfl rfl tb_816 tb_818 ts_10 tb_7 tb_819 (nA := 7) (by decide +kernel) rfl ⟨by omega, by omega⟩ ⟨by omega, by omega⟩ rfl (Nat.le_of_ble_eq_true rfl) dX4_extend_72 (fun v w1 H1 L1 hp hW hzz hkk hdd => ?_)
    obtain ⟨rfl, rfl⟩ := hp
    clear hzz hkk hdd
    generalize H1 = H at hW  ⊢
    generalize L1 = locs at hW ⊢
    have hW : Wd Z A s.heap ([eo hm 4 [.int (nI 2), .int (nI n), .int (nI wg), .ref ad.1, .ref ad.2.1, .ref ad.2.2.1, .ref ad.2.2.2.1, .ref ad.2.2.2.2.1, .ref ad.2.2.2.2.2], ey Z ad.1 4000 K, ea Z ad.2.1 4000 F, ea Z ad.2.2.1 4000 S, ea Z ad.2.2.2.1 4000 T, ea Z ad.2.2.2.2.1 4000 D, el Z ad.2.2.2.2.2 4000 V]) _ _ := hW
    refine W.eq (g2 := F0 m 75 ls [.int (nI 0)]) rfl ?_
    exact e_int hx hb hr hlk hAe hW (by omega) (by omega) dX4_extend_75 ⟨⟨_, rfl⟩, rfl⟩
  · refine n_zeq_f (tgt := 65) hx hb (by decide) (by omega) dX4_extend_57 (by decide) ?_
    refine lv_bipush (v := nI 54) hx hb dX4_extend_60 (by decide) ?_
    refine lv_goto (tgt := 67) hx hb dX4_extend_62 (by decide) ?_
    refine lv_iload_n hx hb dX4_extend_67 rfl (lv_at hl 3 rfl) ?_
    refine lv_iconst (v := nI 0) hx hb dX4_extend_68 (by decide) ?_
    refine lv_iconst (v := nI 0) hx hb dX4_extend_69 (by decide) ?_
    refine lv_iload hx hb dX4_extend_70 (lv_at hl 0 rfl) ?_
    refine c_virt (As := [.int (nI 1), .int (nI ((D i) + bb)), .int (nI 54), .int (nI i), .int (nI 0), .int (nI 0), .int (nI ((D i) + bb))]) (rest := []) (wc := [eo hm 4 [.int (nI cd), .int (nI n), .int (nI wg), .ref ad.1, .ref ad.2.1, .ref ad.2.2.1, .ref ad.2.2.2.1, .ref ad.2.2.2.2.1, .ref ad.2.2.2.2.2], ey Z ad.1 4000 K, ea Z ad.2.1 4000 F, ea Z ad.2.2.1 4000 S, ea Z ad.2.2.2.1 4000 T, ea Z ad.2.2.2.2.1 4000 D, el Z ad.2.2.2.2.2 4000 V]) (wr := []) (nl := 0) hx hb hml hown hts hK hG rfl hA hl (k_madd2 l Z hm ad cd n wg K F S T D V (D i + bb) _ _ _ _ _ hn (by omega) (by omega)) hW trivial (hW.at 0 rfl) rfl rfl tb_816 tb_818 ts_10 tb_7 tb_819 (nA := 7) (by decide +kernel) rfl ⟨by omega, by omega⟩ ⟨by omega, by omega⟩ rfl (Nat.le_of_ble_eq_true rfl) dX4_extend_72 (fun v w1 H1 L1 hp hW hzz hkk hdd => ?_)
    obtain ⟨rfl, rfl⟩ := hp
    clear hzz hkk hdd
    generalize H1 = H at hW  ⊢
    generalize L1 = locs at hW ⊢
    have hW : Wd Z A s.heap ([eo hm 4 [.int (nI 2), .int (nI n), .int (nI wg), .ref ad.1, .ref ad.2.1, .ref ad.2.2.1, .ref ad.2.2.2.1, .ref ad.2.2.2.2.1, .ref ad.2.2.2.2.2], ey Z ad.1 4000 K, ea Z ad.2.1 4000 F, ea Z ad.2.2.1 4000 S, ea Z ad.2.2.2.1 4000 T, ea Z ad.2.2.2.2.1 4000 D, el Z ad.2.2.2.2.2 4000 V]) _ _ := hW
    refine W.eq (g2 := F0 m 75 ls [.int (nI 0)]) rfl ?_
    exact e_int hx hb hr hlk hAe hW (by omega) (by omega) dX4_extend_75 ⟨⟨_, rfl⟩, rfl⟩
set_option maxHeartbeats 4000000 in
set_option maxRecDepth 100000 in
theorem k_Model (l : Launch) (Z : Zt) (hm : Nat)  : MC l yX4_init cX4_init 1 none 1 40 (6) (24000) Z ([eo hm 4 [.int 0, .int 0, .int 0, .null, .null, .null, .null, .null, .null]]) (fun _ => True) [.ref hm] (fun r w1 => r = none ∧ ∃ ad : MA, w1 = mw Z hm ad 0 0 0 (fun _ => 0) (fun _ => 0) (fun _ => 0) (fun _ => 0) (fun _ => 0) (fun _ => 0)) := by
  refine mc_of (by decide) (Nat.le_of_ble_eq_true rfl) (fun p e s m below meth c ls A hx hb hr hts hown hlk hml hin hK hG hW hA hAe hro hl R hRf hRc hRs hRl => ?_)
  have hl : lv_has ls 1 [(0, .ref hm)] := hl
  refine lv_aload_n hx hb dX4_init_0 rfl (lv_at hl 0 rfl) ?_
  refine W.objInit hx hb hown (hts _ tb_778) (hts _ tb_oi2) (hts _ tb_oi3) rfl (hl.1.trans hml.symm) rfl dX4_init_1 (by omega) (by rw [hRl]; exact Nat.le_of_ble_eq_true rfl) ?_
  refine W.eq (g2 := F0 m 4 ls []) rfl ?_
  refine lv_aload_n hx hb dX4_init_4 rfl (lv_at hl 0 rfl) ?_
  refine lv_sipush (v := nI 4000) hx hb dX4_init_5 (by decide) ?_
  refine r_newb (n := 4000) hx hb hts tb_200 hK hW hA (by omega) (by omega) (by omega) dX4_init_8 (fun q0 H hW hsz_q0 hq_q0 => ?_)
  have hW : Wd Z A s.heap ([eo hm 4 [.int 0, .int 0, .int 0, .null, .null, .null, .null, .null, .null], ey Z q0 4000 (fun _ => 0)]) _ _ := hW
  refine r_putF hx hb hts hown hK hW 0 (v := .ref q0) rfl rfl in_X4 tyX4 tyX4_ok nmX4 3 (by decide) tb_782 (fun _ h => h) rfl hin rfl rfl rfl (Nat.le_of_ble_eq_true rfl) dX4_init_10 (fun H locs hW => ?_)
  have hW : Wd Z A s.heap ([eo hm 4 [.int 0, .int 0, .int 0, .ref q0, .null, .null, .null, .null, .null], ey Z q0 4000 (fun _ => 0)]) _ _ := hW
  refine lv_aload_n hx hb dX4_init_13 rfl (lv_at hl 0 rfl) ?_
  refine lv_sipush (v := nI 4000) hx hb dX4_init_14 (by decide) ?_
  refine r_newa (n := 4000) hx hb hts tb_65 hK hW hA (by omega) (by omega) (by omega) dX4_init_17 (fun q1 H hW hsz_q1 hq_q1 => ?_)
  have hW : Wd Z A s.heap ([eo hm 4 [.int 0, .int 0, .int 0, .ref q0, .null, .null, .null, .null, .null], ey Z q0 4000 (fun _ => 0), ea Z q1 4000 (fun _ => 0)]) _ _ := hW
  refine r_putF hx hb hts hown hK hW 0 (v := .ref q1) rfl rfl in_X4 tyX4 tyX4_ok nmX4 4 (by decide) tb_783 (fun _ h => h) rfl hin rfl rfl rfl (Nat.le_of_ble_eq_true rfl) dX4_init_19 (fun H locs hW => ?_)
  have hW : Wd Z A s.heap ([eo hm 4 [.int 0, .int 0, .int 0, .ref q0, .ref q1, .null, .null, .null, .null], ey Z q0 4000 (fun _ => 0), ea Z q1 4000 (fun _ => 0)]) _ _ := hW
  refine lv_aload_n hx hb dX4_init_22 rfl (lv_at hl 0 rfl) ?_
  refine lv_sipush (v := nI 4000) hx hb dX4_init_23 (by decide) ?_
  refine r_newa (n := 4000) hx hb hts tb_65 hK hW hA (by omega) (by omega) (by omega) dX4_init_26 (fun q2 H hW hsz_q2 hq_q2 => ?_)
  have hW : Wd Z A s.heap ([eo hm 4 [.int 0, .int 0, .int 0, .ref q0, .ref q1, .null, .null, .null, .null], ey Z q0 4000 (fun _ => 0), ea Z q1 4000 (fun _ => 0), ea Z q2 4000 (fun _ => 0)]) _ _ := hW
  refine r_putF hx hb hts hown hK hW 0 (v := .ref q2) rfl rfl in_X4 tyX4 tyX4_ok nmX4 5 (by decide) tb_784 (fun _ h => h) rfl hin rfl rfl rfl (Nat.le_of_ble_eq_true rfl) dX4_init_28 (fun H locs hW => ?_)
  have hW : Wd Z A s.heap ([eo hm 4 [.int 0, .int 0, .int 0, .ref q0, .ref q1, .ref q2, .null, .null, .null], ey Z q0 4000 (fun _ => 0), ea Z q1 4000 (fun _ => 0), ea Z q2 4000 (fun _ => 0)]) _ _ := hW
  refine lv_aload_n hx hb dX4_init_31 rfl (lv_at hl 0 rfl) ?_
  refine lv_sipush (v := nI 4000) hx hb dX4_init_32 (by decide) ?_
  refine r_newa (n := 4000) hx hb hts tb_65 hK hW hA (by omega) (by omega) (by omega) dX4_init_35 (fun q3 H hW hsz_q3 hq_q3 => ?_)
  have hW : Wd Z A s.heap ([eo hm 4 [.int 0, .int 0, .int 0, .ref q0, .ref q1, .ref q2, .null, .null, .null], ey Z q0 4000 (fun _ => 0), ea Z q1 4000 (fun _ => 0), ea Z q2 4000 (fun _ => 0), ea Z q3 4000 (fun _ => 0)]) _ _ := hW
  refine r_putF hx hb hts hown hK hW 0 (v := .ref q3) rfl rfl in_X4 tyX4 tyX4_ok nmX4 6 (by decide) tb_785 (fun _ h => h) rfl hin rfl rfl rfl (Nat.le_of_ble_eq_true rfl) dX4_init_37 (fun H locs hW => ?_)
  have hW : Wd Z A s.heap ([eo hm 4 [.int 0, .int 0, .int 0, .ref q0, .ref q1, .ref q2, .ref q3, .null, .null], ey Z q0 4000 (fun _ => 0), ea Z q1 4000 (fun _ => 0), ea Z q2 4000 (fun _ => 0), ea Z q3 4000 (fun _ => 0)]) _ _ := hW
  refine lv_aload_n hx hb dX4_init_40 rfl (lv_at hl 0 rfl) ?_
  refine lv_sipush (v := nI 4000) hx hb dX4_init_41 (by decide) ?_
  refine r_newa (n := 4000) hx hb hts tb_65 hK hW hA (by omega) (by omega) (by omega) dX4_init_44 (fun q4 H hW hsz_q4 hq_q4 => ?_)
  have hW : Wd Z A s.heap ([eo hm 4 [.int 0, .int 0, .int 0, .ref q0, .ref q1, .ref q2, .ref q3, .null, .null], ey Z q0 4000 (fun _ => 0), ea Z q1 4000 (fun _ => 0), ea Z q2 4000 (fun _ => 0), ea Z q3 4000 (fun _ => 0), ea Z q4 4000 (fun _ => 0)]) _ _ := hW
  refine r_putF hx hb hts hown hK hW 0 (v := .ref q4) rfl rfl in_X4 tyX4 tyX4_ok nmX4 7 (by decide) tb_786 (fun _ h => h) rfl hin rfl rfl rfl (Nat.le_of_ble_eq_true rfl) dX4_init_46 (fun H locs hW => ?_)
  have hW : Wd Z A s.heap ([eo hm 4 [.int 0, .int 0, .int 0, .ref q0, .ref q1, .ref q2, .ref q3, .ref q4, .null], ey Z q0 4000 (fun _ => 0), ea Z q1 4000 (fun _ => 0), ea Z q2 4000 (fun _ => 0), ea Z q3 4000 (fun _ => 0), ea Z q4 4000 (fun _ => 0)]) _ _ := hW
  refine lv_aload_n hx hb dX4_init_49 rfl (lv_at hl 0 rfl) ?_
  refine lv_sipush (v := nI 4000) hx hb dX4_init_50 (by decide) ?_
  refine r_newl (n := 4000) hx hb hts tb_807 hK hW hA (by omega) (by omega) (by omega) dX4_init_53 (fun q5 H hW hsz_q5 hq_q5 => ?_)
  have hW : Wd Z A s.heap ([eo hm 4 [.int 0, .int 0, .int 0, .ref q0, .ref q1, .ref q2, .ref q3, .ref q4, .null], ey Z q0 4000 (fun _ => 0), ea Z q1 4000 (fun _ => 0), ea Z q2 4000 (fun _ => 0), ea Z q3 4000 (fun _ => 0), ea Z q4 4000 (fun _ => 0), el Z q5 4000 (fun _ => 0)]) _ _ := hW
  refine r_putF hx hb hts hown hK hW 0 (v := .ref q5) rfl rfl in_X4 tyX4 tyX4_ok nmX4 8 (by decide) tb_787 (fun _ h => h) rfl hin rfl rfl rfl (Nat.le_of_ble_eq_true rfl) dX4_init_55 (fun H locs hW => ?_)
  have hW : Wd Z A s.heap ([eo hm 4 [.int 0, .int 0, .int 0, .ref q0, .ref q1, .ref q2, .ref q3, .ref q4, .ref q5], ey Z q0 4000 (fun _ => 0), ea Z q1 4000 (fun _ => 0), ea Z q2 4000 (fun _ => 0), ea Z q3 4000 (fun _ => 0), ea Z q4 4000 (fun _ => 0), el Z q5 4000 (fun _ => 0)]) _ _ := hW
  exact e_void hx hb hr hlk hAe hW (by omega) (by omega) dX4_init_58 ⟨rfl, (q0, q1, q2, q3, q4, q5), rfl⟩
