theorem RO.step {Z : Zt} {wc w1 : va_W} {q : Nat × va_E} {H H1 : Heap} (h : RO Z wc q H) (hz : H.size ≤ H1.size) (hk : ∀ a : Nat, a < H.size → ¬ va_A wc H.size a → H1[a]? = H[a]?) (hd : va_D (va_A wc H.size) w1) : RO Z w1 q H1 := by
  have hl := h.1.lt
  refine ⟨h.1.kept (hk q.1 hl h.2), fun g => ?_⟩
  rcases g with ⟨k, e, g⟩ | g
  · exact h.2 (hd.2 k (q.1, e) g)
  · omega
theorem RO.step0 {Z : Zt} {wc : va_W} {q : Nat × va_E} {H H1 : Heap} (h : RO Z wc q H) (hz : H.size ≤ H1.size) (hk : ∀ a : Nat, a < H.size → ¬ va_A [] H.size a → H1[a]? = H[a]?) : RO Z wc q H1 := by
  have hl := h.1.lt
  refine ⟨h.1.kept (hk q.1 hl (fun g => ?_)), fun g => ?_⟩
  · rcases g with ⟨k, e, g⟩ | g
    · simp at g
    · omega
  · rcases g with ⟨k, e, g⟩ | g
    · exact h.2 (Or.inl ⟨k, e, g⟩)
    · omega
def sdN (wr : Nat) (sa sb : Bool) (A B w : Nat) : Nat := ngN (if wr = 0 then (sa ^^ sb) else sa) (dvN wr (ngN sa A w) (ngN sb B w) w) w
set_option maxHeartbeats 4000000 in
set_option maxRecDepth 100000 in
/-- Reckoner.dividedWithSign -/
theorem k_dividedWithSign (l : Launch) (Z : Zt) (hk hc : Nat) (x : CS) (σ : Nat → Bool) (aa ab w wr : Nat) (ra rb : Nat → Nat) (hx0 : cok x σ) (hn : xn x + (18 * w + dg w w + (1 - wr)) < 400000) (hw : w ≤ 64) (hw1 : 1 ≤ w) (hwr : wr ≤ 1) (hra : ∀ j, j < w → ra j < xn x) (hrb : ∀ j, j < w → rb j < xn x) : MC l yX1_dividedWithSign cX1_dividedWithSign 7 (some (.array .int)) 7 320 ((15 + 3 * w) + 4 * (capU (xu x) (xn x + (18 * w + dg w w + (1 - wr))) - xu x)) ((208 * w + 3) + 512 * (capU (xu x) (xn x + (18 * w + dg w w + (1 - wr))) - xu x)) Z (cw Z hc x) (fun H => RO Z (cw Z hc x) (eo hk 1 [.ref hc]) H ∧ RO Z (cw Z hc x) (ea Z aa w ra) H ∧ RO Z (cw Z hc x) (ea Z ab w rb) H) [.ref hk, .ref aa, .ref ab, .int (nI wr)] (numQ Z hc x σ (18 * w + dg w w + (1 - wr)) w (fun τ => sdN wr (vl x τ (ra (w - 1))) (vl x τ (rb (w - 1))) (rn x τ ra w) (rn x τ rb w) w)) := by
  refine mc_of (by decide) (Nat.le_of_ble_eq_true rfl) (fun p e s m below meth c ls A hx hb hr hts hown hlk hml hin hK hG hW hA hAe hro hl R hRf hRc hRs hRl => ?_)
  have hl : lv_has ls 7 [(0, .ref hk), (1, .ref aa), (2, .ref ab), (3, .int (nI wr))] := hl
  have hW : Wd Z A s.heap (cw Z hc x ++ []) _ _ := hW
  obtain ⟨KK, hKK⟩ : ∃ k, k = 18 * w + dg w w + (1 - wr) := ⟨_, rfl⟩
  rw [← hKK] at hRc hRs hn
  have hra_t := hra (w - 1) (by omega)
  have hrb_t := hrb (w - 1) (by omega)
  have hx1 := stp.rf hx0
  have hco := hx1.cost (j := 6 * w) (K := KK) (by omega)
  refine lv_aload_n hx hb dX1_dividedWithSign_0 rfl (lv_at hl 1 rfl) ?_
  refine lv_aload_n hx hb dX1_dividedWithSign_1 rfl (lv_at hl 1 rfl) ?_
  refine r_len hx hb hK (hro.2.1.here hAe hW) dX1_dividedWithSign_2 ?_
  refine lv_iconst (v := nI 1) hx hb dX1_dividedWithSign_3 (by decide) ?_
  refine n_isub hx hb (by omega) dX1_dividedWithSign_4 ?_
  refine r_ald (i := (w - 1)) hx hb hK (hro.2.1.here hAe hW) (by omega) (by omega) dX1_dividedWithSign_5 ?_
  refine lv_istore (lv' := [(4, .int (nI (ra (w - 1)))), (0, .ref hk), (1, .ref aa), (2, .ref ab), (3, .int (nI wr))]) hx hb dX1_dividedWithSign_6 hl (by decide) rfl (fun ls hl => ?_)
  refine lv_aload_n hx hb dX1_dividedWithSign_8 rfl (lv_at hl 3 rfl) ?_
  refine lv_aload_n hx hb dX1_dividedWithSign_9 rfl (lv_at hl 3 rfl) ?_
  refine r_len hx hb hK (hro.2.2.here hAe hW) dX1_dividedWithSign_10 ?_
  refine lv_iconst (v := nI 1) hx hb dX1_dividedWithSign_11 (by decide) ?_
  refine n_isub hx hb (by omega) dX1_dividedWithSign_12 ?_
  refine r_ald (i := (w - 1)) hx hb hK (hro.2.2.here hAe hW) (by omega) (by omega) dX1_dividedWithSign_13 ?_
  refine lv_istore (lv' := [(5, .int (nI (rb (w - 1)))), (4, .int (nI (ra (w - 1)))), (0, .ref hk), (1, .ref aa), (2, .ref ab), (3, .int (nI wr))]) hx hb dX1_dividedWithSign_14 hl (by decide) rfl (fun ls hl => ?_)
  refine lv_aload_n hx hb dX1_dividedWithSign_16 rfl (lv_at hl 2 rfl) ?_
  refine lv_aload_n hx hb dX1_dividedWithSign_17 rfl (lv_at hl 2 rfl) ?_
  refine lv_iload hx hb dX1_dividedWithSign_18 (lv_at hl 1 rfl) ?_
  refine lv_aload_n hx hb dX1_dividedWithSign_20 rfl (lv_at hl 3 rfl) ?_
  refine c_virt (As := [.int (nI (ra (w - 1))), .ref aa]) (rest := [.ref hk]) (wc := cw Z hc x) (wr := []) (nl := 0) hx hb hml hown hts hK hG rfl hA hl (k_negatedIf l Z hk hc x σ (ra (w - 1)) aa w ra hx0 (by omega) hw (by omega) hra) hW ⟨RO.pass hro.1 hAe hW, RO.pass hro.2.1 hAe hW⟩ (hro.1.here hAe hW) rfl rfl tb_663 tb_365 tb_366 tb_2 tb_367 (nA := 2) (by decide +kernel) rfl ⟨by omega, by omega⟩ ⟨by omega, by omega⟩ rfl (Nat.le_of_ble_eq_true rfl) dX1_dividedWithSign_21 (fun v w1 H1 L1 hp hW hzz hkk hdd => ?_)
  obtain ⟨y1, q1, f1, rfl, rfl, hs1, hb1, hv1⟩ := hp
  clear hzz hkk hdd
  generalize H1 = H at hW  ⊢
  generalize L1 = locs at hW ⊢
  have hW : Wd Z A s.heap (cw Z hc y1 ++ [ea Z q1 w f1]) _ _ := hW
  refine W.eq (g2 := F0 m 24 ls [.ref q1, .ref hk]) rfl ?_
  have hn1 := hs1.2.2.1
  have hu1 := hs1.2.2.2
  have hco1 := hs1.cost (j := 6 * w) (K := KK) (by omega)
  refine lv_aload_n hx hb dX1_dividedWithSign_24 rfl (lv_at hl 2 rfl) ?_
  refine lv_iload hx hb dX1_dividedWithSign_25 (lv_at hl 0 rfl) ?_
  refine lv_aload_n hx hb dX1_dividedWithSign_27 rfl (lv_at hl 4 rfl) ?_
  refine c_virt (As := [.int (nI (rb (w - 1))), .ref ab]) (rest := [.ref q1, .ref hk]) (wc := cw Z hc y1) (wr := [ea Z q1 w f1]) (nl := 0) hx hb hml hown hts hK hG rfl hA hl (k_negatedIf l Z hk hc y1 σ (rb (w - 1)) ab w rb hs1.1 (by omega) hw (by omega) (fun j hj => by have := hrb j hj; omega)) hW ⟨RO.pass hro.1 hAe hW, RO.pass hro.2.2 hAe hW⟩ (hro.1.here hAe hW) rfl rfl tb_663 tb_365 tb_366 tb_2 tb_367 (nA := 2) (by decide +kernel) rfl ⟨by omega, by omega⟩ ⟨by omega, by omega⟩ rfl (Nat.le_of_ble_eq_true rfl) dX1_dividedWithSign_28 (fun v w1 H1 L1 hp hW hzz hkk hdd => ?_)
  obtain ⟨y2, q2, f2, rfl, rfl, hs2, hb2, hv2⟩ := hp
  clear hzz hkk hdd
  generalize H1 = H at hW  ⊢
  generalize L1 = locs at hW ⊢
  have hW : Wd Z A s.heap (cw Z hc y2 ++ [ea Z q2 w f2, ea Z q1 w f1]) _ _ := hW
  refine W.eq (g2 := F0 m 31 ls [.ref q2, .ref q1, .ref hk]) rfl ?_
  have t2 := hs1.tr hs2
  have hn2 := t2.2.2.1
  have hu2 := hs2.2.2.2
  have hco2 := t2.cost (j := dg w w) (K := KK) (by omega)
  refine lv_iload_n hx hb dX1_dividedWithSign_31 rfl (lv_at hl 5 rfl) ?_
  refine c_virt (As := [.ref q1, .ref q2, .int (nI wr)]) (rest := []) (wc := cw Z hc y2) (wr := [ea Z q2 w f2, ea Z q1 w f1]) (nl := 0) hx hb hml hown hts hK hG rfl hA hl (k_divided l Z hk hc y2 σ q1 q2 w wr f1 f2 t2.1 (by omega) hw hw1 hwr (fun j hj => by have := hb1 j hj; have := hs2.2.1.1; omega) hb2) hW ⟨RO.pass hro.1 hAe hW, RO.loc hW 1 rfl, RO.loc hW 0 rfl⟩ (hro.1.here hAe hW) rfl rfl tb_664 tb_648 tb_649 tb_2 tb_650 (nA := 3) (by decide +kernel) rfl ⟨by omega, by omega⟩ ⟨by omega, by omega⟩ rfl (Nat.le_of_ble_eq_true rfl) dX1_dividedWithSign_32 (fun v w1 H1 L1 hp hW hzz hkk hdd => ?_)
  obtain ⟨y3, q3, f3, rfl, rfl, hs3, hb3, hv3⟩ := hp
  clear hzz hkk hdd
  generalize H1 = H at hW  ⊢
  generalize L1 = locs at hW ⊢
  have hW : Wd Z A s.heap (cw Z hc y3 ++ [ea Z q3 w f3, ea Z q2 w f2, ea Z q1 w f1]) _ _ := hW
  refine W.eq (g2 := F0 m 35 ls [.ref q3]) rfl ?_
  have t3 := t2.tr hs3
  have hn3 := t3.2.2.1
  have hu3 := hs3.2.2.2
  have hcx := hs1.2.1.1
  have hco3 := t3.cost (j := 0) (K := KK) (by omega)
  have val : ∀ τ, gd τ → rn y3 τ f3 w = dvN wr (ngN (vl x τ (ra (w - 1))) (rn x τ ra w) w) (ngN (vl x τ (rb (w - 1))) (rn x τ rb w) w) w := fun τ hτ => by
    rw [hv3 τ hτ]
    dsimp only
    rw [hv2 τ hτ, rn_ex hs2.2.1 hb1, hv1 τ hτ]
    dsimp only
    rw [rn_ex hs1.2.1 hrb, hs1.2.1.vl hrb_t]
  refine lv_astore (lv' := [(6, .ref q3), (5, .int (nI (rb (w - 1)))), (4, .int (nI (ra (w - 1)))), (0, .ref hk), (1, .ref aa), (2, .ref ab), (3, .int (nI wr))]) hx hb dX1_dividedWithSign_35 hl (by decide) rfl (fun ls hl => ?_)
  refine lv_aload_n hx hb dX1_dividedWithSign_37 rfl (lv_at hl 3 rfl) ?_
  refine lv_iload_n hx hb dX1_dividedWithSign_38 rfl (lv_at hl 6 rfl) ?_
  by_cases hw0 : wr = 0
  · refine n_zeq_t (tgt := 47) hx hb (by omega) dX1_dividedWithSign_39 (by decide) ?_
    refine lv_aload_n hx hb dX1_dividedWithSign_47 rfl (lv_at hl 3 rfl) ?_
    refine r_get hx hb hts hown hK (hro.1.here hAe hW) rfl in_X1 0 (by decide) tb_66 (fun _ h => h) rfl dX1_dividedWithSign_48 ?_
    refine lv_iload hx hb dX1_dividedWithSign_51 (lv_at hl 2 rfl) ?_
    refine lv_iload hx hb dX1_dividedWithSign_53 (lv_at hl 1 rfl) ?_
    have hco4 := t3.cost (j := 1) (K := KK) (by omega)
    refine c_virt (As := [.int (nI (ra (w - 1))), .int (nI (rb (w - 1)))]) (rest := [.ref hk]) (wc := cw Z hc y3) (wr := [ea Z q3 w f3, ea Z q2 w f2, ea Z q1 w f1]) (nl := 0) hx hb hml hown hts hK hG rfl hA hl (k_xor l Z hc y3 σ (ra (w - 1)) (rb (w - 1)) t3.1 (by omega) (by omega) (by omega)) hW trivial (hW.at 0 rfl) rfl rfl tb_368 tb_369 tb_370 tb_3 tb_371 (nA := 2) (by decide +kernel) rfl ⟨by omega, by omega⟩ ⟨by omega, by omega⟩ rfl (Nat.le_of_ble_eq_true rfl) dX1_dividedWithSign_55 (fun v w1 H1 L1 hp hW hzz hkk hdd => ?_)
    obtain ⟨y4, rfl, rfl, g4⟩ := hp
    clear hzz hkk hdd
    generalize H1 = H at hW  ⊢
    generalize L1 = locs at hW ⊢
    have hW : Wd Z A s.heap (cw Z hc y4 ++ [ea Z q3 w f3, ea Z q2 w f2, ea Z q1 w f1]) _ _ := hW
    refine W.eq (g2 := F0 m 58 ls [.int (nI (xn y3)), .ref hk]) rfl ?_
    have t4 := t3.g g4
    have hn4 := t4.2.2.1
    have hu4 := (stp.of g4).2.2.2
    have hco5 := t4.cost (j := 6 * w) (K := KK) (by omega)
    refine lv_aload hx hb dX1_dividedWithSign_58 (lv_at hl 0 rfl) ?_
    refine c_virt (As := [.int (nI (xn y3)), .ref q3]) (rest := []) (wc := cw Z hc y4) (wr := [ea Z q3 w f3, ea Z q2 w f2, ea Z q1 w f1]) (nl := 0) hx hb hml hown hts hK hG rfl hA hl (k_negatedIf l Z hk hc y4 σ (xn y3) q3 w f3 t4.1 (by omega) hw (by omega) (fun j hj => by have := hb3 j hj; omega)) hW ⟨RO.pass hro.1 hAe hW, RO.loc hW 0 rfl⟩ (hro.1.here hAe hW) rfl rfl tb_663 tb_365 tb_366 tb_2 tb_367 (nA := 2) (by decide +kernel) rfl ⟨by omega, by omega⟩ ⟨by omega, by omega⟩ rfl (Nat.le_of_ble_eq_true rfl) dX1_dividedWithSign_60 (fun v w1 H1 L1 hp hW hzz hkk hdd => ?_)
    obtain ⟨y5, q5, f5, rfl, rfl, hs5, hb5, hv5⟩ := hp
    clear hzz hkk hdd
    generalize H1 = H at hW  ⊢
    generalize L1 = locs at hW ⊢
    have hW : Wd Z A s.heap (cw Z hc y5 ++ [ea Z q5 w f5, ea Z q3 w f3, ea Z q2 w f2, ea Z q1 w f1]) _ _ := hW
    refine W.eq (g2 := F0 m 63 ls [.ref q5]) rfl ?_
    have t5 := t4.tr hs5
    have hu5 := hs5.2.2.2
    have hu6 := t5.2.2.2
    have hcf := t5.cost (j := 0) (K := KK) (by omega)
    rw [hKK] at hRc hRs hcf
    have hW : Wd Z A s.heap (cw Z hc y5 ++ [ea Z q5 w f5]) _ _ := hW.sub [0, 1, 2, 3, 4, 5] (by decide) rfl
    refine e_ref hx hb hr (Or.inr ⟨_, rfl⟩) hlk hAe hW (by omega) (by omega) dX1_dividedWithSign_63 ⟨y5, q5, f5, rfl, rfl, ?_, hb5, fun τ hτ => ?_⟩
    · have e : 18 * w + dg w w + (1 - wr) = 6 * w + 6 * w + dg w w + 1 + 6 * w := by omega
      rw [e]; exact t5
    · have k4 := cex.rf y4
      rw [hv5 τ hτ]
      dsimp only
      rw [gval g4 (by decide) k4 (by omega) (by omega) τ, c_op3, t4.2.1.vl hra_t, t4.2.1.vl hrb_t, rn_ex g4.2.2.2.2.1 hb3, val τ hτ]
      rw [sdN, if_pos hw0]
  · refine n_zeq_f (tgt := 47) hx hb (by omega) (by omega) dX1_dividedWithSign_39 (by decide) ?_
    have hco5 := t3.cost (j := 6 * w) (K := KK) (by omega)
    refine lv_iload hx hb dX1_dividedWithSign_42 (lv_at hl 2 rfl) ?_
    refine lv_goto (tgt := 58) hx hb dX1_dividedWithSign_44 (by decide) ?_
    refine lv_aload hx hb dX1_dividedWithSign_58 (lv_at hl 0 rfl) ?_
    refine c_virt (As := [.int (nI (ra (w - 1))), .ref q3]) (rest := []) (wc := cw Z hc y3) (wr := [ea Z q3 w f3, ea Z q2 w f2, ea Z q1 w f1]) (nl := 0) hx hb hml hown hts hK hG rfl hA hl (k_negatedIf l Z hk hc y3 σ (ra (w - 1)) q3 w f3 t3.1 (by omega) hw (by omega) (fun j hj => by have := hb3 j hj; omega)) hW ⟨RO.pass hro.1 hAe hW, RO.loc hW 0 rfl⟩ (hro.1.here hAe hW) rfl rfl tb_663 tb_365 tb_366 tb_2 tb_367 (nA := 2) (by decide +kernel) rfl ⟨by omega, by omega⟩ ⟨by omega, by omega⟩ rfl (Nat.le_of_ble_eq_true rfl) dX1_dividedWithSign_60 (fun v w1 H1 L1 hp hW hzz hkk hdd => ?_)
    obtain ⟨y5, q5, f5, rfl, rfl, hs5, hb5, hv5⟩ := hp
    clear hzz hkk hdd
    generalize H1 = H at hW  ⊢
    generalize L1 = locs at hW ⊢
    have hW : Wd Z A s.heap (cw Z hc y5 ++ [ea Z q5 w f5, ea Z q3 w f3, ea Z q2 w f2, ea Z q1 w f1]) _ _ := hW
    refine W.eq (g2 := F0 m 63 ls [.ref q5]) rfl ?_
    have t5 := t3.tr hs5
    have hu5 := hs5.2.2.2
    have hu6 := t5.2.2.2
    have hcf := t5.cost (j := 0) (K := KK) (by omega)
    rw [hKK] at hRc hRs hcf
    have hW : Wd Z A s.heap (cw Z hc y5 ++ [ea Z q5 w f5]) _ _ := hW.sub [0, 1, 2, 3, 4, 5] (by decide) rfl
    refine e_ref hx hb hr (Or.inr ⟨_, rfl⟩) hlk hAe hW (by omega) (by omega) dX1_dividedWithSign_63 ⟨y5, q5, f5, rfl, rfl, ?_, hb5, fun τ hτ => ?_⟩
    · have e : 18 * w + dg w w + (1 - wr) = 6 * w + 6 * w + dg w w + 6 * w := by omega
      rw [e]; exact t5
    · rw [hv5 τ hτ]
      dsimp only
      rw [t3.2.1.vl hra_t, val τ hτ]
      rw [sdN, if_neg hw0]
set_option maxHeartbeats 4000000 in
set_option maxRecDepth 100000 in
/-- Reckoner.shifted -/
theorem k_shifted (l : Launch) (Z : Zt) (hk hc : Nat) (x : CS) (σ : Nat → Bool) (aa ab w upw fl : Nat) (ra rb : Nat → Nat) (hx0 : cok x σ) (hn : xn x + (sg w w + 3 * w) < 400000) (hw : w ≤ 64) (hw1 : 1 ≤ w) (hu : upw ≤ 1) (hfl : fl < xn x) (hra : ∀ j, j < w → ra j < xn x) (hrb : ∀ j, j < w → rb j < xn x) : MC l yX1_shifted cX1_shifted 10 (some (.array .int)) 6 300 ((2 * w + 2) + 4 * (capU (xu x) (xn x + (sg w w + 3 * w)) - xu x)) ((128 * w + 2 * w) + 512 * (capU (xu x) (xn x + (sg w w + 3 * w)) - xu x)) Z (cw Z hc x) (fun H => RO Z (cw Z hc x) (eo hk 1 [.ref hc]) H ∧ RO Z (cw Z hc x) (ea Z aa w ra) H ∧ RO Z (cw Z hc x) (ea Z ab w rb) H) [.ref hk, .ref aa, .ref ab, .int (nI upw), .int (nI fl)] (rowQ Z hc x σ (sg w w + 3 * w) w (fun τ j => vl x τ (mvd ra w (rn x τ rb w) upw fl j))) := by
  refine mc_of (by decide) (Nat.le_of_ble_eq_true rfl) (fun p e s m below meth c ls A hx hb hr hts hown hlk hml hin hK hG hW hA hAe hro hl R hRf hRc hRs hRl => ?_)
  have hl : lv_has ls 10 [(0, .ref hk), (1, .ref aa), (2, .ref ab), (3, .int (nI upw)), (4, .int (nI fl))] := hl
  have hW : Wd Z A s.heap (cw Z hc x ++ []) _ _ := hW
  obtain ⟨KK, hKK⟩ : ∃ k, k = sg w w + 3 * w := ⟨_, rfl⟩
  rw [← hKK] at hRc hRs hn
  have loop : ∀ (d i m2 : Nat) (y : CS) (qr bd : Nat) (row : Nat → Nat) (wx : va_W) (H : Heap) (locs : List Loc) (cl sl : Nat) (ls : Array Slot), i + d = w → m2 ≤ i → (m2 < i → w ≤ 2 ^ m2) → 2 ^ m2 < 128 → stp x σ (sg w i) y → bd < xn y → (∀ j, j < w → row j < xn y) → (∀ τ, gd τ → (∀ j, j < w → vl y τ (row j) = vl x τ (mvd ra w (rn x τ rb m2) upw fl j)) ∧ vl y τ bd = !decide (rn x τ rb i = rn x τ rb m2)) → cl ≤ 2 * i + 4 * (xu y - xu x) → sl ≤ 128 * i + 512 * (xu y - xu x) → RO Z (cw Z hc y) (ea Z qr w row) H → Wd Z A s.heap (cw Z hc y ++ wx) H locs → lv_has ls 10 [(0, .ref hk), (2, .ref ab), (3, .int (nI upw)), (4, .int (nI fl)), (5, .int (nI w)), (6, .ref qr), (7, .int (nI bd)), (8, .int (nI (2 ^ m2))), (9, .int (nI i))] → W p l e R s m ([.ref hk, .ref aa, .ref ab, .int (nI upw), .int (nI fl)] : List Value).toArray below meth c H locs cl sl (MQ below (QC Z (cw Z hc x) s.heap.size (rowQ Z hc x σ (sg w w + 3 * w) w (fun τ j => vl x τ (mvd ra w (rn x τ rb w) upw fl j)))) ([.ref hk, .ref aa, .ref ab, .int (nI upw), .int (nI fl)] : List Value).toArray s ((2 * w + 2) + 4 * (capU (xu x) (xn x + (sg w w + 3 * w)) - xu x)) ((128 * w + 2 * w) + 512 * (capU (xu x) (xn x + (sg w w + 3 * w)) - xu x)) A) (F0 m 16 ls []) := by
    intro d
    induction d with
    | zero =>
      intro i m2 y qr bd row wx H locs cl sl ls hid hmi hmw hm7 hy hbd hrow hsem hcl hsl hR hW hl
      have hny := hy.2.2.1
      have huy := hy.2.2.2
      have hux : xu x ≤ xu y := by rw [huy]; exact capU_le _ _
      have hxy := hy.2.1.1
      have hi : i = w := by omega
      rw [hi] at hy hsem hcl hsl hmw hmi hny huy
      have hco := hy.cost (j := 3 * w) (K := KK) (by omega)
      refine lv_iload hx hb dX1_shifted_16 (lv_at hl 8 rfl) ?_
      refine lv_iload hx hb dX1_shifted_18 (lv_at hl 4 rfl) ?_
      refine n_ge_t (tgt := 82) hx hb (by omega) (by omega) dX1_shifted_20 (by decide) ?_
      refine lv_aload_n hx hb dX1_shifted_82 rfl (lv_at hl 0 rfl) ?_
      refine lv_iload hx hb dX1_shifted_83 (lv_at hl 6 rfl) ?_
      refine lv_aload hx hb dX1_shifted_85 (lv_at hl 5 rfl) ?_
      refine lv_iload hx hb dX1_shifted_87 (lv_at hl 4 rfl) ?_
      refine lv_iload_n hx hb dX1_shifted_89 rfl (lv_at hl 2 rfl) ?_
      refine lv_iload hx hb dX1_shifted_90 (lv_at hl 3 rfl) ?_
      refine c_stat (As := [.ref qr, .int (nI w), .int (nI upw), .int (nI fl)]) (rest := [.int (nI bd), .ref hk]) (wc := []) (wr := cw Z hc y ++ wx) hx hb hml hown hts hK hG rfl hA hl (k_moved l Z qr w w upw fl row (by omega) (by omega) (by omega)) hW hR.1 tb_652 tb_653 tb_2 tb_654 (nA := 4) (by decide +kernel) rfl ⟨by omega, by omega⟩ ⟨by omega, by omega⟩ rfl (Nat.le_of_ble_eq_true rfl) dX1_shifted_92 (fun v w1 H1 L1 hp hW hzz hkk hdd => ?_)
      obtain ⟨q9, mv, rfl, rfl, hmv⟩ := hp
      have hR := hR.step0 hzz hkk
      clear hzz hkk hdd
      generalize H1 = H at hW hR ⊢
      generalize L1 = locs at hW ⊢
      have hW : Wd Z A s.heap ([ea Z q9 w mv] ++ cw Z hc y ++ wx) _ _ := hW
      refine W.eq (g2 := F0 m 95 ls [.ref q9, .int (nI bd), .ref hk]) rfl ?_
      have hW : Wd Z A s.heap (cw Z hc y ++ ([ea Z q9 w mv] ++ wx)) _ _ := Wd.rot (w1 := [ea Z q9 w mv]) (wc := cw Z hc y) (wr := wx) hW
      have hmb : ∀ j, j < w → mv j < xn y := fun j hj => by rw [hmv j hj]; exact mvd_lt hj (by omega) hrow
      refine lv_aload hx hb dX1_shifted_95 (lv_at hl 5 rfl) ?_
      refine c_virt (As := [.int (nI bd), .ref q9, .ref qr]) (rest := []) (wc := cw Z hc y) (wr := [ea Z q9 w mv] ++ wx) (nl := 0) hx hb hml hown hts hK hG rfl hA hl (k_picked l Z hk hc y σ bd q9 qr w w mv row hy.1 (by omega) hw (Nat.le_refl _) (by omega) hbd hmb hrow) hW ⟨RO.pass hro.1 hAe hW, RO.loc hW 0 rfl, hR⟩ (hro.1.here hAe hW) rfl rfl tb_655 tb_656 tb_657 tb_2 tb_658 (nA := 3) (by decide +kernel) rfl ⟨by omega, by omega⟩ ⟨by omega, by omega⟩ rfl (Nat.le_of_ble_eq_true rfl) dX1_shifted_97 (fun v w1 H1 L1 hp hW hzz hkk hdd => ?_)
      obtain ⟨y2, q10, r2, rfl, rfl, hs2, hb2, hv2⟩ := hp
      clear hzz hkk hdd
      generalize H1 = H at hW  ⊢
      generalize L1 = locs at hW ⊢
      have hW : Wd Z A s.heap (cw Z hc y2 ++ [ea Z q10 w r2, ea Z q9 w mv] ++ wx) _ _ := hW
      refine W.eq (g2 := F0 m 100 ls [.ref q10]) rfl ?_
      have hW : Wd Z A s.heap (cw Z hc y2 ++ [ea Z q10 w r2]) _ _ := Wd.pre (wc := cw Z hc y2 ++ [ea Z q10 w r2]) (wr := [ea Z q9 w mv] ++ wx) hW
      have hu2 := hs2.2.2.2
      have t2 := hy.tr hs2
      rw [hKK] at hRc hRs hco
      refine e_ref hx hb hr (Or.inr ⟨_, rfl⟩) hlk hAe hW (by omega) (by omega) dX1_shifted_100 ⟨y2, q10, r2, rfl, rfl, t2, hb2, fun τ hτ j hj => ?_⟩
      obtain ⟨s1, s2⟩ := hsem τ hτ
      rw [hv2 τ hτ j hj]
      dsimp only
      rw [s2]
      by_cases q : rn x τ rb w = rn x τ rb m2
      · rw [decide_eq_true q, s1 j hj, q]; rfl
      · rw [decide_eq_false q]
        have hm : m2 < w := by
          rcases Nat.lt_or_ge m2 w with h | h
          · exact h
          · exact absurd (by rw [show m2 = w by omega]) q
        have hbig := rn_big (by omega) q
        have hmw' := hmw hm
        show vl y τ (mv j) = _
        rw [hmv j hj, mvd_far hj (Nat.le_refl w), mvd_far hj (by omega), hy.2.1.vl hfl]
    | succ d ih =>
      intro i m2 y qr bd row wx H locs cl sl ls hid hmi hmw hm7 hy hbd hrow hsem hcl hsl hR hW hl
      have hny := hy.2.2.1
      have huy := hy.2.2.2
      have hux : xu x ≤ xu y := by rw [huy]; exact capU_le _ _
      have hxy := hy.2.1.1
      have hrb_i := hrb i (by omega)
      have hsg := sg_mono w (i := i + 1) (j := w) (by omega)
      rw [sg_s] at hsg
      refine lv_iload hx hb dX1_shifted_16 (lv_at hl 8 rfl) ?_
      refine lv_iload hx hb dX1_shifted_18 (lv_at hl 4 rfl) ?_
      refine n_ge_f (tgt := 82) hx hb (by omega) (by omega) dX1_shifted_20 (by decide) ?_
      refine lv_iload hx hb dX1_shifted_23 (lv_at hl 7 rfl) ?_
      refine lv_iload hx hb dX1_shifted_25 (lv_at hl 4 rfl) ?_
      by_cases hst : 2 ^ m2 < w
      · refine n_ge_f (tgt := 61) hx hb (by omega) (by omega) dX1_shifted_27 (by decide) ?_
        have hmi2 : m2 = i := by
          rcases Nat.lt_or_ge m2 i with h | h
          · have := hmw h; omega
          · omega
        subst hmi2
        rw [if_pos hst] at hsg
        have hco := hy.cost (j := 3 * w) (K := KK) (by omega)
        refine lv_aload_n hx hb dX1_shifted_30 rfl (lv_at hl 0 rfl) ?_
        refine lv_aload_n hx hb dX1_shifted_31 rfl (lv_at hl 1 rfl) ?_
        refine lv_iload hx hb dX1_shifted_32 (lv_at hl 8 rfl) ?_
        refine r_ald (i := m2) hx hb hK (hro.2.2.here hAe hW) (by omega) (by omega) dX1_shifted_34 ?_
        refine lv_aload hx hb dX1_shifted_35 (lv_at hl 5 rfl) ?_
        refine lv_iload hx hb dX1_shifted_37 (lv_at hl 7 rfl) ?_
        refine lv_iload_n hx hb dX1_shifted_39 rfl (lv_at hl 2 rfl) ?_
        refine lv_iload hx hb dX1_shifted_40 (lv_at hl 3 rfl) ?_
        refine c_stat (As := [.ref qr, .int (nI (2 ^ m2)), .int (nI upw), .int (nI fl)]) (rest := [.int (nI (rb m2)), .ref hk]) (wc := []) (wr := cw Z hc y ++ wx) hx hb hml hown hts hK hG rfl hA hl (k_moved l Z qr w (2 ^ m2) upw fl row (by omega) (by omega) (by omega)) hW hR.1 tb_652 tb_653 tb_2 tb_654 (nA := 4) (by decide +kernel) rfl ⟨by omega, by omega⟩ ⟨by omega, by omega⟩ rfl (Nat.le_of_ble_eq_true rfl) dX1_shifted_42 (fun v w1 H1 L1 hp hW hzz hkk hdd => ?_)
        obtain ⟨q9, mv, rfl, rfl, hmv⟩ := hp
        have hR := hR.step0 hzz hkk
        clear hzz hkk hdd
        generalize H1 = H at hW hR ⊢
        generalize L1 = locs at hW ⊢
        have hW : Wd Z A s.heap ([ea Z q9 w mv] ++ cw Z hc y ++ wx) _ _ := hW
        refine W.eq (g2 := F0 m 45 ls [.ref q9, .int (nI (rb m2)), .ref hk]) rfl ?_
        have hW : Wd Z A s.heap (cw Z hc y ++ ([ea Z q9 w mv] ++ wx)) _ _ := Wd.rot (w1 := [ea Z q9 w mv]) (wc := cw Z hc y) (wr := wx) hW
        have hmb : ∀ j, j < w → mv j < xn y := fun j hj => by rw [hmv j hj]; exact mvd_lt hj (by omega) hrow
        refine lv_aload hx hb dX1_shifted_45 (lv_at hl 5 rfl) ?_
        refine c_virt (As := [.int (nI (rb m2)), .ref q9, .ref qr]) (rest := []) (wc := cw Z hc y) (wr := [ea Z q9 w mv] ++ wx) (nl := 0) hx hb hml hown hts hK hG rfl hA hl (k_picked l Z hk hc y σ (rb m2) q9 qr w w mv row hy.1 (by omega) hw (Nat.le_refl _) (by omega) (by omega) hmb hrow) hW ⟨RO.pass hro.1 hAe hW, RO.loc hW 0 rfl, hR⟩ (hro.1.here hAe hW) rfl rfl tb_655 tb_656 tb_657 tb_2 tb_658 (nA := 3) (by decide +kernel) rfl ⟨by omega, by omega⟩ ⟨by omega, by omega⟩ rfl (Nat.le_of_ble_eq_true rfl) dX1_shifted_47 (fun v w1 H1 L1 hp hW hzz hkk hdd => ?_)
        obtain ⟨y2, q10, r2, rfl, rfl, hs2, hb2, hv2⟩ := hp
        clear hzz hkk hdd
        generalize H1 = H at hW  ⊢
        generalize L1 = locs at hW ⊢
        have hW : Wd Z A s.heap (cw Z hc y2 ++ [ea Z q10 w r2, ea Z q9 w mv] ++ wx) _ _ := hW
        refine W.eq (g2 := F0 m 50 ls [.ref q10]) rfl ?_
        have hu2 := hs2.2.2.2
        have t2 := hy.tr hs2
        have hxy2 := hs2.2.1.1
        have hR2 : RO Z (cw Z hc y2) (ea Z q10 w r2) _ := RO.loc (wc := cw Z hc y2) (wr := [ea Z q10 w r2] ++ ([ea Z q9 w mv] ++ wx)) hW 0 rfl
        refine lv_astore (lv' := [(6, .ref q10), (0, .ref hk), (2, .ref ab), (3, .int (nI upw)), (4, .int (nI fl)), (5, .int (nI w)), (7, .int (nI bd)), (8, .int (nI (2 ^ m2))), (9, .int (nI m2))]) hx hb dX1_shifted_50 hl (by decide) rfl (fun ls hl => ?_)
        refine lv_iload hx hb dX1_shifted_52 (lv_at hl 7 rfl) ?_
        refine lv_iconst (v := nI 2) hx hb dX1_shifted_54 (by decide) ?_
        refine n_imul hx hb dX1_shifted_55 ?_
        refine lv_istore (lv' := [(8, .int (nI ((2 ^ m2) * 2))), (6, .ref q10), (0, .ref hk), (2, .ref ab), (3, .int (nI upw)), (4, .int (nI fl)), (5, .int (nI w)), (7, .int (nI bd)), (9, .int (nI m2))]) hx hb dX1_shifted_56 hl (by decide) rfl (fun ls hl => ?_)
        refine lv_goto (tgt := 76) hx hb dX1_shifted_58 (by decide) ?_
        refine lv_iinc (v := nI (m2 + 1)) (lv' := [(9, .int (nI (m2 + 1))), (8, .int (nI ((2 ^ m2) * 2))), (6, .ref q10), (0, .ref hk), (2, .ref ab), (3, .int (nI upw)), (4, .int (nI fl)), (5, .int (nI w)), (7, .int (nI bd))]) hx hb dX1_shifted_76 hl (k := 8) rfl (inc1 _) (by decide) rfl (fun ls hl => ?_)
        refine lv_goto (tgt := 16) hx hb dX1_shifted_79 (by decide) ?_
        rw [show 2 ^ m2 * 2 = 2 ^ (m2 + 1) from (Nat.pow_succ 2 m2).symm] at hl
        have hl : lv_has ls 10 [(9, .int (nI (m2 + 1))), (8, .int (nI (2 ^ (m2 + 1)))), (6, .ref q10), (0, .ref hk), (2, .ref ab), (3, .int (nI upw)), (4, .int (nI fl)), (5, .int (nI w)), (7, .int (nI bd))] := hl
        refine ih (m2 + 1) (m2 + 1) y2 q10 bd r2 ([ea Z q10 w r2] ++ ([ea Z q9 w mv] ++ wx)) _ _ _ _ ls (by omega) (Nat.le_refl _) (fun h => absurd h (by omega)) (by rw [Nat.pow_succ]; omega) (by rw [sg_s, if_pos hst]; exact t2) (by omega) hb2 (fun τ hτ => ⟨fun j hj => ?_, ?_⟩) ?_ ?_ hR2 hW (lv_sub hl [3, 4, 5, 6, 7, 2, 8, 1, 0] rfl)
        · obtain ⟨s1, s2⟩ := hsem τ hτ
          rw [hv2 τ hτ j hj]
          dsimp only
          rw [hy.2.1.vl hrb_i, rn_s]
          cases vl x τ (rb m2)
          · rw [if_neg (by decide), s1 j hj, Bool.toNat_false, Nat.zero_mul, Nat.add_zero]
          · rw [if_pos rfl, hmv j hj, Bool.toNat_true, Nat.one_mul]
            exact mvd_two ra row (vl y τ) (vl x τ) hj (hy.2.1.vl hfl) s1
        · rw [hs2.2.1.vl hbd, (hsem τ hτ).2, decide_eq_true rfl, decide_eq_true rfl]
        · omega
        · omega
      · refine n_ge_t (tgt := 61) hx hb (by omega) (by omega) dX1_shifted_27 (by decide) ?_
        have hli : m2 ≤ i := hmi
        have hpw : w ≤ 2 ^ i := Nat.le_trans (by omega) (Nat.pow_le_pow_right (by decide) hli)
        rw [if_neg (by omega)] at hsg
        have hco := hy.cost (j := 1) (K := KK) (by omega)
        refine lv_aload_n hx hb dX1_shifted_61 rfl (lv_at hl 0 rfl) ?_
        refine r_get hx hb hts hown hK (hro.1.here hAe hW) rfl in_X1 0 (by decide) tb_66 (fun _ h => h) rfl dX1_shifted_62 ?_
        refine lv_iload hx hb dX1_shifted_65 (lv_at hl 6 rfl) ?_
        refine lv_aload_n hx hb dX1_shifted_67 rfl (lv_at hl 1 rfl) ?_
        refine lv_iload hx hb dX1_shifted_68 (lv_at hl 8 rfl) ?_
        refine r_ald (i := i) hx hb hK (hro.2.2.here hAe hW) (by omega) (by omega) dX1_shifted_70 ?_
        refine c_virt (As := [.int (nI bd), .int (nI (rb i))]) (rest := []) (wc := cw Z hc y) (wr := wx) (nl := 0) hx hb hml hown hts hK hG rfl hA hl (k_or l Z hc y σ bd (rb i) hy.1 (by omega) (by omega) (by omega)) hW trivial (hW.at 0 rfl) rfl rfl tb_380 tb_381 tb_382 tb_3 tb_383 (nA := 2) (by decide +kernel) rfl ⟨by omega, by omega⟩ ⟨by omega, by omega⟩ rfl (Nat.le_of_ble_eq_true rfl) dX1_shifted_71 (fun v w1 H1 L1 hp hW hzz hkk hdd => ?_)
        obtain ⟨y2, rfl, rfl, g2⟩ := hp
        have hR := hR.step hzz hkk hdd
        clear hzz hkk hdd
        generalize H1 = H at hW hR ⊢
        generalize L1 = locs at hW ⊢
        have hW : Wd Z A s.heap (cw Z hc y2 ++ wx) _ _ := hW
        refine W.eq (g2 := F0 m 74 ls [.int (nI (xn y))]) rfl ?_
        have t2 := hy.g g2
        have hn2 := t2.2.2.1
        have hu2 := (stp.of g2).2.2.2
        have k2 := cex.rf y2
        have k0 := g2.2.2.2.2.1
        refine lv_istore (lv' := [(7, .int (nI (xn y))), (0, .ref hk), (2, .ref ab), (3, .int (nI upw)), (4, .int (nI fl)), (5, .int (nI w)), (6, .ref qr), (8, .int (nI (2 ^ m2))), (9, .int (nI i))]) hx hb dX1_shifted_74 hl (by decide) rfl (fun ls hl => ?_)
        refine lv_iinc (v := nI (i + 1)) (lv' := [(9, .int (nI (i + 1))), (7, .int (nI (xn y))), (0, .ref hk), (2, .ref ab), (3, .int (nI upw)), (4, .int (nI fl)), (5, .int (nI w)), (6, .ref qr), (8, .int (nI (2 ^ m2)))]) hx hb dX1_shifted_76 hl (k := 8) rfl (inc1 _) (by decide) rfl (fun ls hl => ?_)
        refine lv_goto (tgt := 16) hx hb dX1_shifted_79 (by decide) ?_
        refine ih (i + 1) m2 y2 qr (xn y) row wx _ _ _ _ ls (by omega) (by omega) (fun _ => by omega) hm7 (by rw [sg_s, if_neg (by omega)]; exact t2) (by omega) (fun j hj => by have := hrow j hj; omega) (fun τ hτ => ⟨fun j hj => ?_, ?_⟩) ?_ ?_ hR hW (lv_sub hl [2, 3, 4, 5, 6, 7, 1, 8, 0] rfl)
        · rw [k0.vl (hrow j hj)]; exact (hsem τ hτ).1 j hj
        · rw [gval g2 (by decide) k2 (by omega) (by omega) τ, c_op2, k0.vl hbd, (hsem τ hτ).2, t2.2.1.vl hrb_i, rn_s]
          have hmn := rn_mono x τ rb hmi
          have hpp := Nat.two_pow_pos i
          cases vl x τ (rb i)
          · rw [Bool.toNat_false, Nat.zero_mul, Nat.add_zero, Bool.or_false]
          · rw [Bool.toNat_true, Nat.one_mul, decide_eq_false (by omega : ¬ rn x τ rb i + 2 ^ i = rn x τ rb m2), Bool.or_true]; rfl
        · omega
        · omega
  refine lv_aload_n hx hb dX1_shifted_0 rfl (lv_at hl 1 rfl) ?_
  refine r_len hx hb hK (hro.2.1.here hAe hW) dX1_shifted_1 ?_
  refine lv_istore (lv' := [(5, .int (nI w)), (0, .ref hk), (1, .ref aa), (2, .ref ab), (3, .int (nI upw)), (4, .int (nI fl))]) hx hb dX1_shifted_2 hl (by decide) rfl (fun ls hl => ?_)
  refine lv_aload_n hx hb dX1_shifted_4 rfl (lv_at hl 2 rfl) ?_
  refine lv_astore (lv' := [(6, .ref aa), (5, .int (nI w)), (0, .ref hk), (1, .ref aa), (2, .ref ab), (3, .int (nI upw)), (4, .int (nI fl))]) hx hb dX1_shifted_5 hl (by decide) rfl (fun ls hl => ?_)
  refine lv_iconst (v := nI 0) hx hb dX1_shifted_7 (by decide) ?_
  refine lv_istore (lv' := [(7, .int (nI 0)), (6, .ref aa), (5, .int (nI w)), (0, .ref hk), (1, .ref aa), (2, .ref ab), (3, .int (nI upw)), (4, .int (nI fl))]) hx hb dX1_shifted_8 hl (by decide) rfl (fun ls hl => ?_)
  refine lv_iconst (v := nI 1) hx hb dX1_shifted_10 (by decide) ?_
  refine lv_istore (lv' := [(8, .int (nI 1)), (7, .int (nI 0)), (6, .ref aa), (5, .int (nI w)), (0, .ref hk), (1, .ref aa), (2, .ref ab), (3, .int (nI upw)), (4, .int (nI fl))]) hx hb dX1_shifted_11 hl (by decide) rfl (fun ls hl => ?_)
  refine lv_iconst (v := nI 0) hx hb dX1_shifted_13 (by decide) ?_
  refine lv_istore (lv' := [(9, .int (nI 0)), (8, .int (nI 1)), (7, .int (nI 0)), (6, .ref aa), (5, .int (nI w)), (0, .ref hk), (1, .ref aa), (2, .ref ab), (3, .int (nI upw)), (4, .int (nI fl))]) hx hb dX1_shifted_14 hl (by decide) rfl (fun ls hl => ?_)
  refine loop w 0 0 x aa 0 ra [] _ _ _ _ ls (by omega) (Nat.le_refl _) (fun h => absurd h (by omega)) (by decide) (stp.rf hx0) (by have := hx0.1; omega) hra (fun τ hτ => ⟨fun j hj => ?_, ?_⟩) (by omega) (by omega) (RO.pass hro.2.1 hAe hW) hW (lv_sub hl [5, 7, 8, 9, 4, 3, 2, 1, 0] rfl)
  · rw [show rn x τ rb 0 = 0 from rfl, mvd_0 hj]
  · rw [vl_0 hx0 hτ, decide_eq_true rfl]; rfl
