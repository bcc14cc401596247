def sumQ (Z : Zt) (hc : Nat) (x : CS) (σ : Nat → Bool) (w : Nat) (ra rb : Nat → Nat) (cy : Nat) (v : Option Value) (w1 : va_W) : Prop := ∃ (y : CS) (q : Nat) (f : Nat → Nat), v = some (.ref q) ∧ w1 = cw Z hc y ++ [ea Z q (w + 1) f] ∧ stp x σ (5 * w) y ∧ (∀ j, j < w + 1 → f j < xn y) ∧ ∀ τ, gd τ → rn y τ f (w + 1) = rn x τ ra w + rn x τ rb w + (vl x τ cy).toNat
set_option maxHeartbeats 4000000 in
set_option maxRecDepth 100000 in
/-- Reckoner.sum -/
theorem k_sum (l : Launch) (Z : Zt) (hk hc : Nat) (x : CS) (σ : Nat → Bool) (aa ab w wb : Nat) (ra rb : Nat → Nat) (cy : Nat) (hx0 : cok x σ) (hn : xn x + 5 * w < 400000) (hw : w ≤ 64) (hwb : w ≤ wb) (hwb2 : wb ≤ 65) (hra : ∀ j, j < w → ra j < xn x) (hrb : ∀ j, j < w → rb j < xn x) (hcy : cy < xn x) : MC l yX1_sum cX1_sum 8 (some (.array .int)) 5 220 (1 + 4 * (capU (xu x) (xn x + 5 * w) - xu x)) (w + 1 + 512 * (capU (xu x) (xn x + 5 * w) - xu x)) Z (cw Z hc x) (fun H => RO Z (cw Z hc x) (eo hk 1 [.ref hc]) H ∧ RO Z (cw Z hc x) (ea Z aa w ra) H ∧ RO Z (cw Z hc x) (ea Z ab wb rb) H) [.ref hk, .ref aa, .ref ab, .int (nI cy)] (sumQ Z hc x σ w ra rb cy) := by
  refine mc_of (by decide) (Nat.le_of_ble_eq_true rfl) (fun p e s m below meth c ls A hx hb hr hts hown hlk hml hin hK hG hW hA hAe hro hl R hRf hRc hRs hRl => ?_)
  have hl : lv_has ls 8 [(0, .ref hk), (1, .ref aa), (2, .ref ab), (3, .int (nI cy))] := hl
  have hW : Wd Z A s.heap (cw Z hc x ++ []) _ _ := hW
  obtain ⟨KK, hKK⟩ : ∃ k, k = 5 * w := ⟨_, rfl⟩
  rw [← hKK] at hRc hRs
  have loop : ∀ (d i : Nat) (y : CS) (q : Nat) (row : Nat → Nat) (cin : Nat) (H : Heap) (locs : List Loc) (cl sl : Nat) (ls : Array Slot), i + d = w → stp x σ (5 * i) y → cin < xn y → (∀ j, j < i → row j < xn y) → (∀ τ, gd τ → rn y τ row i + (vl y τ cin).toNat * 2 ^ i = rn x τ ra i + rn x τ rb i + (vl x τ cy).toNat) → cl = 1 + 4 * (xu y - xu x) → sl = w + 1 + 512 * (xu y - xu x) → Wd Z A s.heap (cw Z hc y ++ [ea Z q (w + 1) row]) H locs → lv_has ls 8 [(0, .ref hk), (1, .ref aa), (2, .ref ab), (4, .ref q), (5, .int (nI cin)), (6, .int (nI i))] → W p l e R s m ([.ref hk, .ref aa, .ref ab, .int (nI cy)] : List Value).toArray below meth c H locs cl sl (MQ below (QC Z (cw Z hc x) s.heap.size (sumQ Z hc x σ w ra rb cy)) ([.ref hk, .ref aa, .ref ab, .int (nI cy)] : List Value).toArray s (1 + 4 * (capU (xu x) (xn x + 5 * w) - xu x)) (w + 1 + 512 * (capU (xu x) (xn x + 5 * w) - xu x)) A) (F0 m 14 ls []) := by
    intro d
    induction d with
    | zero =>
      intro i y q row cin H locs cl sl ls hid hy hcin hrow hsem hcl hsl hW hl
      have hi : i = w := by omega
      subst hi
      refine lv_iload hx hb dX1_sum_14 (lv_at hl 5 rfl) ?_
      refine lv_aload_n hx hb dX1_sum_16 rfl (lv_at hl 1 rfl) ?_
      refine r_len hx hb hK (hro.2.1.here hAe hW) dX1_sum_17 ?_
      refine n_ge_t (tgt := 95) hx hb (by omega) (by omega) dX1_sum_18 (by decide) ?_
      refine lv_aload hx hb dX1_sum_95 (lv_at hl 3 rfl) ?_
      refine lv_aload_n hx hb dX1_sum_97 rfl (lv_at hl 1 rfl) ?_
      refine r_len hx hb hK (hro.2.1.here hAe hW) dX1_sum_98 ?_
      refine lv_iload hx hb dX1_sum_99 (lv_at hl 4 rfl) ?_
      refine r_ast (i := i) (x := cin) hx hb hK hW 5 rfl (by omega) (by omega) dX1_sum_101 (fun H locs hW => ?_)
      have hW : Wd Z A s.heap (cw Z hc y ++ [ea Z q (i + 1) (up row i cin)]) _ _ := hW
      refine lv_aload hx hb dX1_sum_102 (lv_at hl 3 rfl) ?_
      have hco := hy.cost (j := 0) (K := KK) (by omega)
      have hW : Wd Z A s.heap (cw Z hc y ++ [ea Z q (i + 1) (up row i cin)]) _ _ := hW
      rw [hKK] at hco hRc hRs
      refine e_ref hx hb hr (Or.inr ⟨_, rfl⟩) hlk hAe hW (by have := hy.2.2.2; omega) (by have := hy.2.2.2; omega) dX1_sum_104 ⟨y, q, up row i cin, rfl, rfl, hy, fun j hj => ?_, fun τ hτ => ?_⟩
      · by_cases e : j = i
        · subst e; rw [up_s]; exact hcin
        · rw [up_n _ _ e]; exact hrow j (by omega)
      · rw [rn_up]; exact hsem τ hτ
    | succ d ih =>
      intro i y q row cin H locs cl sl ls hid hy hcin hrow hsem hcl hsl hW hl
      have hra_i := hra i (by omega)
      have hrb_i := hrb i (by omega)
      have hny := hy.2.2.1
      refine lv_iload hx hb dX1_sum_14 (lv_at hl 5 rfl) ?_
      refine lv_aload_n hx hb dX1_sum_16 rfl (lv_at hl 1 rfl) ?_
      refine r_len hx hb hK (hro.2.1.here hAe hW) dX1_sum_17 ?_
      refine n_ge_f (tgt := 95) hx hb (by omega) (by omega) dX1_sum_18 (by decide) ?_
      refine lv_aload_n hx hb dX1_sum_21 rfl (lv_at hl 0 rfl) ?_
      refine r_get hx hb hts hown hK (hro.1.here hAe hW) rfl in_X1 0 (by decide) tb_66 (fun _ h => h) rfl dX1_sum_22 ?_
      refine lv_aload_n hx hb dX1_sum_25 rfl (lv_at hl 1 rfl) ?_
      refine lv_iload hx hb dX1_sum_26 (lv_at hl 5 rfl) ?_
      refine r_ald (i := i) hx hb hK (hro.2.1.here hAe hW) (by omega) (by omega) dX1_sum_28 ?_
      refine lv_aload_n hx hb dX1_sum_29 rfl (lv_at hl 2 rfl) ?_
      refine lv_iload hx hb dX1_sum_30 (lv_at hl 5 rfl) ?_
      refine r_ald (i := i) hx hb hK (hro.2.2.here hAe hW) (by omega) (by omega) dX1_sum_32 ?_
      have hsy := hy
      have hco := hy.cost (j := 1) (K := KK) (by omega)
      refine c_virt (As := [.int (nI (ra i)), .int (nI (rb i))]) (rest := []) (wc := cw Z hc y) (wr := [ea Z q (w + 1) row]) (nl := 0) hx hb hml hown hts hK hG rfl hA hl (k_xor l Z hc y σ (ra i) (rb i) hy.1 (by omega) (by omega) (by omega)) hW trivial (hW.at 0 rfl) rfl rfl tb_368 tb_369 tb_370 tb_3 tb_371 (nA := 2) (by decide +kernel) rfl ⟨by omega, by omega⟩ ⟨by omega, by omega⟩ rfl (Nat.le_of_ble_eq_true rfl) dX1_sum_33 (fun v w1 H1 L1 hp hW hzz hkk hdd => ?_)
      obtain ⟨y1, rfl, rfl, gy1⟩ := hp
      clear hzz hkk hdd
      generalize H1 = H at hW ⊢
      generalize L1 = locs at hW ⊢
      have hW : Wd Z A s.heap (cw Z hc y1 ++ [ea Z q (w + 1) row]) _ _ := hW
      refine W.eq (g2 := F0 m 36 ls [.int (nI (xn y))]) rfl ?_
      have hy1 := hy.g gy1
      have hny1 := hy1.2.2.1
      have huy1 := (stp.of gy1).2.2.2
      refine lv_istore (lv' := [(7, .int (nI (xn y))), (0, .ref hk), (1, .ref aa), (2, .ref ab), (4, .ref q), (5, .int (nI cin)), (6, .int (nI i))]) hx hb dX1_sum_36 hl (by decide) rfl (fun ls hl => ?_)
      refine lv_aload hx hb dX1_sum_38 (lv_at hl 4 rfl) ?_
      refine lv_iload hx hb dX1_sum_40 (lv_at hl 6 rfl) ?_
      refine lv_aload_n hx hb dX1_sum_42 rfl (lv_at hl 1 rfl) ?_
      refine r_get hx hb hts hown hK (hro.1.here hAe hW) rfl in_X1 0 (by decide) tb_66 (fun _ h => h) rfl dX1_sum_43 ?_
      refine lv_iload hx hb dX1_sum_46 (lv_at hl 0 rfl) ?_
      refine lv_iload hx hb dX1_sum_48 (lv_at hl 5 rfl) ?_
      have hsy1 := hy1
      have hco := hy1.cost (j := 1) (K := KK) (by omega)
      refine c_virt (As := [.int (nI (xn y)), .int (nI cin)]) (rest := [.int (nI i), .ref q]) (wc := cw Z hc y1) (wr := [ea Z q (w + 1) row]) (nl := 0) hx hb hml hown hts hK hG rfl hA hl (k_xor l Z hc y1 σ (xn y) cin hy1.1 (by omega) (by omega) (by omega)) hW trivial (hW.at 0 rfl) rfl rfl tb_368 tb_369 tb_370 tb_3 tb_371 (nA := 2) (by decide +kernel) rfl ⟨by omega, by omega⟩ ⟨by omega, by omega⟩ rfl (Nat.le_of_ble_eq_true rfl) dX1_sum_50 (fun v w1 H1 L1 hp hW hzz hkk hdd => ?_)
      obtain ⟨y2, rfl, rfl, gy2⟩ := hp
      clear hzz hkk hdd
      generalize H1 = H at hW ⊢
      generalize L1 = locs at hW ⊢
      have hW : Wd Z A s.heap (cw Z hc y2 ++ [ea Z q (w + 1) row]) _ _ := hW
      refine W.eq (g2 := F0 m 53 ls [.int (nI (xn y1)), .int (nI i), .ref q]) rfl ?_
      have hy2 := hy1.g gy2
      have hny2 := hy2.2.2.1
      have huy2 := (stp.of gy2).2.2.2
      refine r_ast (i := i) (x := (xn y1)) hx hb hK hW 5 rfl (by omega) (by omega) dX1_sum_53 (fun H locs hW => ?_)
      have hW : Wd Z A s.heap (cw Z hc y2 ++ [ea Z q (w + 1) (up row i (xn y1))]) _ _ := hW
      refine lv_aload_n hx hb dX1_sum_54 rfl (lv_at hl 1 rfl) ?_
      refine r_get hx hb hts hown hK (hro.1.here hAe hW) rfl in_X1 0 (by decide) tb_66 (fun _ h => h) rfl dX1_sum_55 ?_
      refine lv_aload_n hx hb dX1_sum_58 rfl (lv_at hl 1 rfl) ?_
      refine r_get hx hb hts hown hK (hro.1.here hAe hW) rfl in_X1 0 (by decide) tb_66 (fun _ h => h) rfl dX1_sum_59 ?_
      refine lv_aload_n hx hb dX1_sum_62 rfl (lv_at hl 2 rfl) ?_
      refine lv_iload hx hb dX1_sum_63 (lv_at hl 6 rfl) ?_
      refine r_ald (i := i) hx hb hK (hro.2.1.here hAe hW) (by omega) (by omega) dX1_sum_65 ?_
      refine lv_aload_n hx hb dX1_sum_66 rfl (lv_at hl 3 rfl) ?_
      refine lv_iload hx hb dX1_sum_67 (lv_at hl 6 rfl) ?_
      refine r_ald (i := i) hx hb hK (hro.2.2.here hAe hW) (by omega) (by omega) dX1_sum_69 ?_
      have hsy2 := hy2
      have hco := hy2.cost (j := 1) (K := KK) (by omega)
      refine c_virt (As := [.int (nI (ra i)), .int (nI (rb i))]) (rest := [.ref hc]) (wc := cw Z hc y2) (wr := [ea Z q (w + 1) (up row i (xn y1))]) (nl := 0) hx hb hml hown hts hK hG rfl hA hl (k_and l Z hc y2 σ (ra i) (rb i) hy2.1 (by omega) (by omega) (by omega)) hW trivial (hW.at 0 rfl) rfl rfl tb_376 tb_377 tb_378 tb_3 tb_379 (nA := 2) (by decide +kernel) rfl ⟨by omega, by omega⟩ ⟨by omega, by omega⟩ rfl (Nat.le_of_ble_eq_true rfl) dX1_sum_70 (fun v w1 H1 L1 hp hW hzz hkk hdd => ?_)
      obtain ⟨y3, rfl, rfl, gy3⟩ := hp
      clear hzz hkk hdd
      generalize H1 = H at hW ⊢
      generalize L1 = locs at hW ⊢
      have hW : Wd Z A s.heap (cw Z hc y3 ++ [ea Z q (w + 1) (up row i (xn y1))]) _ _ := hW
      refine W.eq (g2 := F0 m 73 ls [.int (nI (xn y2)), .ref hc]) rfl ?_
      have hy3 := hy2.g gy3
      have hny3 := hy3.2.2.1
      have huy3 := (stp.of gy3).2.2.2
      refine lv_aload_n hx hb dX1_sum_73 rfl (lv_at hl 1 rfl) ?_
      refine r_get hx hb hts hown hK (hro.1.here hAe hW) rfl in_X1 0 (by decide) tb_66 (fun _ h => h) rfl dX1_sum_74 ?_
      refine lv_iload hx hb dX1_sum_77 (lv_at hl 0 rfl) ?_
      refine lv_iload hx hb dX1_sum_79 (lv_at hl 5 rfl) ?_
      have hsy3 := hy3
      have hco := hy3.cost (j := 1) (K := KK) (by omega)
      refine c_virt (As := [.int (nI (xn y)), .int (nI cin)]) (rest := [.int (nI (xn y2)), .ref hc]) (wc := cw Z hc y3) (wr := [ea Z q (w + 1) (up row i (xn y1))]) (nl := 0) hx hb hml hown hts hK hG rfl hA hl (k_and l Z hc y3 σ (xn y) cin hy3.1 (by omega) (by omega) (by omega)) hW trivial (hW.at 0 rfl) rfl rfl tb_376 tb_377 tb_378 tb_3 tb_379 (nA := 2) (by decide +kernel) rfl ⟨by omega, by omega⟩ ⟨by omega, by omega⟩ rfl (Nat.le_of_ble_eq_true rfl) dX1_sum_81 (fun v w1 H1 L1 hp hW hzz hkk hdd => ?_)
      obtain ⟨y4, rfl, rfl, gy4⟩ := hp
      clear hzz hkk hdd
      generalize H1 = H at hW ⊢
      generalize L1 = locs at hW ⊢
      have hW : Wd Z A s.heap (cw Z hc y4 ++ [ea Z q (w + 1) (up row i (xn y1))]) _ _ := hW
      refine W.eq (g2 := F0 m 84 ls [.int (nI (xn y3)), .int (nI (xn y2)), .ref hc]) rfl ?_
      have hy4 := hy3.g gy4
      have hny4 := hy4.2.2.1
      have huy4 := (stp.of gy4).2.2.2
      have hsy4 := hy4
      have hco := hy4.cost (j := 1) (K := KK) (by omega)
      refine c_virt (As := [.int (nI (xn y2)), .int (nI (xn y3))]) (rest := []) (wc := cw Z hc y4) (wr := [ea Z q (w + 1) (up row i (xn y1))]) (nl := 0) hx hb hml hown hts hK hG rfl hA hl (k_or l Z hc y4 σ (xn y2) (xn y3) hy4.1 (by omega) (by omega) (by omega)) hW trivial (hW.at 0 rfl) rfl rfl tb_380 tb_381 tb_382 tb_3 tb_383 (nA := 2) (by decide +kernel) rfl ⟨by omega, by omega⟩ ⟨by omega, by omega⟩ rfl (Nat.le_of_ble_eq_true rfl) dX1_sum_84 (fun v w1 H1 L1 hp hW hzz hkk hdd => ?_)
      obtain ⟨y5, rfl, rfl, gy5⟩ := hp
      clear hzz hkk hdd
      generalize H1 = H at hW ⊢
      generalize L1 = locs at hW ⊢
      have hW : Wd Z A s.heap (cw Z hc y5 ++ [ea Z q (w + 1) (up row i (xn y1))]) _ _ := hW
      refine W.eq (g2 := F0 m 87 ls [.int (nI (xn y4))]) rfl ?_
      have hy5 := hy4.g gy5
      have hny5 := hy5.2.2.1
      have huy5 := (stp.of gy5).2.2.2
      refine lv_istore (lv' := [(5, .int (nI (xn y4))), (7, .int (nI (xn y))), (0, .ref hk), (1, .ref aa), (2, .ref ab), (4, .ref q), (6, .int (nI i))]) hx hb dX1_sum_87 hl (by decide) rfl (fun ls hl => ?_)
      refine lv_iinc (v := nI (i + 1)) (lv' := [(6, .int (nI (i + 1))), (5, .int (nI (xn y4))), (7, .int (nI (xn y))), (0, .ref hk), (1, .ref aa), (2, .ref ab), (4, .ref q)]) hx hb dX1_sum_89 hl (k := 6) rfl (inc1 _) (by decide) rfl (fun ls hl => ?_)
      refine lv_goto (tgt := 14) hx hb dX1_sum_92 (by decide) ?_
      have k5 := cex.rf y5
      have k4 := gy5.2.2.2.2.1.tr k5
      have k3 := gy4.2.2.2.2.1.tr k4
      have k2 := gy3.2.2.2.2.1.tr k3
      have k1 := gy2.2.2.2.2.1.tr k2
      have k0 := gy1.2.2.2.2.1.tr k1
      refine ih (i + 1) y5 q (up row i (xn y1)) (xn y4) _ _ _ _ ls (by omega) (by have e : 5 * (i + 1) = 5 * i + 1 + 1 + 1 + 1 + 1 := (by omega); rw [e]; exact hy5) (by omega) (fun j hj => ?_) (fun τ hτ => ?_) ?_ ?_ hW (lv_sub hl [3, 4, 5, 6, 1, 0] rfl)
      · by_cases e : j = i
        · subst e; rw [up_s]; omega
        · rw [up_n _ _ e]; have := hrow j (by omega); omega
      · have hx5 : cex x y5 := hy5.2.1
        have G1 := gval gy1 (by decide) k1 (by omega) (by omega) τ
        have G2 := gval gy2 (by decide) k2 (by omega) (by omega) τ
        have G3 := gval gy3 (by decide) k3 (by omega) (by omega) τ
        have G4 := gval gy4 (by decide) k4 (by omega) (by omega) τ
        have G5 := gval gy5 (by decide) k5 (by omega) (by omega) τ
        have hs := hsem τ hτ
        rw [← rn_ex k0 hrow, ← k0.vl hcin] at hs
        rw [rn_up, rn_s, rn_s, G5, G4, G3, G2, G1, c_op3, c_op3, c_op2, c_op1, c_op1, hx5.vl hra_i, hx5.vl hrb_i]
        exact fa_step hs
      · omega
      · omega
  refine lv_aload_n hx hb dX1_sum_0 rfl (lv_at hl 1 rfl) ?_
  refine r_len hx hb hK (hro.2.1.here hAe hW) dX1_sum_1 ?_
  refine lv_iconst (v := nI 1) hx hb dX1_sum_2 (by decide) ?_
  refine n_iadd hx hb dX1_sum_3 ?_
  refine r_newa (n := (w + 1)) hx hb hts tb_65 hK hW hA (by omega) (by omega) (by omega) dX1_sum_4 (fun q H hW hsz_q hq_q => ?_)
  have hW : Wd Z A s.heap (cw Z hc x ++ [ea Z q (w + 1) (fun _ => 0)]) _ _ := hW
  refine lv_astore (lv' := [(4, .ref q), (0, .ref hk), (1, .ref aa), (2, .ref ab), (3, .int (nI cy))]) hx hb dX1_sum_6 hl (by decide) rfl (fun ls hl => ?_)
  refine lv_iload_n hx hb dX1_sum_8 rfl (lv_at hl 4 rfl) ?_
  refine lv_istore (lv' := [(5, .int (nI cy)), (4, .ref q), (0, .ref hk), (1, .ref aa), (2, .ref ab), (3, .int (nI cy))]) hx hb dX1_sum_9 hl (by decide) rfl (fun ls hl => ?_)
  refine lv_iconst (v := nI 0) hx hb dX1_sum_11 (by decide) ?_
  refine lv_istore (lv' := [(6, .int (nI 0)), (5, .int (nI cy)), (4, .ref q), (0, .ref hk), (1, .ref aa), (2, .ref ab), (3, .int (nI cy))]) hx hb dX1_sum_12 hl (by decide) rfl (fun ls hl => ?_)
  refine loop w 0 x q (fun _ => 0) cy _ _ _ _ ls (by omega) (stp.rf hx0) hcy (fun j hj => absurd hj (by omega)) (fun τ hτ => ?_) (by omega) (by omega) hW (lv_sub hl [3, 4, 5, 2, 1, 0] rfl)
  simp [rn, bn]
