def wt2 (k w : Nat) : Nat := match k with
  | 0 => 4 * w | 1 => 4 * w | 2 => 4 * w | 3 => 10 * w | 4 => 10 * w | 5 => 14 * w * w | 6 => 16 * w * w + 32 * w | 7 => 16 * w * w + 32 * w | 8 => 16 * w * w + 80 * w | 9 => 16 * w * w + 80 * w | _ => 30 * w
def G2 (k w : Nat) : Nat := match k with
  | 0 => 1 * w | 1 => 1 * w | 2 => 1 * w | 3 => 5 * w | 4 => 1 * w + 5 * w | 5 => pg w w | 6 => dg w w | 7 => dg w w | 8 => 18 * w + dg w w + (1 - 0) | 9 => 18 * w + dg w w + (1 - 1) | _ => sg w w + 3 * w
def sl2 (k w : Nat) : Nat := match k with
  | 0 => 5 * w + 10 | 1 => 5 * w + 10 | 2 => 5 * w + 10 | 3 => 5 * w + 10 | 4 => 5 * w + 10 | _ => 220 * w + 10
def V2 (x : CS) (ra rb : Nat → Nat) (w k : Nat) (τ : Nat → Bool) : Nat := match k with
  | 0 => bn (fun j => c_op 1 (vl x τ (ra j)) (vl x τ (rb j))) w
  | 1 => bn (fun j => c_op 2 (vl x τ (ra j)) (vl x τ (rb j))) w
  | 2 => bn (fun j => c_op 3 (vl x τ (ra j)) (vl x τ (rb j))) w
  | 3 => (rn x τ ra w + rn x τ rb w) % 2 ^ w
  | 4 => (rn x τ ra w + (2 ^ w - 1 - rn x τ rb w) + 1) % 2 ^ w
  | 5 => (rn x τ ra w * rn x τ rb w) % 2 ^ w
  | 6 => dvN 0 (rn x τ ra w) (rn x τ rb w) w
  | 7 => dvN 1 (rn x τ ra w) (rn x τ rb w) w
  | 8 => sdN 0 (vl x τ (ra (w - 1))) (vl x τ (rb (w - 1))) (rn x τ ra w) (rn x τ rb w) w
  | 9 => sdN 1 (vl x τ (ra (w - 1))) (vl x τ (rb (w - 1))) (rn x τ ra w) (rn x τ rb w) w
  | 10 => bn (fun j => vl x τ (mvd ra w (rn x τ rb w) 1 0 j)) w
  | 11 => bn (fun j => vl x τ (mvd ra w (rn x τ rb w) 0 0 j)) w
  | _ => bn (fun j => vl x τ (mvd ra w (rn x τ rb w) 0 (ra (w - 1)) j)) w
theorem G2_wt : ∀ k, k < 13 → ∀ w, w < 65 → 1 ≤ w → G2 k w ≤ wt2 k w := by decide +kernel
def GC (k w : Nat) : Nat := match k with
  | 0 => 2 * w + 1 | 1 => 6 * w + 1 | 2 => 6 * w | 3 => 1 + 1 + 6 * w + 1 | _ => 1 + 1 + 6 * w
def tn (x : CS) (τ : Nat → Bool) (r : Nat → Nat) (w : Nat) : Nat := bn (fun j => if j = w - 1 then !vl x τ (r j) else vl x τ (r j)) w
def VC (x : CS) (ra rb : Nat → Nat) (w k : Nat) (τ : Nat → Bool) : Bool := match k with
  | 0 => decide (rn x τ ra w = rn x τ rb w)
  | 1 => !decide (rn x τ rb w ≤ rn x τ ra w)
  | 2 => decide (rn x τ ra w ≤ rn x τ rb w)
  | 3 => !decide (tn x τ rb w ≤ tn x τ ra w)
  | _ => decide (tn x τ ra w ≤ tn x τ rb w)
set_option maxHeartbeats 4000000 in
set_option maxRecDepth 100000 in
theorem k_weightOfTwo (l : Launch) (Z : Zt) (k w : Nat) (hk : k ≤ 12) (hw : w ≤ 64) : MC l yX3_weightOfTwo cX3_weightOfTwo 2 (some .int) 0 0 (0) (0) Z ([]) (fun _ => True) [.int (nI k), .int (nI w)] (fun v w1 => v = some (.int (nI (wt2 k w))) ∧ w1 = []) := by
  refine mc_of (by decide) (Nat.le_of_ble_eq_true rfl) (fun p e s m below meth c ls A hx hb hr hts hown hlk hml hin hK hG hW hA hAe hro hl R hRf hRc hRs hRl => ?_)
  have hl : lv_has ls 2 [(0, .int (nI k)), (1, .int (nI w))] := hl
  rcases (show k = 0 ∨ k = 1 ∨ k = 2 ∨ k = 3 ∨ k = 4 ∨ k = 5 ∨ k = 6 ∨ k = 7 ∨ k = 8 ∨ k = 9 ∨ k = 10 ∨ k = 11 ∨ k = 12 by omega) with rfl | rfl | rfl | rfl | rfl | rfl | rfl | rfl | rfl | rfl | rfl | rfl | rfl
  · refine lv_iload_n hx hb dX3_weightOfTwo_0 rfl (lv_at hl 0 rfl) ?_
    refine lv_tableIn (off := 55) (tgt := 56) hx hb dX3_weightOfTwo_1 (by decide) (by decide) (by decide) (by decide) ?_
    refine lv_iconst (v := nI 4) hx hb dX3_weightOfTwo_56 (by decide) ?_
    refine lv_iload_n hx hb dX3_weightOfTwo_57 rfl (lv_at hl 1 rfl) ?_
    refine n_imul hx hb dX3_weightOfTwo_58 ?_
    exact e_int hx hb hr hlk hAe hW (by omega) (by omega) dX3_weightOfTwo_59 ⟨rfl, rfl⟩
  · refine lv_iload_n hx hb dX3_weightOfTwo_0 rfl (lv_at hl 0 rfl) ?_
    refine lv_tableIn (off := 55) (tgt := 56) hx hb dX3_weightOfTwo_1 (by decide) (by decide) (by decide) (by decide) ?_
    refine lv_iconst (v := nI 4) hx hb dX3_weightOfTwo_56 (by decide) ?_
    refine lv_iload_n hx hb dX3_weightOfTwo_57 rfl (lv_at hl 1 rfl) ?_
    refine n_imul hx hb dX3_weightOfTwo_58 ?_
    exact e_int hx hb hr hlk hAe hW (by omega) (by omega) dX3_weightOfTwo_59 ⟨rfl, rfl⟩
  · refine lv_iload_n hx hb dX3_weightOfTwo_0 rfl (lv_at hl 0 rfl) ?_
    refine lv_tableIn (off := 55) (tgt := 56) hx hb dX3_weightOfTwo_1 (by decide) (by decide) (by decide) (by decide) ?_
    refine lv_iconst (v := nI 4) hx hb dX3_weightOfTwo_56 (by decide) ?_
    refine lv_iload_n hx hb dX3_weightOfTwo_57 rfl (lv_at hl 1 rfl) ?_
    refine n_imul hx hb dX3_weightOfTwo_58 ?_
    exact e_int hx hb hr hlk hAe hW (by omega) (by omega) dX3_weightOfTwo_59 ⟨rfl, rfl⟩
  · refine lv_iload_n hx hb dX3_weightOfTwo_0 rfl (lv_at hl 0 rfl) ?_
    refine lv_tableIn (off := 59) (tgt := 60) hx hb dX3_weightOfTwo_1 (by decide) (by decide) (by decide) (by decide) ?_
    refine lv_bipush (v := nI 10) hx hb dX3_weightOfTwo_60 (by decide) ?_
    refine lv_iload_n hx hb dX3_weightOfTwo_62 rfl (lv_at hl 1 rfl) ?_
    refine n_imul hx hb dX3_weightOfTwo_63 ?_
    exact e_int hx hb hr hlk hAe hW (by omega) (by omega) dX3_weightOfTwo_64 ⟨rfl, rfl⟩
  · refine lv_iload_n hx hb dX3_weightOfTwo_0 rfl (lv_at hl 0 rfl) ?_
    refine lv_tableIn (off := 59) (tgt := 60) hx hb dX3_weightOfTwo_1 (by decide) (by decide) (by decide) (by decide) ?_
    refine lv_bipush (v := nI 10) hx hb dX3_weightOfTwo_60 (by decide) ?_
    refine lv_iload_n hx hb dX3_weightOfTwo_62 rfl (lv_at hl 1 rfl) ?_
    refine n_imul hx hb dX3_weightOfTwo_63 ?_
    exact e_int hx hb hr hlk hAe hW (by omega) (by omega) dX3_weightOfTwo_64 ⟨rfl, rfl⟩
  · refine lv_iload_n hx hb dX3_weightOfTwo_0 rfl (lv_at hl 0 rfl) ?_
    refine lv_tableIn (off := 64) (tgt := 65) hx hb dX3_weightOfTwo_1 (by decide) (by decide) (by decide) (by decide) ?_
    refine lv_bipush (v := nI 14) hx hb dX3_weightOfTwo_65 (by decide) ?_
    refine lv_iload_n hx hb dX3_weightOfTwo_67 rfl (lv_at hl 1 rfl) ?_
    refine n_imul hx hb dX3_weightOfTwo_68 ?_
    refine lv_iload_n hx hb dX3_weightOfTwo_69 rfl (lv_at hl 1 rfl) ?_
    refine n_imul hx hb dX3_weightOfTwo_70 ?_
    exact e_int hx hb hr hlk hAe hW (by omega) (by omega) dX3_weightOfTwo_71 ⟨rfl, rfl⟩
  · refine lv_iload_n hx hb dX3_weightOfTwo_0 rfl (lv_at hl 0 rfl) ?_
    refine lv_tableIn (off := 71) (tgt := 72) hx hb dX3_weightOfTwo_1 (by decide) (by decide) (by decide) (by decide) ?_
    refine lv_bipush (v := nI 16) hx hb dX3_weightOfTwo_72 (by decide) ?_
    refine lv_iload_n hx hb dX3_weightOfTwo_74 rfl (lv_at hl 1 rfl) ?_
    refine n_imul hx hb dX3_weightOfTwo_75 ?_
    refine lv_iload_n hx hb dX3_weightOfTwo_76 rfl (lv_at hl 1 rfl) ?_
    refine n_imul hx hb dX3_weightOfTwo_77 ?_
    refine lv_bipush (v := nI 32) hx hb dX3_weightOfTwo_78 (by decide) ?_
    refine lv_iload_n hx hb dX3_weightOfTwo_80 rfl (lv_at hl 1 rfl) ?_
    refine n_imul hx hb dX3_weightOfTwo_81 ?_
    refine n_iadd hx hb dX3_weightOfTwo_82 ?_
    exact e_int hx hb hr hlk hAe hW (by omega) (by omega) dX3_weightOfTwo_83 ⟨rfl, rfl⟩
  · refine lv_iload_n hx hb dX3_weightOfTwo_0 rfl (lv_at hl 0 rfl) ?_
    refine lv_tableIn (off := 71) (tgt := 72) hx hb dX3_weightOfTwo_1 (by decide) (by decide) (by decide) (by decide) ?_
    refine lv_bipush (v := nI 16) hx hb dX3_weightOfTwo_72 (by decide) ?_
    refine lv_iload_n hx hb dX3_weightOfTwo_74 rfl (lv_at hl 1 rfl) ?_
    refine n_imul hx hb dX3_weightOfTwo_75 ?_
    refine lv_iload_n hx hb dX3_weightOfTwo_76 rfl (lv_at hl 1 rfl) ?_
    refine n_imul hx hb dX3_weightOfTwo_77 ?_
    refine lv_bipush (v := nI 32) hx hb dX3_weightOfTwo_78 (by decide) ?_
    refine lv_iload_n hx hb dX3_weightOfTwo_80 rfl (lv_at hl 1 rfl) ?_
    refine n_imul hx hb dX3_weightOfTwo_81 ?_
    refine n_iadd hx hb dX3_weightOfTwo_82 ?_
    exact e_int hx hb hr hlk hAe hW (by omega) (by omega) dX3_weightOfTwo_83 ⟨rfl, rfl⟩
  · refine lv_iload_n hx hb dX3_weightOfTwo_0 rfl (lv_at hl 0 rfl) ?_
    refine lv_tableIn (off := 83) (tgt := 84) hx hb dX3_weightOfTwo_1 (by decide) (by decide) (by decide) (by decide) ?_
    refine lv_bipush (v := nI 16) hx hb dX3_weightOfTwo_84 (by decide) ?_
    refine lv_iload_n hx hb dX3_weightOfTwo_86 rfl (lv_at hl 1 rfl) ?_
    refine n_imul hx hb dX3_weightOfTwo_87 ?_
    refine lv_iload_n hx hb dX3_weightOfTwo_88 rfl (lv_at hl 1 rfl) ?_
    refine n_imul hx hb dX3_weightOfTwo_89 ?_
    refine lv_bipush (v := nI 80) hx hb dX3_weightOfTwo_90 (by decide) ?_
    refine lv_iload_n hx hb dX3_weightOfTwo_92 rfl (lv_at hl 1 rfl) ?_
    refine n_imul hx hb dX3_weightOfTwo_93 ?_
    refine n_iadd hx hb dX3_weightOfTwo_94 ?_
    exact e_int hx hb hr hlk hAe hW (by omega) (by omega) dX3_weightOfTwo_95 ⟨rfl, rfl⟩
  · refine lv_iload_n hx hb dX3_weightOfTwo_0 rfl (lv_at hl 0 rfl) ?_
    refine lv_tableIn (off := 83) (tgt := 84) hx hb dX3_weightOfTwo_1 (by decide) (by decide) (by decide) (by decide) ?_
    refine lv_bipush (v := nI 16) hx hb dX3_weightOfTwo_84 (by decide) ?_
    refine lv_iload_n hx hb dX3_weightOfTwo_86 rfl (lv_at hl 1 rfl) ?_
    refine n_imul hx hb dX3_weightOfTwo_87 ?_
    refine lv_iload_n hx hb dX3_weightOfTwo_88 rfl (lv_at hl 1 rfl) ?_
    refine n_imul hx hb dX3_weightOfTwo_89 ?_
    refine lv_bipush (v := nI 80) hx hb dX3_weightOfTwo_90 (by decide) ?_
    refine lv_iload_n hx hb dX3_weightOfTwo_92 rfl (lv_at hl 1 rfl) ?_
    refine n_imul hx hb dX3_weightOfTwo_93 ?_
    refine n_iadd hx hb dX3_weightOfTwo_94 ?_
    exact e_int hx hb hr hlk hAe hW (by omega) (by omega) dX3_weightOfTwo_95 ⟨rfl, rfl⟩
  · refine lv_iload_n hx hb dX3_weightOfTwo_0 rfl (lv_at hl 0 rfl) ?_
    refine lv_tableOut (tgt := 96) hx hb dX3_weightOfTwo_1 (by decide) (by decide) ?_
    refine lv_bipush (v := nI 30) hx hb dX3_weightOfTwo_96 (by decide) ?_
    refine lv_iload_n hx hb dX3_weightOfTwo_98 rfl (lv_at hl 1 rfl) ?_
    refine n_imul hx hb dX3_weightOfTwo_99 ?_
    exact e_int hx hb hr hlk hAe hW (by omega) (by omega) dX3_weightOfTwo_100 ⟨rfl, rfl⟩
  · refine lv_iload_n hx hb dX3_weightOfTwo_0 rfl (lv_at hl 0 rfl) ?_
    refine lv_tableOut (tgt := 96) hx hb dX3_weightOfTwo_1 (by decide) (by decide) ?_
    refine lv_bipush (v := nI 30) hx hb dX3_weightOfTwo_96 (by decide) ?_
    refine lv_iload_n hx hb dX3_weightOfTwo_98 rfl (lv_at hl 1 rfl) ?_
    refine n_imul hx hb dX3_weightOfTwo_99 ?_
    exact e_int hx hb hr hlk hAe hW (by omega) (by omega) dX3_weightOfTwo_100 ⟨rfl, rfl⟩
  · refine lv_iload_n hx hb dX3_weightOfTwo_0 rfl (lv_at hl 0 rfl) ?_
    refine lv_tableOut (tgt := 96) hx hb dX3_weightOfTwo_1 (by decide) (by decide) ?_
    refine lv_bipush (v := nI 30) hx hb dX3_weightOfTwo_96 (by decide) ?_
    refine lv_iload_n hx hb dX3_weightOfTwo_98 rfl (lv_at hl 1 rfl) ?_
    refine n_imul hx hb dX3_weightOfTwo_99 ?_
    exact e_int hx hb hr hlk hAe hW (by omega) (by omega) dX3_weightOfTwo_100 ⟨rfl, rfl⟩
set_option maxHeartbeats 4000000 in
set_option maxRecDepth 100000 in
/-- VectorBench.reckonTwo -/
theorem k_reckonTwo (l : Launch) (Z : Zt) (hb0 hk hc hm wg : Nat) (x : CS) (σ : Nat → Bool) (k aa ab w : Nat) (ra rb : Nat → Nat) (hx0 : cok x σ) (hk12 : k ≤ 12) (hn : xn x + G2 k w < 400000) (hw : w ≤ 64) (hw1 : 1 ≤ w) (hra : ∀ j, j < w → ra j < xn x) (hrb : ∀ j, j < w → rb j < xn x) : MC l yX3_reckonTwo cX3_reckonTwo 4 (some (.array .int)) 9 400 (20 + 3 * w + 4 * (capU (xu x) (xn x + G2 k w) - xu x)) (sl2 k w + 512 * (capU (xu x) (xn x + G2 k w) - xu x)) Z (cw Z hc x) (fun H => RO Z (cw Z hc x) (bo hb0 hk hc hm wg) H ∧ RO Z (cw Z hc x) (eo hk 1 [.ref hc]) H ∧ RO Z (cw Z hc x) (ea Z aa w ra) H ∧ RO Z (cw Z hc x) (ea Z ab w rb) H) [.ref hb0, .int (nI k), .ref aa, .ref ab] (numQ Z hc x σ (G2 k w) w (V2 x ra rb w k)) := by
  refine mc_of (by decide) (Nat.le_of_ble_eq_true rfl) (fun p e s m below meth c ls A hx hb hr hts hown hlk hml hin hK hG hW hA hAe hro hl R hRf hRc hRs hRl => ?_)
  have hl : lv_has ls 4 [(0, .ref hb0), (1, .int (nI k)), (2, .ref aa), (3, .ref ab)] := hl
  have hx1 := stp.rf hx0
  have hx2 := hx0.1
  have hW : Wd Z A s.heap (cw Z hc x ++ []) _ _ := hW
  rcases (show k = 0 ∨ k = 1 ∨ k = 2 ∨ k = 3 ∨ k = 4 ∨ k = 5 ∨ k = 6 ∨ k = 7 ∨ k = 8 ∨ k = 9 ∨ k = 10 ∨ k = 11 ∨ k = 12 by omega) with rfl | rfl | rfl | rfl | rfl | rfl | rfl | rfl | rfl | rfl | rfl | rfl | rfl
  · have hGe : G2 0 w = 1 * w := rfl
    rw [hGe] at hRc hRs hn
    have hco := hx1.cost (j := 1 * w) (K := 1 * w) (by omega)
    have hSl : sl2 0 w = 5 * w + 10 := rfl
    rw [hSl] at hRs
    refine lv_iload_n hx hb dX3_reckonTwo_0 rfl (lv_at hl 1 rfl) ?_
    refine lv_tableIn (off := 63) (tgt := 64) hx hb dX3_reckonTwo_1 (by decide) (by decide) (by decide) (by decide) ?_
    refine lv_aload_n hx hb dX3_reckonTwo_64 rfl (lv_at hl 0 rfl) ?_
    refine r_get hx hb hts hown hK (hro.1.here hAe hW) rfl in_X3 0 (by decide) tb_97 (fun _ h => h) rfl dX3_reckonTwo_65 ?_
    refine lv_iconst (v := nI 1) hx hb dX3_reckonTwo_68 (by decide) ?_
    refine lv_aload_n hx hb dX3_reckonTwo_69 rfl (lv_at hl 2 rfl) ?_
    refine lv_aload_n hx hb dX3_reckonTwo_70 rfl (lv_at hl 3 rfl) ?_
    refine c_virt (As := [.int (nI 1), .ref aa, .ref ab]) (rest := []) (wc := cw Z hc x) (wr := []) (nl := 0) hx hb hml hown hts hK hG rfl hA hl (k_joined l Z hk hc x σ 1 aa ab w ra rb hx0 (by omega) hw (by decide) (by decide) hra hrb) hW ⟨RO.pass hro.2.1 hAe hW, RO.pass hro.2.2.1 hAe hW, RO.pass hro.2.2.2 hAe hW⟩ (hro.2.1.here hAe hW) rfl rfl tb_407 tb_408 tb_409 tb_2 tb_410 (nA := 3) (by decide +kernel) rfl ⟨by omega, by omega⟩ ⟨by omega, by omega⟩ rfl (Nat.le_of_ble_eq_true rfl) dX3_reckonTwo_71 (fun v w1 H1 L1 hp hW hzz hkk hdd => ?_)
    obtain ⟨y, q, f, rfl, rfl, hst, hfb, hfs⟩ := hp
    clear hzz hkk hdd
    generalize H1 = H at hW  ⊢
    generalize L1 = locs at hW ⊢
    have hW : Wd Z A s.heap (cw Z hc y ++ [ea Z q w f]) _ _ := hW
    refine W.eq (g2 := F0 m 74 ls [.ref q]) rfl ?_
    have hu := hst.2.2.2
    refine e_ref hx hb hr (Or.inr ⟨_, rfl⟩) hlk hAe hW (by rw [hGe]; omega) (by rw [hGe, hSl]; omega) dX3_reckonTwo_74 ⟨y, q, f, rfl, rfl, by rw [hGe]; exact hst, hfb, fun τ hτ => ?_⟩
    exact bn_congr (hfs τ hτ)
  · have hGe : G2 1 w = 1 * w := rfl
    rw [hGe] at hRc hRs hn
    have hco := hx1.cost (j := 1 * w) (K := 1 * w) (by omega)
    have hSl : sl2 1 w = 5 * w + 10 := rfl
    rw [hSl] at hRs
    refine lv_iload_n hx hb dX3_reckonTwo_0 rfl (lv_at hl 1 rfl) ?_
    refine lv_tableIn (off := 74) (tgt := 75) hx hb dX3_reckonTwo_1 (by decide) (by decide) (by decide) (by decide) ?_
    refine lv_aload_n hx hb dX3_reckonTwo_75 rfl (lv_at hl 0 rfl) ?_
    refine r_get hx hb hts hown hK (hro.1.here hAe hW) rfl in_X3 0 (by decide) tb_97 (fun _ h => h) rfl dX3_reckonTwo_76 ?_
    refine lv_iconst (v := nI 2) hx hb dX3_reckonTwo_79 (by decide) ?_
    refine lv_aload_n hx hb dX3_reckonTwo_80 rfl (lv_at hl 2 rfl) ?_
    refine lv_aload_n hx hb dX3_reckonTwo_81 rfl (lv_at hl 3 rfl) ?_
    refine c_virt (As := [.int (nI 2), .ref aa, .ref ab]) (rest := []) (wc := cw Z hc x) (wr := []) (nl := 0) hx hb hml hown hts hK hG rfl hA hl (k_joined l Z hk hc x σ 2 aa ab w ra rb hx0 (by omega) hw (by decide) (by decide) hra hrb) hW ⟨RO.pass hro.2.1 hAe hW, RO.pass hro.2.2.1 hAe hW, RO.pass hro.2.2.2 hAe hW⟩ (hro.2.1.here hAe hW) rfl rfl tb_407 tb_408 tb_409 tb_2 tb_410 (nA := 3) (by decide +kernel) rfl ⟨by omega, by omega⟩ ⟨by omega, by omega⟩ rfl (Nat.le_of_ble_eq_true rfl) dX3_reckonTwo_82 (fun v w1 H1 L1 hp hW hzz hkk hdd => ?_)
    obtain ⟨y, q, f, rfl, rfl, hst, hfb, hfs⟩ := hp
    clear hzz hkk hdd
    generalize H1 = H at hW  ⊢
    generalize L1 = locs at hW ⊢
    have hW : Wd Z A s.heap (cw Z hc y ++ [ea Z q w f]) _ _ := hW
    refine W.eq (g2 := F0 m 85 ls [.ref q]) rfl ?_
    have hu := hst.2.2.2
    refine e_ref hx hb hr (Or.inr ⟨_, rfl⟩) hlk hAe hW (by rw [hGe]; omega) (by rw [hGe, hSl]; omega) dX3_reckonTwo_85 ⟨y, q, f, rfl, rfl, by rw [hGe]; exact hst, hfb, fun τ hτ => ?_⟩
    exact bn_congr (hfs τ hτ)
  · have hGe : G2 2 w = 1 * w := rfl
    rw [hGe] at hRc hRs hn
    have hco := hx1.cost (j := 1 * w) (K := 1 * w) (by omega)
    have hSl : sl2 2 w = 5 * w + 10 := rfl
    rw [hSl] at hRs
    refine lv_iload_n hx hb dX3_reckonTwo_0 rfl (lv_at hl 1 rfl) ?_
    refine lv_tableIn (off := 85) (tgt := 86) hx hb dX3_reckonTwo_1 (by decide) (by decide) (by decide) (by decide) ?_
    refine lv_aload_n hx hb dX3_reckonTwo_86 rfl (lv_at hl 0 rfl) ?_
    refine r_get hx hb hts hown hK (hro.1.here hAe hW) rfl in_X3 0 (by decide) tb_97 (fun _ h => h) rfl dX3_reckonTwo_87 ?_
    refine lv_iconst (v := nI 3) hx hb dX3_reckonTwo_90 (by decide) ?_
    refine lv_aload_n hx hb dX3_reckonTwo_91 rfl (lv_at hl 2 rfl) ?_
    refine lv_aload_n hx hb dX3_reckonTwo_92 rfl (lv_at hl 3 rfl) ?_
    refine c_virt (As := [.int (nI 3), .ref aa, .ref ab]) (rest := []) (wc := cw Z hc x) (wr := []) (nl := 0) hx hb hml hown hts hK hG rfl hA hl (k_joined l Z hk hc x σ 3 aa ab w ra rb hx0 (by omega) hw (by decide) (by decide) hra hrb) hW ⟨RO.pass hro.2.1 hAe hW, RO.pass hro.2.2.1 hAe hW, RO.pass hro.2.2.2 hAe hW⟩ (hro.2.1.here hAe hW) rfl rfl tb_407 tb_408 tb_409 tb_2 tb_410 (nA := 3) (by decide +kernel) rfl ⟨by omega, by omega⟩ ⟨by omega, by omega⟩ rfl (Nat.le_of_ble_eq_true rfl) dX3_reckonTwo_93 (fun v w1 H1 L1 hp hW hzz hkk hdd => ?_)
    obtain ⟨y, q, f, rfl, rfl, hst, hfb, hfs⟩ := hp
    clear hzz hkk hdd
    generalize H1 = H at hW  ⊢
    generalize L1 = locs at hW ⊢
    have hW : Wd Z A s.heap (cw Z hc y ++ [ea Z q w f]) _ _ := hW
    refine W.eq (g2 := F0 m 96 ls [.ref q]) rfl ?_
    have hu := hst.2.2.2
    refine e_ref hx hb hr (Or.inr ⟨_, rfl⟩) hlk hAe hW (by rw [hGe]; omega) (by rw [hGe, hSl]; omega) dX3_reckonTwo_96 ⟨y, q, f, rfl, rfl, by rw [hGe]; exact hst, hfb, fun τ hτ => ?_⟩
    exact bn_congr (hfs τ hτ)
  · have hGe : G2 3 w = 5 * w := rfl
    rw [hGe] at hRc hRs hn
    have hco := hx1.cost (j := 5 * w) (K := 5 * w) (by omega)
    have hSl : sl2 3 w = 5 * w + 10 := rfl
    rw [hSl] at hRs
    refine lv_iload_n hx hb dX3_reckonTwo_0 rfl (lv_at hl 1 rfl) ?_
    refine lv_tableIn (off := 96) (tgt := 97) hx hb dX3_reckonTwo_1 (by decide) (by decide) (by decide) (by decide) ?_
    refine lv_aload_n hx hb dX3_reckonTwo_97 rfl (lv_at hl 0 rfl) ?_
    refine r_get hx hb hts hown hK (hro.1.here hAe hW) rfl in_X3 0 (by decide) tb_97 (fun _ h => h) rfl dX3_reckonTwo_98 ?_
    refine lv_aload_n hx hb dX3_reckonTwo_101 rfl (lv_at hl 2 rfl) ?_
    refine lv_aload_n hx hb dX3_reckonTwo_102 rfl (lv_at hl 3 rfl) ?_
    refine lv_iconst (v := nI 0) hx hb dX3_reckonTwo_103 (by decide) ?_
    refine c_virt (As := [.ref aa, .ref ab, .int (nI 0)]) (rest := []) (wc := cw Z hc x) (wr := []) (nl := 0) hx hb hml hown hts hK hG rfl hA hl (k_sum l Z hk hc x σ aa ab w w ra rb 0 hx0 (by omega) hw (Nat.le_refl _) (by omega) hra hrb (by omega)) hW ⟨RO.pass hro.2.1 hAe hW, RO.pass hro.2.2.1 hAe hW, RO.pass hro.2.2.2 hAe hW⟩ (hro.2.1.here hAe hW) rfl rfl tb_412 tb_373 tb_374 tb_2 tb_375 (nA := 3) (by decide +kernel) rfl ⟨by omega, by omega⟩ ⟨by omega, by omega⟩ rfl (Nat.le_of_ble_eq_true rfl) dX3_reckonTwo_104 (fun v w1 H1 L1 hp hW hzz hkk hdd => ?_)
    obtain ⟨y, q1, f1, rfl, rfl, hst, hfb, hfs⟩ := hp
    clear hzz hkk hdd
    generalize H1 = H at hW  ⊢
    generalize L1 = locs at hW ⊢
    have hW : Wd Z A s.heap (cw Z hc y ++ [ea Z q1 (w + 1) f1]) _ _ := hW
    refine W.eq (g2 := F0 m 107 ls [.ref q1]) rfl ?_
    have hu1 := hst.2.2.2
    refine c_stat (As := [.ref q1]) (rest := []) (wc := []) (wr := cw Z hc y ++ [ea Z q1 (w + 1) f1]) hx hb hml hown hts hK hG rfl hA hl (k_withoutCarry l Z q1 w f1 (by omega)) hW (hW.at 5 rfl) tb_413 tb_385 tb_2 tb_386 (nA := 1) (by decide +kernel) rfl ⟨by omega, by omega⟩ ⟨by omega, by omega⟩ rfl (Nat.le_of_ble_eq_true rfl) dX3_reckonTwo_107 (fun v w1 H1 L1 hp hW hzz hkk hdd => ?_)
    obtain ⟨q, f, rfl, rfl, hf⟩ := hp
    clear hzz hkk hdd
    generalize H1 = H at hW  ⊢
    generalize L1 = locs at hW ⊢
    have hW : Wd Z A s.heap ([ea Z q w f] ++ cw Z hc y ++ [ea Z q1 (w + 1) f1]) _ _ := hW
    refine W.eq (g2 := F0 m 110 ls [.ref q]) rfl ?_
    have hW : Wd Z A s.heap (cw Z hc y ++ [ea Z q w f]) _ _ := hW.sub [1, 2, 3, 4, 5, 0] (by decide) rfl
    refine e_ref hx hb hr (Or.inr ⟨_, rfl⟩) hlk hAe hW (by rw [hGe]; omega) (by rw [hGe, hSl]; omega) dX3_reckonTwo_110 ⟨y, q, f, rfl, rfl, by rw [hGe]; exact hst, fun j hj => (by rw [hf j hj]; exact hfb j (by omega)), fun τ hτ => ?_⟩
    have hs := hfs τ hτ
    rw [rn_s, vl_0 hx0 hτ] at hs
    rw [rn_congr hf, low_mod hs (rn_lt _ _ _ _)]
    rfl
  · have hGe : G2 4 w = 1 * w + 5 * w := rfl
    rw [hGe] at hRc hRs hn
    have hco := hx1.cost (j := 1 * w + 5 * w) (K := 1 * w + 5 * w) (by omega)
    have hSl : sl2 4 w = 5 * w + 10 := rfl
    rw [hSl] at hRs
    refine lv_iload_n hx hb dX3_reckonTwo_0 rfl (lv_at hl 1 rfl) ?_
    refine lv_tableIn (off := 110) (tgt := 111) hx hb dX3_reckonTwo_1 (by decide) (by decide) (by decide) (by decide) ?_
    refine lv_aload_n hx hb dX3_reckonTwo_111 rfl (lv_at hl 0 rfl) ?_
    refine r_get hx hb hts hown hK (hro.1.here hAe hW) rfl in_X3 0 (by decide) tb_97 (fun _ h => h) rfl dX3_reckonTwo_112 ?_
    refine lv_aload_n hx hb dX3_reckonTwo_115 rfl (lv_at hl 2 rfl) ?_
    refine lv_aload_n hx hb dX3_reckonTwo_116 rfl (lv_at hl 0 rfl) ?_
    refine r_get hx hb hts hown hK (hro.1.here hAe hW) rfl in_X3 0 (by decide) tb_97 (fun _ h => h) rfl dX3_reckonTwo_117 ?_
    refine lv_aload_n hx hb dX3_reckonTwo_120 rfl (lv_at hl 3 rfl) ?_
    have hcoi := hx1.cost (j := 1 * w) (K := 1 * w + 5 * w) (by omega)
    refine c_virt (As := [.ref ab]) (rest := [.ref aa, .ref hk]) (wc := cw Z hc x) (wr := []) (nl := 0) hx hb hml hown hts hK hG rfl hA hl (k_inverted l Z hk hc x σ ab w rb hx0 (by omega) hw hrb) hW ⟨RO.pass hro.2.1 hAe hW, RO.pass hro.2.2.2 hAe hW⟩ (hro.2.1.here hAe hW) rfl rfl tb_356 tb_357 tb_358 tb_2 tb_359 (nA := 1) (by decide +kernel) rfl ⟨by omega, by omega⟩ ⟨by omega, by omega⟩ rfl (Nat.le_of_ble_eq_true rfl) dX3_reckonTwo_121 (fun v w1 H1 L1 hp hW hzz hkk hdd => ?_)
    obtain ⟨y0, q0, f0, rfl, rfl, hs0, hf0b, hf0⟩ := hp
    clear hzz hkk hdd
    generalize H1 = H at hW  ⊢
    generalize L1 = locs at hW ⊢
    have hW : Wd Z A s.heap (cw Z hc y0 ++ [ea Z q0 w f0]) _ _ := hW
    refine W.eq (g2 := F0 m 124 ls [.ref q0, .ref aa, .ref hk]) rfl ?_
    have hu0 := hs0.2.2.2
    have hn0 := hs0.2.2.1
    have hco0 := hs0.cost (j := 5 * w) (K := 1 * w + 5 * w) (by omega)
    refine lv_iconst (v := nI 1) hx hb dX3_reckonTwo_124 (by decide) ?_
    refine c_virt (As := [.ref aa, .ref q0, .int (nI 1)]) (rest := []) (wc := cw Z hc y0) (wr := [ea Z q0 w f0]) (nl := 0) hx hb hml hown hts hK hG rfl hA hl (k_sum l Z hk hc y0 σ aa q0 w w ra f0 1 hs0.1 (by omega) hw (Nat.le_refl _) (by omega) (fun j hj => by have := hra j hj; omega) hf0b (by have := hs0.1.1; omega)) hW ⟨RO.pass hro.2.1 hAe hW, RO.pass hro.2.2.1 hAe hW, RO.loc hW 0 rfl⟩ (hro.2.1.here hAe hW) rfl rfl tb_412 tb_373 tb_374 tb_2 tb_375 (nA := 3) (by decide +kernel) rfl ⟨by omega, by omega⟩ ⟨by omega, by omega⟩ rfl (Nat.le_of_ble_eq_true rfl) dX3_reckonTwo_125 (fun v w1 H1 L1 hp hW hzz hkk hdd => ?_)
    obtain ⟨y, q1, f1, rfl, rfl, hs1, hfb, hfs⟩ := hp
    clear hzz hkk hdd
    generalize H1 = H at hW  ⊢
    generalize L1 = locs at hW ⊢
    have hW : Wd Z A s.heap (cw Z hc y ++ [ea Z q1 (w + 1) f1, ea Z q0 w f0]) _ _ := hW
    refine W.eq (g2 := F0 m 128 ls [.ref q1]) rfl ?_
    have hst := hs0.tr hs1
    have hu1 := hs1.2.2.2
    refine c_stat (As := [.ref q1]) (rest := []) (wc := []) (wr := cw Z hc y ++ [ea Z q1 (w + 1) f1, ea Z q0 w f0]) hx hb hml hown hts hK hG rfl hA hl (k_withoutCarry l Z q1 w f1 (by omega)) hW (hW.at 5 rfl) tb_413 tb_385 tb_2 tb_386 (nA := 1) (by decide +kernel) rfl ⟨by omega, by omega⟩ ⟨by omega, by omega⟩ rfl (Nat.le_of_ble_eq_true rfl) dX3_reckonTwo_128 (fun v w1 H1 L1 hp hW hzz hkk hdd => ?_)
    obtain ⟨q, f, rfl, rfl, hf⟩ := hp
    clear hzz hkk hdd
    generalize H1 = H at hW  ⊢
    generalize L1 = locs at hW ⊢
    have hW : Wd Z A s.heap ([ea Z q w f] ++ cw Z hc y ++ [ea Z q1 (w + 1) f1, ea Z q0 w f0]) _ _ := hW
    refine W.eq (g2 := F0 m 131 ls [.ref q]) rfl ?_
    have hW : Wd Z A s.heap (cw Z hc y ++ [ea Z q w f]) _ _ := hW.sub [1, 2, 3, 4, 5, 0] (by decide) rfl
    refine e_ref hx hb hr (Or.inr ⟨_, rfl⟩) hlk hAe hW (by rw [hGe]; omega) (by rw [hGe, hSl]; omega) dX3_reckonTwo_131 ⟨y, q, f, rfl, rfl, by rw [hGe]; exact hst, fun j hj => (by rw [hf j hj]; exact hfb j (by omega)), fun τ hτ => ?_⟩
    have hs := hfs τ hτ
    have e1 : rn y0 τ f0 w = 2 ^ w - 1 - rn x τ rb w := by
      have h1 : rn y0 τ f0 w = bn (fun j => !vl x τ (rb j)) w := bn_congr (hf0 τ hτ)
      have h2 := bn_not (fun j => vl x τ (rb j)) w
      have h3 : rn x τ rb w = bn (fun j => vl x τ (rb j)) w := rfl
      rw [h1, h3]; omega
    rw [rn_s, e1, rn_ex hs0.2.1 hra, vl_1 hs0.1 hτ] at hs
    rw [rn_congr hf, low_mod hs (rn_lt _ _ _ _)]
    rfl
  · have hGe : G2 5 w = pg w w := rfl
    rw [hGe] at hRc hRs hn
    have hco := hx1.cost (j := pg w w) (K := pg w w) (by omega)
    have hSl : sl2 5 w = 220 * w + 10 := rfl
    rw [hSl] at hRs
    refine lv_iload_n hx hb dX3_reckonTwo_0 rfl (lv_at hl 1 rfl) ?_
    refine lv_tableIn (off := 131) (tgt := 132) hx hb dX3_reckonTwo_1 (by decide) (by decide) (by decide) (by decide) ?_
    refine lv_aload_n hx hb dX3_reckonTwo_132 rfl (lv_at hl 0 rfl) ?_
    refine r_get hx hb hts hown hK (hro.1.here hAe hW) rfl in_X3 0 (by decide) tb_97 (fun _ h => h) rfl dX3_reckonTwo_133 ?_
    refine lv_aload_n hx hb dX3_reckonTwo_136 rfl (lv_at hl 2 rfl) ?_
    refine lv_aload_n hx hb dX3_reckonTwo_137 rfl (lv_at hl 3 rfl) ?_
    refine c_virt (As := [.ref aa, .ref ab]) (rest := []) (wc := cw Z hc x) (wr := []) (nl := 0) hx hb hml hown hts hK hG rfl hA hl (k_product l Z hk hc x σ aa ab w ra rb hx0 hn hw hra hrb) hW ⟨RO.pass hro.2.1 hAe hW, RO.pass hro.2.2.1 hAe hW, RO.pass hro.2.2.2 hAe hW⟩ (hro.2.1.here hAe hW) rfl rfl tb_414 tb_415 tb_416 tb_2 tb_417 (nA := 2) (by decide +kernel) rfl ⟨by omega, by omega⟩ ⟨by omega, by omega⟩ rfl (Nat.le_of_ble_eq_true rfl) dX3_reckonTwo_138 (fun v w1 H1 L1 hp hW hzz hkk hdd => ?_)
    obtain ⟨y, q, f, rfl, rfl, hst, hfb, hfs⟩ := hp
    clear hzz hkk hdd
    generalize H1 = H at hW  ⊢
    generalize L1 = locs at hW ⊢
    have hW : Wd Z A s.heap (cw Z hc y ++ [ea Z q w f]) _ _ := hW
    refine W.eq (g2 := F0 m 141 ls [.ref q]) rfl ?_
    have hu := hst.2.2.2
    refine e_ref hx hb hr (Or.inr ⟨_, rfl⟩) hlk hAe hW (by rw [hGe]; omega) (by rw [hGe, hSl]; omega) dX3_reckonTwo_141 ⟨y, q, f, rfl, rfl, by rw [hGe]; exact hst, hfb, fun τ hτ => ?_⟩
    exact hfs τ hτ
  · have hGe : G2 6 w = dg w w := rfl
    rw [hGe] at hRc hRs hn
    have hco := hx1.cost (j := dg w w) (K := dg w w) (by omega)
    have hSl : sl2 6 w = 220 * w + 10 := rfl
    rw [hSl] at hRs
    refine lv_iload_n hx hb dX3_reckonTwo_0 rfl (lv_at hl 1 rfl) ?_
    refine lv_tableIn (off := 141) (tgt := 142) hx hb dX3_reckonTwo_1 (by decide) (by decide) (by decide) (by decide) ?_
    refine lv_aload_n hx hb dX3_reckonTwo_142 rfl (lv_at hl 0 rfl) ?_
    refine r_get hx hb hts hown hK (hro.1.here hAe hW) rfl in_X3 0 (by decide) tb_97 (fun _ h => h) rfl dX3_reckonTwo_143 ?_
    refine lv_aload_n hx hb dX3_reckonTwo_146 rfl (lv_at hl 2 rfl) ?_
    refine lv_aload_n hx hb dX3_reckonTwo_147 rfl (lv_at hl 3 rfl) ?_
    refine lv_iload_n hx hb dX3_reckonTwo_148 rfl (lv_at hl 1 rfl) ?_
    refine lv_bipush (v := nI 7) hx hb dX3_reckonTwo_149 (by decide) ?_
    refine n_ne_t (tgt := 158) hx hb (by decide) (by omega) (by omega) dX3_reckonTwo_151 (by decide) ?_
    refine lv_iconst (v := nI 0) hx hb dX3_reckonTwo_158 (by decide) ?_
    refine c_virt (As := [.ref aa, .ref ab, .int (nI 0)]) (rest := []) (wc := cw Z hc x) (wr := []) (nl := 0) hx hb hml hown hts hK hG rfl hA hl (k_divided l Z hk hc x σ aa ab w 0 ra rb hx0 hn hw hw1 (by decide) hra hrb) hW ⟨RO.pass hro.2.1 hAe hW, RO.pass hro.2.2.1 hAe hW, RO.pass hro.2.2.2 hAe hW⟩ (hro.2.1.here hAe hW) rfl rfl tb_647 tb_648 tb_649 tb_2 tb_650 (nA := 3) (by decide +kernel) rfl ⟨by omega, by omega⟩ ⟨by omega, by omega⟩ rfl (Nat.le_of_ble_eq_true rfl) dX3_reckonTwo_159 (fun v w1 H1 L1 hp hW hzz hkk hdd => ?_)
    obtain ⟨y, q, f, rfl, rfl, hst, hfb, hfs⟩ := hp
    clear hzz hkk hdd
    generalize H1 = H at hW  ⊢
    generalize L1 = locs at hW ⊢
    have hW : Wd Z A s.heap (cw Z hc y ++ [ea Z q w f]) _ _ := hW
    refine W.eq (g2 := F0 m 162 ls [.ref q]) rfl ?_
    have hu := hst.2.2.2
    refine e_ref hx hb hr (Or.inr ⟨_, rfl⟩) hlk hAe hW (by rw [hGe]; omega) (by rw [hGe, hSl]; omega) dX3_reckonTwo_162 ⟨y, q, f, rfl, rfl, by rw [hGe]; exact hst, hfb, fun τ hτ => ?_⟩
    exact hfs τ hτ
  · have hGe : G2 7 w = dg w w := rfl
    rw [hGe] at hRc hRs hn
    have hco := hx1.cost (j := dg w w) (K := dg w w) (by omega)
    have hSl : sl2 7 w = 220 * w + 10 := rfl
    rw [hSl] at hRs
    refine lv_iload_n hx hb dX3_reckonTwo_0 rfl (lv_at hl 1 rfl) ?_
    refine lv_tableIn (off := 141) (tgt := 142) hx hb dX3_reckonTwo_1 (by decide) (by decide) (by decide) (by decide) ?_
    refine lv_aload_n hx hb dX3_reckonTwo_142 rfl (lv_at hl 0 rfl) ?_
    refine r_get hx hb hts hown hK (hro.1.here hAe hW) rfl in_X3 0 (by decide) tb_97 (fun _ h => h) rfl dX3_reckonTwo_143 ?_
    refine lv_aload_n hx hb dX3_reckonTwo_146 rfl (lv_at hl 2 rfl) ?_
    refine lv_aload_n hx hb dX3_reckonTwo_147 rfl (lv_at hl 3 rfl) ?_
    refine lv_iload_n hx hb dX3_reckonTwo_148 rfl (lv_at hl 1 rfl) ?_
    refine lv_bipush (v := nI 7) hx hb dX3_reckonTwo_149 (by decide) ?_
    refine n_ne_f (tgt := 158) hx hb (by rfl) dX3_reckonTwo_151 (by decide) ?_
    refine lv_iconst (v := nI 1) hx hb dX3_reckonTwo_154 (by decide) ?_
    refine lv_goto (tgt := 159) hx hb dX3_reckonTwo_155 (by decide) ?_
    refine c_virt (As := [.ref aa, .ref ab, .int (nI 1)]) (rest := []) (wc := cw Z hc x) (wr := []) (nl := 0) hx hb hml hown hts hK hG rfl hA hl (k_divided l Z hk hc x σ aa ab w 1 ra rb hx0 hn hw hw1 (by decide) hra hrb) hW ⟨RO.pass hro.2.1 hAe hW, RO.pass hro.2.2.1 hAe hW, RO.pass hro.2.2.2 hAe hW⟩ (hro.2.1.here hAe hW) rfl rfl tb_647 tb_648 tb_649 tb_2 tb_650 (nA := 3) (by decide +kernel) rfl ⟨by omega, by omega⟩ ⟨by omega, by omega⟩ rfl (Nat.le_of_ble_eq_true rfl) dX3_reckonTwo_159 (fun v w1 H1 L1 hp hW hzz hkk hdd => ?_)
    obtain ⟨y, q, f, rfl, rfl, hst, hfb, hfs⟩ := hp
    clear hzz hkk hdd
    generalize H1 = H at hW  ⊢
    generalize L1 = locs at hW ⊢
    have hW : Wd Z A s.heap (cw Z hc y ++ [ea Z q w f]) _ _ := hW
    refine W.eq (g2 := F0 m 162 ls [.ref q]) rfl ?_
    have hu := hst.2.2.2
    refine e_ref hx hb hr (Or.inr ⟨_, rfl⟩) hlk hAe hW (by rw [hGe]; omega) (by rw [hGe, hSl]; omega) dX3_reckonTwo_162 ⟨y, q, f, rfl, rfl, by rw [hGe]; exact hst, hfb, fun τ hτ => ?_⟩
    exact hfs τ hτ
  · have hGe : G2 8 w = 18 * w + dg w w + (1 - 0) := rfl
    rw [hGe] at hRc hRs hn
    have hco := hx1.cost (j := 18 * w + dg w w + (1 - 0)) (K := 18 * w + dg w w + (1 - 0)) (by omega)
    have hSl : sl2 8 w = 220 * w + 10 := rfl
    rw [hSl] at hRs
    refine lv_iload_n hx hb dX3_reckonTwo_0 rfl (lv_at hl 1 rfl) ?_
    refine lv_tableIn (off := 162) (tgt := 163) hx hb dX3_reckonTwo_1 (by decide) (by decide) (by decide) (by decide) ?_
    refine lv_aload_n hx hb dX3_reckonTwo_163 rfl (lv_at hl 0 rfl) ?_
    refine r_get hx hb hts hown hK (hro.1.here hAe hW) rfl in_X3 0 (by decide) tb_97 (fun _ h => h) rfl dX3_reckonTwo_164 ?_
    refine lv_aload_n hx hb dX3_reckonTwo_167 rfl (lv_at hl 2 rfl) ?_
    refine lv_aload_n hx hb dX3_reckonTwo_168 rfl (lv_at hl 3 rfl) ?_
    refine lv_iload_n hx hb dX3_reckonTwo_169 rfl (lv_at hl 1 rfl) ?_
    refine lv_bipush (v := nI 9) hx hb dX3_reckonTwo_170 (by decide) ?_
    refine n_ne_t (tgt := 179) hx hb (by decide) (by omega) (by omega) dX3_reckonTwo_172 (by decide) ?_
    refine lv_iconst (v := nI 0) hx hb dX3_reckonTwo_179 (by decide) ?_
    refine c_virt (As := [.ref aa, .ref ab, .int (nI 0)]) (rest := []) (wc := cw Z hc x) (wr := []) (nl := 0) hx hb hml hown hts hK hG rfl hA hl (k_dividedWithSign l Z hk hc x σ aa ab w 0 ra rb hx0 hn hw hw1 (by decide) hra hrb) hW ⟨RO.pass hro.2.1 hAe hW, RO.pass hro.2.2.1 hAe hW, RO.pass hro.2.2.2 hAe hW⟩ (hro.2.1.here hAe hW) rfl rfl tb_659 tb_660 tb_661 tb_2 tb_662 (nA := 3) (by decide +kernel) rfl ⟨by omega, by omega⟩ ⟨by omega, by omega⟩ rfl (Nat.le_of_ble_eq_true rfl) dX3_reckonTwo_180 (fun v w1 H1 L1 hp hW hzz hkk hdd => ?_)
    obtain ⟨y, q, f, rfl, rfl, hst, hfb, hfs⟩ := hp
    clear hzz hkk hdd
    generalize H1 = H at hW  ⊢
    generalize L1 = locs at hW ⊢
    have hW : Wd Z A s.heap (cw Z hc y ++ [ea Z q w f]) _ _ := hW
    refine W.eq (g2 := F0 m 183 ls [.ref q]) rfl ?_
    have hu := hst.2.2.2
    refine e_ref hx hb hr (Or.inr ⟨_, rfl⟩) hlk hAe hW (by rw [hGe]; omega) (by rw [hGe, hSl]; omega) dX3_reckonTwo_183 ⟨y, q, f, rfl, rfl, by rw [hGe]; exact hst, hfb, fun τ hτ => ?_⟩
    exact hfs τ hτ
  · have hGe : G2 9 w = 18 * w + dg w w + (1 - 1) := rfl
    rw [hGe] at hRc hRs hn
    have hco := hx1.cost (j := 18 * w + dg w w + (1 - 1)) (K := 18 * w + dg w w + (1 - 1)) (by omega)
    have hSl : sl2 9 w = 220 * w + 10 := rfl
    rw [hSl] at hRs
    refine lv_iload_n hx hb dX3_reckonTwo_0 rfl (lv_at hl 1 rfl) ?_
    refine lv_tableIn (off := 162) (tgt := 163) hx hb dX3_reckonTwo_1 (by decide) (by decide) (by decide) (by decide) ?_
    refine lv_aload_n hx hb dX3_reckonTwo_163 rfl (lv_at hl 0 rfl) ?_
    refine r_get hx hb hts hown hK (hro.1.here hAe hW) rfl in_X3 0 (by decide) tb_97 (fun _ h => h) rfl dX3_reckonTwo_164 ?_
    refine lv_aload_n hx hb dX3_reckonTwo_167 rfl (lv_at hl 2 rfl) ?_
    refine lv_aload_n hx hb dX3_reckonTwo_168 rfl (lv_at hl 3 rfl) ?_
    refine lv_iload_n hx hb dX3_reckonTwo_169 rfl (lv_at hl 1 rfl) ?_
    refine lv_bipush (v := nI 9) hx hb dX3_reckonTwo_170 (by decide) ?_
    refine n_ne_f (tgt := 179) hx hb (by rfl) dX3_reckonTwo_172 (by decide) ?_
    refine lv_iconst (v := nI 1) hx hb dX3_reckonTwo_175 (by decide) ?_
    refine lv_goto (tgt := 180) hx hb dX3_reckonTwo_176 (by decide) ?_
    refine c_virt (As := [.ref aa, .ref ab, .int (nI 1)]) (rest := []) (wc := cw Z hc x) (wr := []) (nl := 0) hx hb hml hown hts hK hG rfl hA hl (k_dividedWithSign l Z hk hc x σ aa ab w 1 ra rb hx0 hn hw hw1 (by decide) hra hrb) hW ⟨RO.pass hro.2.1 hAe hW, RO.pass hro.2.2.1 hAe hW, RO.pass hro.2.2.2 hAe hW⟩ (hro.2.1.here hAe hW) rfl rfl tb_659 tb_660 tb_661 tb_2 tb_662 (nA := 3) (by decide +kernel) rfl ⟨by omega, by omega⟩ ⟨by omega, by omega⟩ rfl (Nat.le_of_ble_eq_true rfl) dX3_reckonTwo_180 (fun v w1 H1 L1 hp hW hzz hkk hdd => ?_)
    obtain ⟨y, q, f, rfl, rfl, hst, hfb, hfs⟩ := hp
    clear hzz hkk hdd
    generalize H1 = H at hW  ⊢
    generalize L1 = locs at hW ⊢
    have hW : Wd Z A s.heap (cw Z hc y ++ [ea Z q w f]) _ _ := hW
    refine W.eq (g2 := F0 m 183 ls [.ref q]) rfl ?_
    have hu := hst.2.2.2
    refine e_ref hx hb hr (Or.inr ⟨_, rfl⟩) hlk hAe hW (by rw [hGe]; omega) (by rw [hGe, hSl]; omega) dX3_reckonTwo_183 ⟨y, q, f, rfl, rfl, by rw [hGe]; exact hst, hfb, fun τ hτ => ?_⟩
    exact hfs τ hτ
  · have hGe : G2 10 w = sg w w + 3 * w := rfl
    rw [hGe] at hRc hRs hn
    have hco := hx1.cost (j := sg w w + 3 * w) (K := sg w w + 3 * w) (by omega)
    have hSl : sl2 10 w = 220 * w + 10 := rfl
    rw [hSl] at hRs
    refine lv_iload_n hx hb dX3_reckonTwo_0 rfl (lv_at hl 1 rfl) ?_
    refine lv_tableIn (off := 183) (tgt := 184) hx hb dX3_reckonTwo_1 (by decide) (by decide) (by decide) (by decide) ?_
    have hra_t := hra (w - 1) (by omega)
    refine lv_aload_n hx hb dX3_reckonTwo_184 rfl (lv_at hl 0 rfl) ?_
    refine r_get hx hb hts hown hK (hro.1.here hAe hW) rfl in_X3 0 (by decide) tb_97 (fun _ h => h) rfl dX3_reckonTwo_185 ?_
    refine lv_aload_n hx hb dX3_reckonTwo_188 rfl (lv_at hl 2 rfl) ?_
    refine lv_aload_n hx hb dX3_reckonTwo_189 rfl (lv_at hl 3 rfl) ?_
    refine lv_iconst (v := nI 1) hx hb dX3_reckonTwo_190 (by decide) ?_
    refine lv_iconst (v := nI 0) hx hb dX3_reckonTwo_191 (by decide) ?_
    refine c_virt (As := [.ref aa, .ref ab, .int (nI 1), .int (nI 0)]) (rest := []) (wc := cw Z hc x) (wr := []) (nl := 0) hx hb hml hown hts hK hG rfl hA hl (k_shifted l Z hk hc x σ aa ab w 1 0 ra rb hx0 hn hw hw1 (by decide) (by omega) hra hrb) hW ⟨RO.pass hro.2.1 hAe hW, RO.pass hro.2.2.1 hAe hW, RO.pass hro.2.2.2 hAe hW⟩ (hro.2.1.here hAe hW) rfl rfl tb_665 tb_666 tb_667 tb_2 tb_668 (nA := 4) (by decide +kernel) rfl ⟨by omega, by omega⟩ ⟨by omega, by omega⟩ rfl (Nat.le_of_ble_eq_true rfl) dX3_reckonTwo_192 (fun v w1 H1 L1 hp hW hzz hkk hdd => ?_)
    obtain ⟨y, q, f, rfl, rfl, hst, hfb, hfs⟩ := hp
    clear hzz hkk hdd
    generalize H1 = H at hW  ⊢
    generalize L1 = locs at hW ⊢
    have hW : Wd Z A s.heap (cw Z hc y ++ [ea Z q w f]) _ _ := hW
    refine W.eq (g2 := F0 m 195 ls [.ref q]) rfl ?_
    have hu := hst.2.2.2
    refine e_ref hx hb hr (Or.inr ⟨_, rfl⟩) hlk hAe hW (by rw [hGe]; omega) (by rw [hGe, hSl]; omega) dX3_reckonTwo_195 ⟨y, q, f, rfl, rfl, by rw [hGe]; exact hst, hfb, fun τ hτ => ?_⟩
    exact bn_congr (hfs τ hτ)
  · have hGe : G2 11 w = sg w w + 3 * w := rfl
    rw [hGe] at hRc hRs hn
    have hco := hx1.cost (j := sg w w + 3 * w) (K := sg w w + 3 * w) (by omega)
    have hSl : sl2 11 w = 220 * w + 10 := rfl
    rw [hSl] at hRs
    refine lv_iload_n hx hb dX3_reckonTwo_0 rfl (lv_at hl 1 rfl) ?_
    refine lv_tableIn (off := 195) (tgt := 196) hx hb dX3_reckonTwo_1 (by decide) (by decide) (by decide) (by decide) ?_
    have hra_t := hra (w - 1) (by omega)
    refine lv_aload_n hx hb dX3_reckonTwo_196 rfl (lv_at hl 0 rfl) ?_
    refine r_get hx hb hts hown hK (hro.1.here hAe hW) rfl in_X3 0 (by decide) tb_97 (fun _ h => h) rfl dX3_reckonTwo_197 ?_
    refine lv_aload_n hx hb dX3_reckonTwo_200 rfl (lv_at hl 2 rfl) ?_
    refine lv_aload_n hx hb dX3_reckonTwo_201 rfl (lv_at hl 3 rfl) ?_
    refine lv_iconst (v := nI 0) hx hb dX3_reckonTwo_202 (by decide) ?_
    refine lv_iconst (v := nI 0) hx hb dX3_reckonTwo_203 (by decide) ?_
    refine c_virt (As := [.ref aa, .ref ab, .int (nI 0), .int (nI 0)]) (rest := []) (wc := cw Z hc x) (wr := []) (nl := 0) hx hb hml hown hts hK hG rfl hA hl (k_shifted l Z hk hc x σ aa ab w 0 0 ra rb hx0 hn hw hw1 (by decide) (by omega) hra hrb) hW ⟨RO.pass hro.2.1 hAe hW, RO.pass hro.2.2.1 hAe hW, RO.pass hro.2.2.2 hAe hW⟩ (hro.2.1.here hAe hW) rfl rfl tb_665 tb_666 tb_667 tb_2 tb_668 (nA := 4) (by decide +kernel) rfl ⟨by omega, by omega⟩ ⟨by omega, by omega⟩ rfl (Nat.le_of_ble_eq_true rfl) dX3_reckonTwo_204 (fun v w1 H1 L1 hp hW hzz hkk hdd => ?_)
    obtain ⟨y, q, f, rfl, rfl, hst, hfb, hfs⟩ := hp
    clear hzz hkk hdd
    generalize H1 = H at hW  ⊢
    generalize L1 = locs at hW ⊢
    have hW : Wd Z A s.heap (cw Z hc y ++ [ea Z q w f]) _ _ := hW
    refine W.eq (g2 := F0 m 207 ls [.ref q]) rfl ?_
    have hu := hst.2.2.2
    refine e_ref hx hb hr (Or.inr ⟨_, rfl⟩) hlk hAe hW (by rw [hGe]; omega) (by rw [hGe, hSl]; omega) dX3_reckonTwo_207 ⟨y, q, f, rfl, rfl, by rw [hGe]; exact hst, hfb, fun τ hτ => ?_⟩
    exact bn_congr (hfs τ hτ)
  · have hGe : G2 12 w = sg w w + 3 * w := rfl
    rw [hGe] at hRc hRs hn
    have hco := hx1.cost (j := sg w w + 3 * w) (K := sg w w + 3 * w) (by omega)
    have hSl : sl2 12 w = 220 * w + 10 := rfl
    rw [hSl] at hRs
    refine lv_iload_n hx hb dX3_reckonTwo_0 rfl (lv_at hl 1 rfl) ?_
    refine lv_tableOut (tgt := 208) hx hb dX3_reckonTwo_1 (by decide) (by decide) ?_
    have hra_t := hra (w - 1) (by omega)
    refine lv_aload_n hx hb dX3_reckonTwo_208 rfl (lv_at hl 0 rfl) ?_
    refine r_get hx hb hts hown hK (hro.1.here hAe hW) rfl in_X3 0 (by decide) tb_97 (fun _ h => h) rfl dX3_reckonTwo_209 ?_
    refine lv_aload_n hx hb dX3_reckonTwo_212 rfl (lv_at hl 2 rfl) ?_
    refine lv_aload_n hx hb dX3_reckonTwo_213 rfl (lv_at hl 3 rfl) ?_
    refine lv_iconst (v := nI 0) hx hb dX3_reckonTwo_214 (by decide) ?_
    refine lv_aload_n hx hb dX3_reckonTwo_215 rfl (lv_at hl 2 rfl) ?_
    refine lv_aload_n hx hb dX3_reckonTwo_216 rfl (lv_at hl 2 rfl) ?_
    refine r_len hx hb hK (hro.2.2.1.here hAe hW) dX3_reckonTwo_217 ?_
    refine lv_iconst (v := nI 1) hx hb dX3_reckonTwo_218 (by decide) ?_
    refine n_isub hx hb (by omega) dX3_reckonTwo_219 ?_
    refine r_ald (i := (w - 1)) hx hb hK (hro.2.2.1.here hAe hW) (by omega) (by omega) dX3_reckonTwo_220 ?_
    refine c_virt (As := [.ref aa, .ref ab, .int (nI 0), .int (nI (ra (w - 1)))]) (rest := []) (wc := cw Z hc x) (wr := []) (nl := 0) hx hb hml hown hts hK hG rfl hA hl (k_shifted l Z hk hc x σ aa ab w 0 (ra (w - 1)) ra rb hx0 hn hw hw1 (by decide) (by omega) hra hrb) hW ⟨RO.pass hro.2.1 hAe hW, RO.pass hro.2.2.1 hAe hW, RO.pass hro.2.2.2 hAe hW⟩ (hro.2.1.here hAe hW) rfl rfl tb_665 tb_666 tb_667 tb_2 tb_668 (nA := 4) (by decide +kernel) rfl ⟨by omega, by omega⟩ ⟨by omega, by omega⟩ rfl (Nat.le_of_ble_eq_true rfl) dX3_reckonTwo_221 (fun v w1 H1 L1 hp hW hzz hkk hdd => ?_)
    obtain ⟨y, q, f, rfl, rfl, hst, hfb, hfs⟩ := hp
    clear hzz hkk hdd
    generalize H1 = H at hW  ⊢
    generalize L1 = locs at hW ⊢
    have hW : Wd Z A s.heap (cw Z hc y ++ [ea Z q w f]) _ _ := hW
    refine W.eq (g2 := F0 m 224 ls [.ref q]) rfl ?_
    have hu := hst.2.2.2
    refine e_ref hx hb hr (Or.inr ⟨_, rfl⟩) hlk hAe hW (by rw [hGe]; omega) (by rw [hGe, hSl]; omega) dX3_reckonTwo_224 ⟨y, q, f, rfl, rfl, by rw [hGe]; exact hst, hfb, fun τ hτ => ?_⟩
    exact bn_congr (hfs τ hτ)
set_option maxHeartbeats 4000000 in
set_option maxRecDepth 100000 in
/-- VectorBench.reckonComparison -/
theorem k_reckonComparison (l : Launch) (Z : Zt) (hb0 hk hc hm wg : Nat) (x : CS) (σ : Nat → Bool) (k aa ab w : Nat) (ra rb : Nat → Nat) (hx0 : cok x σ) (hk12 : k ≤ 4) (hn : xn x + GC k w < 400000) (hw : w ≤ 64) (hw1 : 1 ≤ w) (hra : ∀ j, j < w → ra j < xn x) (hrb : ∀ j, j < w → rb j < xn x) : MC l yX3_reckonComparison cX3_reckonComparison 4 (some .int) 9 400 (10 + 4 * (capU (xu x) (xn x + GC k w) - xu x)) (10 * w + 10 + 512 * (capU (xu x) (xn x + GC k w) - xu x)) Z (cw Z hc x) (fun H => RO Z (cw Z hc x) (bo hb0 hk hc hm wg) H ∧ RO Z (cw Z hc x) (eo hk 1 [.ref hc]) H ∧ RO Z (cw Z hc x) (ea Z aa w ra) H ∧ RO Z (cw Z hc x) (ea Z ab w rb) H) [.ref hb0, .int (nI k), .ref aa, .ref ab] (bitQ Z hc x σ (GC k w) (VC x ra rb w k)) := by
  refine mc_of (by decide) (Nat.le_of_ble_eq_true rfl) (fun p e s m below meth c ls A hx hb hr hts hown hlk hml hin hK hG hW hA hAe hro hl R hRf hRc hRs hRl => ?_)
  have hl : lv_has ls 4 [(0, .ref hb0), (1, .int (nI k)), (2, .ref aa), (3, .ref ab)] := hl
  have hx1 := stp.rf hx0
  have hx2 := hx0.1
  have hW : Wd Z A s.heap (cw Z hc x ++ []) _ _ := hW
  rcases (show k = 0 ∨ k = 1 ∨ k = 2 ∨ k = 3 ∨ k = 4 by omega) with rfl | rfl | rfl | rfl | rfl
  · have hGe : GC 0 w = 2 * w + 1 := rfl
    rw [hGe] at hRc hRs hn
    obtain ⟨KK, hKK⟩ : ∃ k, k = 2 * w + 1 := ⟨_, rfl⟩
    rw [← hKK] at hRc hRs hn
    refine lv_iload_n hx hb dX3_reckonComparison_0 rfl (lv_at hl 1 rfl) ?_
    refine lv_tableIn (off := 31) (tgt := 32) hx hb dX3_reckonComparison_1 (by decide) (by decide) (by decide) (by decide) ?_
    refine lv_aload_n hx hb dX3_reckonComparison_32 rfl (lv_at hl 0 rfl) ?_
    refine r_get hx hb hts hown hK (hro.1.here hAe hW) rfl in_X3 0 (by decide) tb_97 (fun _ h => h) rfl dX3_reckonComparison_33 ?_
    refine lv_aload_n hx hb dX3_reckonComparison_36 rfl (lv_at hl 2 rfl) ?_
    refine lv_aload_n hx hb dX3_reckonComparison_37 rfl (lv_at hl 3 rfl) ?_
    have hcoa := hx1.cost (j := 2 * w + 1) (K := KK) (by omega)
    refine c_virt (As := [.ref aa, .ref ab]) (rest := []) (wc := cw Z hc x) (wr := []) (nl := 0) hx hb hml hown hts hK hG rfl hA hl (k_same l Z hk hc x σ aa ab w ra rb hx0 (by omega) hw hra hrb) hW ⟨RO.pass hro.2.1 hAe hW, RO.pass hro.2.2.1 hAe hW, RO.pass hro.2.2.2 hAe hW⟩ (hro.2.1.here hAe hW) rfl rfl tb_680 tb_681 tb_682 tb_2 tb_683 (nA := 2) (by decide +kernel) rfl ⟨by omega, by omega⟩ ⟨by omega, by omega⟩ rfl (Nat.le_of_ble_eq_true rfl) dX3_reckonComparison_38 (fun v w1 H1 L1 hp hW hzz hkk hdd => ?_)
    obtain ⟨y, g, rfl, rfl, hsy, hby, hvy⟩ := hp
    clear hzz hkk hdd
    generalize H1 = H at hW  ⊢
    generalize L1 = locs at hW ⊢
    have hW : Wd Z A s.heap (cw Z hc y) _ _ := hW
    refine W.eq (g2 := F0 m 41 ls [.int (nI g)]) rfl ?_
    have huy := hsy.2.2.2
    have hcf := hsy.cost (j := 0) (K := KK) (by omega)
    rw [hKK] at hcf
    have hW : Wd Z A s.heap (cw Z hc y) _ _ := hW.sub [0, 1, 2, 3, 4] (by decide) rfl
    refine e_int hx hb hr hlk hAe hW (by rw [hGe]; omega) (by rw [hGe]; omega) dX3_reckonComparison_41 ⟨y, g, rfl, rfl, by rw [hGe]; exact hsy, by omega, fun τ hτ => ?_⟩
    exact hvy τ hτ
  · have hGe : GC 1 w = 6 * w + 1 := rfl
    rw [hGe] at hRc hRs hn
    obtain ⟨KK, hKK⟩ : ∃ k, k = 6 * w + 1 := ⟨_, rfl⟩
    rw [← hKK] at hRc hRs hn
    refine lv_iload_n hx hb dX3_reckonComparison_0 rfl (lv_at hl 1 rfl) ?_
    refine lv_tableIn (off := 41) (tgt := 42) hx hb dX3_reckonComparison_1 (by decide) (by decide) (by decide) (by decide) ?_
    refine lv_aload_n hx hb dX3_reckonComparison_42 rfl (lv_at hl 0 rfl) ?_
    refine r_get hx hb hts hown hK (hro.1.here hAe hW) rfl in_X3 1 (by decide) tb_98 (fun _ h => h) rfl dX3_reckonComparison_43 ?_
    refine lv_aload_n hx hb dX3_reckonComparison_46 rfl (lv_at hl 0 rfl) ?_
    refine r_get hx hb hts hown hK (hro.1.here hAe hW) rfl in_X3 0 (by decide) tb_97 (fun _ h => h) rfl dX3_reckonComparison_47 ?_
    refine lv_aload_n hx hb dX3_reckonComparison_50 rfl (lv_at hl 2 rfl) ?_
    refine lv_aload_n hx hb dX3_reckonComparison_51 rfl (lv_at hl 3 rfl) ?_
    have hcoa := hx1.cost (j := 6 * w) (K := KK) (by omega)
    refine c_virt (As := [.ref aa, .ref ab]) (rest := [.ref hc]) (wc := cw Z hc x) (wr := []) (nl := 0) hx hb hml hown hts hK hG rfl hA hl (k_atLeast l Z hk hc x σ aa ab w ra rb hx1.1 (by omega) hw hra hrb) hW ⟨RO.pass hro.2.1 hAe hW, RO.pass hro.2.2.1 hAe hW, RO.pass hro.2.2.2 hAe hW⟩ (hro.2.1.here hAe hW) rfl rfl tb_684 tb_685 tb_686 tb_2 tb_687 (nA := 2) (by decide +kernel) rfl ⟨by omega, by omega⟩ ⟨by omega, by omega⟩ rfl (Nat.le_of_ble_eq_true rfl) dX3_reckonComparison_52 (fun v w1 H1 L1 hp hW hzz hkk hdd => ?_)
    obtain ⟨y, gy, rfl, rfl, hsy, hby, hvy⟩ := hp
    clear hzz hkk hdd
    generalize H1 = H at hW  ⊢
    generalize L1 = locs at hW ⊢
    have hW : Wd Z A s.heap (cw Z hc y) _ _ := hW
    refine W.eq (g2 := F0 m 55 ls [.int (nI gy), .ref hc]) rfl ?_
    have huy := hsy.2.2.2
    have ty := hx1.tr hsy
    have hny := ty.2.2.1
    have hcon := ty.cost (j := 1) (K := KK) (by omega)
    refine c_virt (As := [.int (nI gy)]) (rest := []) (wc := cw Z hc y) (wr := []) (nl := 0) hx hb hml hown hts hK hG rfl hA hl (k_not l Z hc y σ gy ty.1 (by omega) (by omega)) hW trivial (hW.at 0 rfl) rfl rfl tb_688 tb_361 tb_362 tb_3 tb_363 (nA := 1) (by decide +kernel) rfl ⟨by omega, by omega⟩ ⟨by omega, by omega⟩ rfl (Nat.le_of_ble_eq_true rfl) dX3_reckonComparison_55 (fun v w1 H1 L1 hp hW hzz hkk hdd => ?_)
    obtain ⟨z, rfl, rfl, ggz⟩ := hp
    clear hzz hkk hdd
    generalize H1 = H at hW  ⊢
    generalize L1 = locs at hW ⊢
    have hW : Wd Z A s.heap (cw Z hc z) _ _ := hW
    refine W.eq (g2 := F0 m 58 ls [.int (nI (xn y))]) rfl ?_
    have tz := ty.g ggz
    have hnz := tz.2.2.1
    have huz := (stp.of ggz).2.2.2
    have kz := cex.rf z
    have e0 : stp x σ (6 * w + 1) z := by have h := tz; rw [Nat.zero_add] at h; exact h
    have hcf := e0.cost (j := 0) (K := KK) (by omega)
    rw [hKK] at hcf
    have hW : Wd Z A s.heap (cw Z hc z) _ _ := hW.sub [0, 1, 2, 3, 4] (by decide) rfl
    refine e_int hx hb hr hlk hAe hW (by rw [hGe]; omega) (by rw [hGe]; omega) dX3_reckonComparison_58 ⟨z, xn y, rfl, rfl, by rw [hGe]; exact e0, by omega, fun τ hτ => ?_⟩
    rw [gval ggz (by decide) kz (by omega) (by have := ty.1.1; omega) τ, c_op3, vl_1 tz.1 hτ, ggz.2.2.2.2.1.vl hby, hvy τ hτ]
    exact Bool.xor_true _
  · have hGe : GC 2 w = 6 * w := rfl
    rw [hGe] at hRc hRs hn
    obtain ⟨KK, hKK⟩ : ∃ k, k = 6 * w := ⟨_, rfl⟩
    rw [← hKK] at hRc hRs hn
    refine lv_iload_n hx hb dX3_reckonComparison_0 rfl (lv_at hl 1 rfl) ?_
    refine lv_tableIn (off := 58) (tgt := 59) hx hb dX3_reckonComparison_1 (by decide) (by decide) (by decide) (by decide) ?_
    refine lv_aload_n hx hb dX3_reckonComparison_59 rfl (lv_at hl 0 rfl) ?_
    refine r_get hx hb hts hown hK (hro.1.here hAe hW) rfl in_X3 0 (by decide) tb_97 (fun _ h => h) rfl dX3_reckonComparison_60 ?_
    refine lv_aload_n hx hb dX3_reckonComparison_63 rfl (lv_at hl 3 rfl) ?_
    refine lv_aload_n hx hb dX3_reckonComparison_64 rfl (lv_at hl 2 rfl) ?_
    have hcoa := hx1.cost (j := 6 * w) (K := KK) (by omega)
    refine c_virt (As := [.ref ab, .ref aa]) (rest := []) (wc := cw Z hc x) (wr := []) (nl := 0) hx hb hml hown hts hK hG rfl hA hl (k_atLeast l Z hk hc x σ ab aa w rb ra hx1.1 (by omega) hw hrb hra) hW ⟨RO.pass hro.2.1 hAe hW, RO.pass hro.2.2.2 hAe hW, RO.pass hro.2.2.1 hAe hW⟩ (hro.2.1.here hAe hW) rfl rfl tb_684 tb_685 tb_686 tb_2 tb_687 (nA := 2) (by decide +kernel) rfl ⟨by omega, by omega⟩ ⟨by omega, by omega⟩ rfl (Nat.le_of_ble_eq_true rfl) dX3_reckonComparison_65 (fun v w1 H1 L1 hp hW hzz hkk hdd => ?_)
    obtain ⟨y, gy, rfl, rfl, hsy, hby, hvy⟩ := hp
    clear hzz hkk hdd
    generalize H1 = H at hW  ⊢
    generalize L1 = locs at hW ⊢
    have hW : Wd Z A s.heap (cw Z hc y) _ _ := hW
    refine W.eq (g2 := F0 m 68 ls [.int (nI gy)]) rfl ?_
    have huy := hsy.2.2.2
    have ty := hx1.tr hsy
    have hny := ty.2.2.1
    have hcf := hsy.cost (j := 0) (K := KK) (by omega)
    rw [hKK] at hcf
    have hW : Wd Z A s.heap (cw Z hc y) _ _ := hW.sub [0, 1, 2, 3, 4] (by decide) rfl
    refine e_int hx hb hr hlk hAe hW (by rw [hGe]; omega) (by rw [hGe]; omega) dX3_reckonComparison_68 ⟨y, gy, rfl, rfl, by rw [hGe]; exact hsy, by omega, fun τ hτ => ?_⟩
    exact hvy τ hτ
  · have hGe : GC 3 w = 1 + 1 + 6 * w + 1 := rfl
    rw [hGe] at hRc hRs hn
    obtain ⟨KK, hKK⟩ : ∃ k, k = 1 + 1 + 6 * w + 1 := ⟨_, rfl⟩
    rw [← hKK] at hRc hRs hn
    refine lv_iload_n hx hb dX3_reckonComparison_0 rfl (lv_at hl 1 rfl) ?_
    refine lv_tableIn (off := 68) (tgt := 69) hx hb dX3_reckonComparison_1 (by decide) (by decide) (by decide) (by decide) ?_
    refine lv_aload_n hx hb dX3_reckonComparison_69 rfl (lv_at hl 0 rfl) ?_
    refine r_get hx hb hts hown hK (hro.1.here hAe hW) rfl in_X3 1 (by decide) tb_98 (fun _ h => h) rfl dX3_reckonComparison_70 ?_
    refine lv_aload_n hx hb dX3_reckonComparison_73 rfl (lv_at hl 0 rfl) ?_
    refine r_get hx hb hts hown hK (hro.1.here hAe hW) rfl in_X3 0 (by decide) tb_97 (fun _ h => h) rfl dX3_reckonComparison_74 ?_
    refine lv_aload_n hx hb dX3_reckonComparison_77 rfl (lv_at hl 0 rfl) ?_
    refine r_get hx hb hts hown hK (hro.1.here hAe hW) rfl in_X3 0 (by decide) tb_97 (fun _ h => h) rfl dX3_reckonComparison_78 ?_
    refine lv_aload_n hx hb dX3_reckonComparison_81 rfl (lv_at hl 2 rfl) ?_
    have hcos := hx1.cost (j := 1) (K := KK) (by omega)
    refine c_virt (As := [.ref aa]) (rest := [.ref hk, .ref hc]) (wc := cw Z hc x) (wr := []) (nl := 0) hx hb hml hown hts hK hG rfl hA hl (k_signTurned l Z hk hc x σ aa w ra hx1.1 (by omega) hw hw1 hra) hW ⟨RO.pass hro.2.1 hAe hW, RO.pass hro.2.2.1 hAe hW⟩ (hro.2.1.here hAe hW) rfl rfl tb_689 tb_690 tb_691 tb_2 tb_692 (nA := 1) (by decide +kernel) rfl ⟨by omega, by omega⟩ ⟨by omega, by omega⟩ rfl (Nat.le_of_ble_eq_true rfl) dX3_reckonComparison_82 (fun v w1 H1 L1 hp hW hzz hkk hdd => ?_)
    obtain ⟨y1, q1, f1, rfl, rfl, hsy1, hfby1, hfsy1⟩ := hp
    clear hzz hkk hdd
    generalize H1 = H at hW  ⊢
    generalize L1 = locs at hW ⊢
    have hW : Wd Z A s.heap (cw Z hc y1 ++ [ea Z q1 w f1]) _ _ := hW
    refine W.eq (g2 := F0 m 85 ls [.ref q1, .ref hk, .ref hc]) rfl ?_
    have ty1 := hx1.tr hsy1
    have hny1 := ty1.2.2.1
    have huy1 := hsy1.2.2.2
    refine lv_aload_n hx hb dX3_reckonComparison_85 rfl (lv_at hl 0 rfl) ?_
    refine r_get hx hb hts hown hK (hro.1.here hAe hW) rfl in_X3 0 (by decide) tb_97 (fun _ h => h) rfl dX3_reckonComparison_86 ?_
    refine lv_aload_n hx hb dX3_reckonComparison_89 rfl (lv_at hl 3 rfl) ?_
    have hcos := ty1.cost (j := 1) (K := KK) (by omega)
    refine c_virt (As := [.ref ab]) (rest := [.ref q1, .ref hk, .ref hc]) (wc := cw Z hc y1) (wr := [ea Z q1 w f1]) (nl := 0) hx hb hml hown hts hK hG rfl hA hl (k_signTurned l Z hk hc y1 σ ab w rb ty1.1 (by omega) hw hw1 (fun j hj => by have := hrb j hj; omega)) hW ⟨RO.pass hro.2.1 hAe hW, RO.pass hro.2.2.2 hAe hW⟩ (hro.2.1.here hAe hW) rfl rfl tb_689 tb_690 tb_691 tb_2 tb_692 (nA := 1) (by decide +kernel) rfl ⟨by omega, by omega⟩ ⟨by omega, by omega⟩ rfl (Nat.le_of_ble_eq_true rfl) dX3_reckonComparison_90 (fun v w1 H1 L1 hp hW hzz hkk hdd => ?_)
    obtain ⟨y2, q2, f2, rfl, rfl, hsy2, hfby2, hfsy2⟩ := hp
    clear hzz hkk hdd
    generalize H1 = H at hW  ⊢
    generalize L1 = locs at hW ⊢
    have hW : Wd Z A s.heap (cw Z hc y2 ++ [ea Z q2 w f2, ea Z q1 w f1]) _ _ := hW
    refine W.eq (g2 := F0 m 93 ls [.ref q2, .ref q1, .ref hk, .ref hc]) rfl ?_
    have ty2 := ty1.tr hsy2
    have hny2 := ty2.2.2.1
    have huy2 := hsy2.2.2.2
    have hcoa := ty2.cost (j := 6 * w) (K := KK) (by omega)
    refine c_virt (As := [.ref q1, .ref q2]) (rest := [.ref hc]) (wc := cw Z hc y2) (wr := [ea Z q2 w f2, ea Z q1 w f1]) (nl := 0) hx hb hml hown hts hK hG rfl hA hl (k_atLeast l Z hk hc y2 σ q1 q2 w f1 f2 ty2.1 (by omega) hw (fun j hj => by have := hfby1 j hj; omega) hfby2) hW ⟨RO.pass hro.2.1 hAe hW, RO.loc hW 1 rfl, RO.loc hW 0 rfl⟩ (hro.2.1.here hAe hW) rfl rfl tb_684 tb_685 tb_686 tb_2 tb_687 (nA := 2) (by decide +kernel) rfl ⟨by omega, by omega⟩ ⟨by omega, by omega⟩ rfl (Nat.le_of_ble_eq_true rfl) dX3_reckonComparison_93 (fun v w1 H1 L1 hp hW hzz hkk hdd => ?_)
    obtain ⟨y, gy, rfl, rfl, hsy, hby, hvy⟩ := hp
    clear hzz hkk hdd
    generalize H1 = H at hW  ⊢
    generalize L1 = locs at hW ⊢
    have hW : Wd Z A s.heap (cw Z hc y ++ [ea Z q2 w f2, ea Z q1 w f1]) _ _ := hW
    refine W.eq (g2 := F0 m 96 ls [.int (nI gy), .ref hc]) rfl ?_
    have huy := hsy.2.2.2
    have ty := ty2.tr hsy
    have hny := ty.2.2.1
    have v1 : ∀ τ, gd τ → rn y2 τ f1 w = tn x τ ra w := fun τ hτ => by
      rw [rn_ex hsy2.2.1 hfby1]; exact bn_congr (hfsy1 τ hτ)
    have v2 : ∀ τ, gd τ → rn y2 τ f2 w = tn x τ rb w := fun τ hτ => by
      have h : rn y2 τ f2 w = tn y1 τ rb w := bn_congr (hfsy2 τ hτ)
      rw [h]
      exact bn_congr (fun j hj => by rw [hsy1.2.1.vl (hrb j hj)])
    have hcon := ty.cost (j := 1) (K := KK) (by omega)
    refine c_virt (As := [.int (nI gy)]) (rest := []) (wc := cw Z hc y) (wr := [ea Z q2 w f2, ea Z q1 w f1]) (nl := 0) hx hb hml hown hts hK hG rfl hA hl (k_not l Z hc y σ gy ty.1 (by omega) (by omega)) hW trivial (hW.at 0 rfl) rfl rfl tb_688 tb_361 tb_362 tb_3 tb_363 (nA := 1) (by decide +kernel) rfl ⟨by omega, by omega⟩ ⟨by omega, by omega⟩ rfl (Nat.le_of_ble_eq_true rfl) dX3_reckonComparison_96 (fun v w1 H1 L1 hp hW hzz hkk hdd => ?_)
    obtain ⟨z, rfl, rfl, ggz⟩ := hp
    clear hzz hkk hdd
    generalize H1 = H at hW  ⊢
    generalize L1 = locs at hW ⊢
    have hW : Wd Z A s.heap (cw Z hc z ++ [ea Z q2 w f2, ea Z q1 w f1]) _ _ := hW
    refine W.eq (g2 := F0 m 99 ls [.int (nI (xn y))]) rfl ?_
    have tz := ty.g ggz
    have hnz := tz.2.2.1
    have huz := (stp.of ggz).2.2.2
    have kz := cex.rf z
    have e0 : stp x σ (1 + 1 + 6 * w + 1) z := by have h := tz; rw [Nat.zero_add] at h; exact h
    have hcf := e0.cost (j := 0) (K := KK) (by omega)
    rw [hKK] at hcf
    have hW : Wd Z A s.heap (cw Z hc z) _ _ := hW.sub [0, 1, 2, 3, 4] (by decide) rfl
    refine e_int hx hb hr hlk hAe hW (by rw [hGe]; omega) (by rw [hGe]; omega) dX3_reckonComparison_99 ⟨z, xn y, rfl, rfl, by rw [hGe]; exact e0, by omega, fun τ hτ => ?_⟩
    rw [gval ggz (by decide) kz (by omega) (by have := ty.1.1; omega) τ, c_op3, vl_1 tz.1 hτ, ggz.2.2.2.2.1.vl hby, hvy τ hτ]
    dsimp only
    rw [v1 τ hτ, v2 τ hτ]
    exact Bool.xor_true _
  · have hGe : GC 4 w = 1 + 1 + 6 * w := rfl
    rw [hGe] at hRc hRs hn
    obtain ⟨KK, hKK⟩ : ∃ k, k = 1 + 1 + 6 * w := ⟨_, rfl⟩
    rw [← hKK] at hRc hRs hn
    refine lv_iload_n hx hb dX3_reckonComparison_0 rfl (lv_at hl 1 rfl) ?_
    refine lv_tableOut (tgt := 100) hx hb dX3_reckonComparison_1 (by decide) (by decide) ?_
    refine lv_aload_n hx hb dX3_reckonComparison_100 rfl (lv_at hl 0 rfl) ?_
    refine r_get hx hb hts hown hK (hro.1.here hAe hW) rfl in_X3 0 (by decide) tb_97 (fun _ h => h) rfl dX3_reckonComparison_101 ?_
    refine lv_aload_n hx hb dX3_reckonComparison_104 rfl (lv_at hl 0 rfl) ?_
    refine r_get hx hb hts hown hK (hro.1.here hAe hW) rfl in_X3 0 (by decide) tb_97 (fun _ h => h) rfl dX3_reckonComparison_105 ?_
    refine lv_aload_n hx hb dX3_reckonComparison_108 rfl (lv_at hl 3 rfl) ?_
    have hcos := hx1.cost (j := 1) (K := KK) (by omega)
    refine c_virt (As := [.ref ab]) (rest := [.ref hk]) (wc := cw Z hc x) (wr := []) (nl := 0) hx hb hml hown hts hK hG rfl hA hl (k_signTurned l Z hk hc x σ ab w rb hx1.1 (by omega) hw hw1 hrb) hW ⟨RO.pass hro.2.1 hAe hW, RO.pass hro.2.2.2 hAe hW⟩ (hro.2.1.here hAe hW) rfl rfl tb_689 tb_690 tb_691 tb_2 tb_692 (nA := 1) (by decide +kernel) rfl ⟨by omega, by omega⟩ ⟨by omega, by omega⟩ rfl (Nat.le_of_ble_eq_true rfl) dX3_reckonComparison_109 (fun v w1 H1 L1 hp hW hzz hkk hdd => ?_)
    obtain ⟨y1, q1, f1, rfl, rfl, hsy1, hfby1, hfsy1⟩ := hp
    clear hzz hkk hdd
    generalize H1 = H at hW  ⊢
    generalize L1 = locs at hW ⊢
    have hW : Wd Z A s.heap (cw Z hc y1 ++ [ea Z q1 w f1]) _ _ := hW
    refine W.eq (g2 := F0 m 112 ls [.ref q1, .ref hk]) rfl ?_
    have ty1 := hx1.tr hsy1
    have hny1 := ty1.2.2.1
    have huy1 := hsy1.2.2.2
    refine lv_aload_n hx hb dX3_reckonComparison_112 rfl (lv_at hl 0 rfl) ?_
    refine r_get hx hb hts hown hK (hro.1.here hAe hW) rfl in_X3 0 (by decide) tb_97 (fun _ h => h) rfl dX3_reckonComparison_113 ?_
    refine lv_aload_n hx hb dX3_reckonComparison_116 rfl (lv_at hl 2 rfl) ?_
    have hcos := ty1.cost (j := 1) (K := KK) (by omega)
    refine c_virt (As := [.ref aa]) (rest := [.ref q1, .ref hk]) (wc := cw Z hc y1) (wr := [ea Z q1 w f1]) (nl := 0) hx hb hml hown hts hK hG rfl hA hl (k_signTurned l Z hk hc y1 σ aa w ra ty1.1 (by omega) hw hw1 (fun j hj => by have := hra j hj; omega)) hW ⟨RO.pass hro.2.1 hAe hW, RO.pass hro.2.2.1 hAe hW⟩ (hro.2.1.here hAe hW) rfl rfl tb_689 tb_690 tb_691 tb_2 tb_692 (nA := 1) (by decide +kernel) rfl ⟨by omega, by omega⟩ ⟨by omega, by omega⟩ rfl (Nat.le_of_ble_eq_true rfl) dX3_reckonComparison_117 (fun v w1 H1 L1 hp hW hzz hkk hdd => ?_)
    obtain ⟨y2, q2, f2, rfl, rfl, hsy2, hfby2, hfsy2⟩ := hp
    clear hzz hkk hdd
    generalize H1 = H at hW  ⊢
    generalize L1 = locs at hW ⊢
    have hW : Wd Z A s.heap (cw Z hc y2 ++ [ea Z q2 w f2, ea Z q1 w f1]) _ _ := hW
    refine W.eq (g2 := F0 m 120 ls [.ref q2, .ref q1, .ref hk]) rfl ?_
    have ty2 := ty1.tr hsy2
    have hny2 := ty2.2.2.1
    have huy2 := hsy2.2.2.2
    have hcoa := ty2.cost (j := 6 * w) (K := KK) (by omega)
    refine c_virt (As := [.ref q1, .ref q2]) (rest := []) (wc := cw Z hc y2) (wr := [ea Z q2 w f2, ea Z q1 w f1]) (nl := 0) hx hb hml hown hts hK hG rfl hA hl (k_atLeast l Z hk hc y2 σ q1 q2 w f1 f2 ty2.1 (by omega) hw (fun j hj => by have := hfby1 j hj; omega) hfby2) hW ⟨RO.pass hro.2.1 hAe hW, RO.loc hW 1 rfl, RO.loc hW 0 rfl⟩ (hro.2.1.here hAe hW) rfl rfl tb_684 tb_685 tb_686 tb_2 tb_687 (nA := 2) (by decide +kernel) rfl ⟨by omega, by omega⟩ ⟨by omega, by omega⟩ rfl (Nat.le_of_ble_eq_true rfl) dX3_reckonComparison_120 (fun v w1 H1 L1 hp hW hzz hkk hdd => ?_)
    obtain ⟨y, gy, rfl, rfl, hsy, hby, hvy⟩ := hp
    clear hzz hkk hdd
    generalize H1 = H at hW  ⊢
    generalize L1 = locs at hW ⊢
    have hW : Wd Z A s.heap (cw Z hc y ++ [ea Z q2 w f2, ea Z q1 w f1]) _ _ := hW
    refine W.eq (g2 := F0 m 123 ls [.int (nI gy)]) rfl ?_
    have huy := hsy.2.2.2
    have ty := ty2.tr hsy
    have hny := ty.2.2.1
    have v1 : ∀ τ, gd τ → rn y2 τ f1 w = tn x τ rb w := fun τ hτ => by
      rw [rn_ex hsy2.2.1 hfby1]; exact bn_congr (hfsy1 τ hτ)
    have v2 : ∀ τ, gd τ → rn y2 τ f2 w = tn x τ ra w := fun τ hτ => by
      have h : rn y2 τ f2 w = tn y1 τ ra w := bn_congr (hfsy2 τ hτ)
      rw [h]
      exact bn_congr (fun j hj => by rw [hsy1.2.1.vl (hra j hj)])
    have e0 : stp x σ (1 + 1 + 6 * w) y := by have h := ty; rw [Nat.zero_add] at h; exact h
    have hcf := e0.cost (j := 0) (K := KK) (by omega)
    rw [hKK] at hcf
    have hW : Wd Z A s.heap (cw Z hc y) _ _ := hW.sub [0, 1, 2, 3, 4] (by decide) rfl
    refine e_int hx hb hr hlk hAe hW (by rw [hGe]; omega) (by rw [hGe]; omega) dX3_reckonComparison_123 ⟨y, gy, rfl, rfl, by rw [hGe]; exact e0, by omega, fun τ hτ => ?_⟩
    rw [hvy τ hτ]
    dsimp only
    rw [v1 τ hτ, v2 τ hτ]
    rfl
