/-- a new row of w signals, k gates more, bit j worth F τ j -/
def rowQ (Z : Zt) (hc : Nat) (x : CS) (σ : Nat → Bool) (k w : Nat) (F : (Nat → Bool) → Nat → Bool) (v : Option Value) (w1 : va_W) : Prop := ∃ (y : CS) (q : Nat) (f : Nat → Nat), v = some (.ref q) ∧ w1 = cw Z hc y ++ [ea Z q w f] ∧ stp x σ k y ∧ (∀ j, j < w → f j < xn y) ∧ ∀ τ, gd τ → ∀ j, j < w → vl y τ (f j) = F τ j
theorem pick_b (c a b : Bool) : (b ^^ (c && (a ^^ b))) = if c then a else b := by cases c <;> cases a <;> cases b <;> rfl
set_option maxHeartbeats 4000000 in
set_option maxRecDepth 100000 in
/-- Reckoner.inverted -/
theorem k_inverted (l : Launch) (Z : Zt) (hk hc : Nat) (x : CS) (σ : Nat → Bool) (aa w : Nat) (ra : Nat → Nat) (hx0 : cok x σ) (hn : xn x + 1 * w < 400000) (hw : w ≤ 64) (hra : ∀ j, j < w → ra j < xn x) : MC l yX1_inverted cX1_inverted 4 (some (.array .int)) 5 220 (1 + 4 * (capU (xu x) (xn x + 1 * w) - xu x)) (w + 512 * (capU (xu x) (xn x + 1 * w) - xu x)) Z (cw Z hc x) (fun H => RO Z (cw Z hc x) (eo hk 1 [.ref hc]) H ∧ RO Z (cw Z hc x) (ea Z aa w ra) H) [.ref hk, .ref aa] (rowQ Z hc x σ (1 * w) w (fun τ j => !vl x τ (ra j))) := by
  refine mc_of (by decide) (Nat.le_of_ble_eq_true rfl) (fun p e s m below meth c ls A hx hb hr hts hown hlk hml hin hK hG hW hA hAe hro hl R hRf hRc hRs hRl => ?_)
  have hl : lv_has ls 4 [(0, .ref hk), (1, .ref aa)] := hl
  have hW : Wd Z A s.heap (cw Z hc x ++ []) _ _ := hW
  obtain ⟨KK, hKK⟩ : ∃ k, k = 1 * w := ⟨_, rfl⟩
  rw [← hKK] at hRc hRs
  have loop : ∀ (d i : Nat) (y : CS) (q : Nat) (row : Nat → Nat) (H : Heap) (locs : List Loc) (cl sl : Nat) (ls : Array Slot), i + d = w → stp x σ (1 * i) y → (∀ j, j < i → row j < xn y) → (∀ τ, gd τ → ∀ j, j < i → vl y τ (row j) = (fun τ j => !vl x τ (ra j)) τ j) → cl = 1 + 4 * (xu y - xu x) → sl = w + 512 * (xu y - xu x) → Wd Z A s.heap (cw Z hc y ++ [ea Z q w row]) H locs → lv_has ls 4 [(0, .ref hk), (1, .ref aa), (2, .ref q), (3, .int (nI i))] → W p l e R s m ([.ref hk, .ref aa] : List Value).toArray below meth c H locs cl sl (MQ below (QC Z (cw Z hc x) s.heap.size (rowQ Z hc x σ (1 * w) w (fun τ j => !vl x τ (ra j)))) ([.ref hk, .ref aa] : List Value).toArray s (1 + 4 * (capU (xu x) (xn x + 1 * w) - xu x)) (w + 512 * (capU (xu x) (xn x + 1 * w) - xu x)) A) (F0 m 7 ls []) := by
    intro d
    induction d with
    | zero =>
      intro i y q row H locs cl sl ls hid hy hrow hsem hcl hsl hW hl
      have hi : i = w := by omega
      refine lv_iload_n hx hb dX1_inverted_7 rfl (lv_at hl 3 rfl) ?_
      refine lv_aload_n hx hb dX1_inverted_8 rfl (lv_at hl 1 rfl) ?_
      refine r_len hx hb hK (hro.2.here hAe hW) dX1_inverted_9 ?_
      refine n_ge_t (tgt := 32) hx hb (by omega) (by omega) dX1_inverted_10 (by decide) ?_
      refine lv_aload_n hx hb dX1_inverted_32 rfl (lv_at hl 2 rfl) ?_
      have hco := hy.cost (j := 0) (K := KK) (by omega)
      rw [hKK] at hco hRc hRs
      rw [hi] at hy hrow hsem
      exact e_ref hx hb hr (Or.inr ⟨_, rfl⟩) hlk hAe hW (by have := hy.2.2.2; omega) (by have := hy.2.2.2; omega) dX1_inverted_33 ⟨y, q, row, rfl, rfl, hy, hrow, hsem⟩
    | succ d ih =>
      intro i y q row H locs cl sl ls hid hy hrow hsem hcl hsl hW hl
      have hny := hy.2.2.1
      have hra_i := hra i (by omega)
      refine lv_iload_n hx hb dX1_inverted_7 rfl (lv_at hl 3 rfl) ?_
      refine lv_aload_n hx hb dX1_inverted_8 rfl (lv_at hl 1 rfl) ?_
      refine r_len hx hb hK (hro.2.here hAe hW) dX1_inverted_9 ?_
      refine n_ge_f (tgt := 32) hx hb (by omega) (by omega) dX1_inverted_10 (by decide) ?_
      refine lv_aload_n hx hb dX1_inverted_13 rfl (lv_at hl 2 rfl) ?_
      refine lv_iload_n hx hb dX1_inverted_14 rfl (lv_at hl 3 rfl) ?_
      refine lv_aload_n hx hb dX1_inverted_15 rfl (lv_at hl 0 rfl) ?_
      refine r_get hx hb hts hown hK (hro.1.here hAe hW) rfl in_X1 0 (by decide) tb_66 (fun _ h => h) rfl dX1_inverted_16 ?_
      refine lv_aload_n hx hb dX1_inverted_19 rfl (lv_at hl 1 rfl) ?_
      refine lv_iload_n hx hb dX1_inverted_20 rfl (lv_at hl 3 rfl) ?_
      refine r_ald (i := i) hx hb hK (hro.2.here hAe hW) (by omega) (by omega) dX1_inverted_21 ?_
      have hsy := hy
      have hco := hy.cost (j := 1) (K := KK) (by omega)
      refine c_virt (As := [.int (nI (ra i))]) (rest := [.int (nI i), .ref q]) (wc := cw Z hc y) (wr := [ea Z q w row]) (nl := 0) hx hb hml hown hts hK hG rfl hA hl (k_not l Z hc y σ (ra i) hy.1 (by omega) (by omega)) hW trivial (hW.at 0 rfl) rfl rfl tb_360 tb_361 tb_362 tb_3 tb_363 (nA := 1) (by decide +kernel) rfl ⟨by omega, by omega⟩ ⟨by omega, by omega⟩ rfl (Nat.le_of_ble_eq_true rfl) dX1_inverted_22 (fun v w1 H1 L1 hp hW hzz hkk hdd => ?_)
      obtain ⟨y1, rfl, rfl, gy1⟩ := hp
      clear hzz hkk hdd
      generalize H1 = H at hW  ⊢
      generalize L1 = locs at hW ⊢
      have hW : Wd Z A s.heap (cw Z hc y1 ++ [ea Z q w row]) _ _ := hW
      refine W.eq (g2 := F0 m 25 ls [.int (nI (xn y)), .int (nI i), .ref q]) rfl ?_
      have hy1 := hy.g gy1
      have hny1 := hy1.2.2.1
      have huy1 := (stp.of gy1).2.2.2
      have k1 := cex.rf y1
      have k0 := gy1.2.2.2.2.1.tr k1
      refine r_ast (i := i) (x := (xn y)) hx hb hK hW 5 rfl (by omega) (by omega) dX1_inverted_25 (fun H locs hW => ?_)
      have hW : Wd Z A s.heap (cw Z hc y1 ++ [ea Z q w (up row i (xn y))]) _ _ := hW
      refine lv_iinc (v := nI (i + 1)) (lv' := [(3, .int (nI (i + 1))), (0, .ref hk), (1, .ref aa), (2, .ref q)]) hx hb dX1_inverted_26 hl (k := 3) rfl (inc1 _) (by decide) rfl (fun ls hl => ?_)
      refine lv_goto (tgt := 7) hx hb dX1_inverted_29 (by decide) ?_
      refine ih (i + 1) y1 q (up row i (xn y)) _ _ _ _ ls (by omega) (by have e : 1 * (i + 1) = 1 * i + 1 := (by omega); rw [e]; exact hy1) (fun j hj => ?_) (fun τ hτ j hj => ?_) ?_ ?_ hW (lv_sub hl [1, 2, 3, 0] rfl)
      · by_cases e : j = i
        · subst e; rw [up_s]; omega
        · rw [up_n _ _ e]; have := hrow j (by omega); omega
      · by_cases e : j = i
        · subst e
          rw [up_s]
          rw [gval gy1 (by decide) k1 (by omega) (by have := hy.1.1; omega) τ, c_op3, vl_1 hy1.1 hτ, hy1.2.1.vl hra_i]
          exact Bool.xor_true _
        · rw [up_n _ _ e, k0.vl (hrow j (by omega))]
          exact hsem τ hτ j (by omega)
      · omega
      · omega
  refine lv_aload_n hx hb dX1_inverted_0 rfl (lv_at hl 1 rfl) ?_
  refine r_len hx hb hK (hro.2.here hAe hW) dX1_inverted_1 ?_
  refine r_newa (n := w) hx hb hts tb_65 hK hW hA (by omega) (by omega) (by omega) dX1_inverted_2 (fun q H hW hsz_q hq_q => ?_)
  have hW : Wd Z A s.heap (cw Z hc x ++ [ea Z q w (fun _ => 0)]) _ _ := hW
  refine lv_astore_n (lv' := [(2, .ref q), (0, .ref hk), (1, .ref aa)]) hx hb dX1_inverted_4 rfl hl (by decide) rfl (fun ls hl => ?_)
  refine lv_iconst (v := nI 0) hx hb dX1_inverted_5 (by decide) ?_
  refine lv_istore_n (lv' := [(3, .int (nI 0)), (2, .ref q), (0, .ref hk), (1, .ref aa)]) hx hb dX1_inverted_6 rfl hl (by decide) rfl (fun ls hl => ?_)
  exact loop w 0 x q (fun _ => 0) _ _ _ _ ls (by omega) (stp.rf hx0) (fun j hj => absurd hj (by omega)) (fun τ hτ j hj => absurd hj (by omega)) (by omega) (by omega) hW (lv_sub hl [2, 3, 1, 0] rfl)
set_option maxHeartbeats 4000000 in
set_option maxRecDepth 100000 in
/-- Reckoner.joined -/
theorem k_joined (l : Launch) (Z : Zt) (hk hc : Nat) (x : CS) (σ : Nat → Bool) (kd aa ab w : Nat) (ra rb : Nat → Nat) (hx0 : cok x σ) (hn : xn x + 1 * w < 400000) (hw : w ≤ 64) (hkd : kd ≠ 0) (hkd3 : kd ≤ 3) (hra : ∀ j, j < w → ra j < xn x) (hrb : ∀ j, j < w → rb j < xn x) : MC l yX1_joined cX1_joined 6 (some (.array .int)) 5 220 (1 + 4 * (capU (xu x) (xn x + 1 * w) - xu x)) (w + 512 * (capU (xu x) (xn x + 1 * w) - xu x)) Z (cw Z hc x) (fun H => RO Z (cw Z hc x) (eo hk 1 [.ref hc]) H ∧ RO Z (cw Z hc x) (ea Z aa w ra) H ∧ RO Z (cw Z hc x) (ea Z ab w rb) H) [.ref hk, .int (nI kd), .ref aa, .ref ab] (rowQ Z hc x σ (1 * w) w (fun τ j => c_op kd (vl x τ (ra j)) (vl x τ (rb j)))) := by
  refine mc_of (by decide) (Nat.le_of_ble_eq_true rfl) (fun p e s m below meth c ls A hx hb hr hts hown hlk hml hin hK hG hW hA hAe hro hl R hRf hRc hRs hRl => ?_)
  have hl : lv_has ls 6 [(0, .ref hk), (1, .int (nI kd)), (2, .ref aa), (3, .ref ab)] := hl
  have hW : Wd Z A s.heap (cw Z hc x ++ []) _ _ := hW
  obtain ⟨KK, hKK⟩ : ∃ k, k = 1 * w := ⟨_, rfl⟩
  rw [← hKK] at hRc hRs
  have loop : ∀ (d i : Nat) (y : CS) (q : Nat) (row : Nat → Nat) (H : Heap) (locs : List Loc) (cl sl : Nat) (ls : Array Slot), i + d = w → stp x σ (1 * i) y → (∀ j, j < i → row j < xn y) → (∀ τ, gd τ → ∀ j, j < i → vl y τ (row j) = (fun τ j => c_op kd (vl x τ (ra j)) (vl x τ (rb j))) τ j) → cl = 1 + 4 * (xu y - xu x) → sl = w + 512 * (xu y - xu x) → Wd Z A s.heap (cw Z hc y ++ [ea Z q w row]) H locs → lv_has ls 6 [(0, .ref hk), (1, .int (nI kd)), (2, .ref aa), (3, .ref ab), (4, .ref q), (5, .int (nI i))] → W p l e R s m ([.ref hk, .int (nI kd), .ref aa, .ref ab] : List Value).toArray below meth c H locs cl sl (MQ below (QC Z (cw Z hc x) s.heap.size (rowQ Z hc x σ (1 * w) w (fun τ j => c_op kd (vl x τ (ra j)) (vl x τ (rb j))))) ([.ref hk, .int (nI kd), .ref aa, .ref ab] : List Value).toArray s (1 + 4 * (capU (xu x) (xn x + 1 * w) - xu x)) (w + 512 * (capU (xu x) (xn x + 1 * w) - xu x)) A) (F0 m 9 ls []) := by
    intro d
    induction d with
    | zero =>
      intro i y q row H locs cl sl ls hid hy hrow hsem hcl hsl hW hl
      have hi : i = w := by omega
      refine lv_iload hx hb dX1_joined_9 (lv_at hl 5 rfl) ?_
      refine lv_aload_n hx hb dX1_joined_11 rfl (lv_at hl 2 rfl) ?_
      refine r_len hx hb hK (hro.2.1.here hAe hW) dX1_joined_12 ?_
      refine n_ge_t (tgt := 43) hx hb (by omega) (by omega) dX1_joined_13 (by decide) ?_
      refine lv_aload hx hb dX1_joined_43 (lv_at hl 4 rfl) ?_
      have hco := hy.cost (j := 0) (K := KK) (by omega)
      rw [hKK] at hco hRc hRs
      rw [hi] at hy hrow hsem
      exact e_ref hx hb hr (Or.inr ⟨_, rfl⟩) hlk hAe hW (by have := hy.2.2.2; omega) (by have := hy.2.2.2; omega) dX1_joined_45 ⟨y, q, row, rfl, rfl, hy, hrow, hsem⟩
    | succ d ih =>
      intro i y q row H locs cl sl ls hid hy hrow hsem hcl hsl hW hl
      have hny := hy.2.2.1
      have hra_i := hra i (by omega)
      have hrb_i := hrb i (by omega)
      refine lv_iload hx hb dX1_joined_9 (lv_at hl 5 rfl) ?_
      refine lv_aload_n hx hb dX1_joined_11 rfl (lv_at hl 2 rfl) ?_
      refine r_len hx hb hK (hro.2.1.here hAe hW) dX1_joined_12 ?_
      refine n_ge_f (tgt := 43) hx hb (by omega) (by omega) dX1_joined_13 (by decide) ?_
      refine lv_aload hx hb dX1_joined_16 (lv_at hl 4 rfl) ?_
      refine lv_iload hx hb dX1_joined_18 (lv_at hl 5 rfl) ?_
      refine lv_aload_n hx hb dX1_joined_20 rfl (lv_at hl 0 rfl) ?_
      refine r_get hx hb hts hown hK (hro.1.here hAe hW) rfl in_X1 0 (by decide) tb_66 (fun _ h => h) rfl dX1_joined_21 ?_
      refine lv_iload_n hx hb dX1_joined_24 rfl (lv_at hl 1 rfl) ?_
      refine lv_aload_n hx hb dX1_joined_25 rfl (lv_at hl 2 rfl) ?_
      refine lv_iload hx hb dX1_joined_26 (lv_at hl 5 rfl) ?_
      refine r_ald (i := i) hx hb hK (hro.2.1.here hAe hW) (by omega) (by omega) dX1_joined_28 ?_
      refine lv_aload_n hx hb dX1_joined_29 rfl (lv_at hl 3 rfl) ?_
      refine lv_iload hx hb dX1_joined_30 (lv_at hl 5 rfl) ?_
      refine r_ald (i := i) hx hb hK (hro.2.2.here hAe hW) (by omega) (by omega) dX1_joined_32 ?_
      have hco := hy.cost (j := 1) (K := KK) (by omega)
      refine c_virt (As := [.int (nI kd), .int (nI (ra i)), .int (nI (rb i))]) (rest := [.int (nI i), .ref q]) (wc := cw Z hc y) (wr := [ea Z q w row]) (nl := 0) hx hb hml hown hts hK hG rfl hA hl (k_gate l Z hc y σ kd (ra i) (rb i) hy.1 (by omega) (by omega) (by omega) (by omega) (by omega)) hW trivial (hW.at 0 rfl) rfl rfl tb_411 tb_227 tb_228 tb_3 tb_229 (nA := 3) (by decide +kernel) rfl ⟨by omega, by omega⟩ ⟨by omega, by omega⟩ rfl (Nat.le_of_ble_eq_true rfl) dX1_joined_33 (fun v w1 H1 L1 hp hW hzz hkk hdd => ?_)
      obtain ⟨y1, rfl, rfl, gy1⟩ := hp
      clear hzz hkk hdd
      generalize H1 = H at hW  ⊢
      generalize L1 = locs at hW ⊢
      have hW : Wd Z A s.heap (cw Z hc y1 ++ [ea Z q w row]) _ _ := hW
      refine W.eq (g2 := F0 m 36 ls [.int (nI (xn y)), .int (nI i), .ref q]) rfl ?_
      have hy1 := hy.g gy1
      have hny1 := hy1.2.2.1
      have huy1 := (stp.of gy1).2.2.2
      have k1 := cex.rf y1
      have k0 := gy1.2.2.2.2.1.tr k1
      refine r_ast (i := i) (x := (xn y)) hx hb hK hW 5 rfl (by omega) (by omega) dX1_joined_36 (fun H locs hW => ?_)
      have hW : Wd Z A s.heap (cw Z hc y1 ++ [ea Z q w (up row i (xn y))]) _ _ := hW
      refine lv_iinc (v := nI (i + 1)) (lv' := [(5, .int (nI (i + 1))), (0, .ref hk), (1, .int (nI kd)), (2, .ref aa), (3, .ref ab), (4, .ref q)]) hx hb dX1_joined_37 hl (k := 5) rfl (inc1 _) (by decide) rfl (fun ls hl => ?_)
      refine lv_goto (tgt := 9) hx hb dX1_joined_40 (by decide) ?_
      refine ih (i + 1) y1 q (up row i (xn y)) _ _ _ _ ls (by omega) (by have e : 1 * (i + 1) = 1 * i + 1 := (by omega); rw [e]; exact hy1) (fun j hj => ?_) (fun τ hτ j hj => ?_) ?_ ?_ hW (lv_sub hl [1, 2, 3, 4, 5, 0] rfl)
      · by_cases e : j = i
        · subst e; rw [up_s]; omega
        · rw [up_n _ _ e]; have := hrow j (by omega); omega
      · by_cases e : j = i
        · subst e
          rw [up_s]
          rw [gval gy1 hkd k1 (by omega) (by omega) τ, hy1.2.1.vl hra_i, hy1.2.1.vl hrb_i]
        · rw [up_n _ _ e, k0.vl (hrow j (by omega))]
          exact hsem τ hτ j (by omega)
      · omega
      · omega
  refine lv_aload_n hx hb dX1_joined_0 rfl (lv_at hl 2 rfl) ?_
  refine r_len hx hb hK (hro.2.1.here hAe hW) dX1_joined_1 ?_
  refine r_newa (n := w) hx hb hts tb_65 hK hW hA (by omega) (by omega) (by omega) dX1_joined_2 (fun q H hW hsz_q hq_q => ?_)
  have hW : Wd Z A s.heap (cw Z hc x ++ [ea Z q w (fun _ => 0)]) _ _ := hW
  refine lv_astore (lv' := [(4, .ref q), (0, .ref hk), (1, .int (nI kd)), (2, .ref aa), (3, .ref ab)]) hx hb dX1_joined_4 hl (by decide) rfl (fun ls hl => ?_)
  refine lv_iconst (v := nI 0) hx hb dX1_joined_6 (by decide) ?_
  refine lv_istore (lv' := [(5, .int (nI 0)), (4, .ref q), (0, .ref hk), (1, .int (nI kd)), (2, .ref aa), (3, .ref ab)]) hx hb dX1_joined_7 hl (by decide) rfl (fun ls hl => ?_)
  exact loop w 0 x q (fun _ => 0) _ _ _ _ ls (by omega) (stp.rf hx0) (fun j hj => absurd hj (by omega)) (fun τ hτ j hj => absurd hj (by omega)) (by omega) (by omega) hW (lv_sub hl [2, 3, 4, 5, 1, 0] rfl)
set_option maxHeartbeats 4000000 in
set_option maxRecDepth 100000 in
/-- Reckoner.picked -/
theorem k_picked (l : Launch) (Z : Zt) (hk hc : Nat) (x : CS) (σ : Nat → Bool) (cd aa ab w wa : Nat) (ra rb : Nat → Nat) (hx0 : cok x σ) (hn : xn x + 3 * w < 400000) (hw : w ≤ 64) (hwa : w ≤ wa) (hwa2 : wa ≤ 65) (hcd : cd < xn x) (hra : ∀ j, j < w → ra j < xn x) (hrb : ∀ j, j < w → rb j < xn x) : MC l yX1_picked cX1_picked 7 (some (.array .int)) 5 220 (1 + 4 * (capU (xu x) (xn x + 3 * w) - xu x)) (w + 512 * (capU (xu x) (xn x + 3 * w) - xu x)) Z (cw Z hc x) (fun H => RO Z (cw Z hc x) (eo hk 1 [.ref hc]) H ∧ RO Z (cw Z hc x) (ea Z aa wa ra) H ∧ RO Z (cw Z hc x) (ea Z ab w rb) H) [.ref hk, .int (nI cd), .ref aa, .ref ab] (rowQ Z hc x σ (3 * w) w (fun τ j => if vl x τ cd then vl x τ (ra j) else vl x τ (rb j))) := by
  refine mc_of (by decide) (Nat.le_of_ble_eq_true rfl) (fun p e s m below meth c ls A hx hb hr hts hown hlk hml hin hK hG hW hA hAe hro hl R hRf hRc hRs hRl => ?_)
  have hl : lv_has ls 7 [(0, .ref hk), (1, .int (nI cd)), (2, .ref aa), (3, .ref ab)] := hl
  have hW : Wd Z A s.heap (cw Z hc x ++ []) _ _ := hW
  obtain ⟨KK, hKK⟩ : ∃ k, k = 3 * w := ⟨_, rfl⟩
  rw [← hKK] at hRc hRs
  have loop : ∀ (d i : Nat) (y : CS) (q : Nat) (row : Nat → Nat) (H : Heap) (locs : List Loc) (cl sl : Nat) (ls : Array Slot), i + d = w → stp x σ (3 * i) y → (∀ j, j < i → row j < xn y) → (∀ τ, gd τ → ∀ j, j < i → vl y τ (row j) = (fun τ j => if vl x τ cd then vl x τ (ra j) else vl x τ (rb j)) τ j) → cl = 1 + 4 * (xu y - xu x) → sl = w + 512 * (xu y - xu x) → Wd Z A s.heap (cw Z hc y ++ [ea Z q w row]) H locs → lv_has ls 7 [(0, .ref hk), (1, .int (nI cd)), (2, .ref aa), (3, .ref ab), (4, .ref q), (5, .int (nI i))] → W p l e R s m ([.ref hk, .int (nI cd), .ref aa, .ref ab] : List Value).toArray below meth c H locs cl sl (MQ below (QC Z (cw Z hc x) s.heap.size (rowQ Z hc x σ (3 * w) w (fun τ j => if vl x τ cd then vl x τ (ra j) else vl x τ (rb j)))) ([.ref hk, .int (nI cd), .ref aa, .ref ab] : List Value).toArray s (1 + 4 * (capU (xu x) (xn x + 3 * w) - xu x)) (w + 512 * (capU (xu x) (xn x + 3 * w) - xu x)) A) (F0 m 9 ls []) := by
    intro d
    induction d with
    | zero =>
      intro i y q row H locs cl sl ls hid hy hrow hsem hcl hsl hW hl
      have hi : i = w := by omega
      refine lv_iload hx hb dX1_picked_9 (lv_at hl 5 rfl) ?_
      refine lv_aload_n hx hb dX1_picked_11 rfl (lv_at hl 3 rfl) ?_
      refine r_len hx hb hK (hro.2.2.here hAe hW) dX1_picked_12 ?_
      refine n_ge_t (tgt := 65) hx hb (by omega) (by omega) dX1_picked_13 (by decide) ?_
      refine lv_aload hx hb dX1_picked_65 (lv_at hl 4 rfl) ?_
      have hco := hy.cost (j := 0) (K := KK) (by omega)
      rw [hKK] at hco hRc hRs
      rw [hi] at hy hrow hsem
      exact e_ref hx hb hr (Or.inr ⟨_, rfl⟩) hlk hAe hW (by have := hy.2.2.2; omega) (by have := hy.2.2.2; omega) dX1_picked_67 ⟨y, q, row, rfl, rfl, hy, hrow, hsem⟩
    | succ d ih =>
      intro i y q row H locs cl sl ls hid hy hrow hsem hcl hsl hW hl
      have hny := hy.2.2.1
      have hra_i := hra i (by omega)
      have hrb_i := hrb i (by omega)
      refine lv_iload hx hb dX1_picked_9 (lv_at hl 5 rfl) ?_
      refine lv_aload_n hx hb dX1_picked_11 rfl (lv_at hl 3 rfl) ?_
      refine r_len hx hb hK (hro.2.2.here hAe hW) dX1_picked_12 ?_
      refine n_ge_f (tgt := 65) hx hb (by omega) (by omega) dX1_picked_13 (by decide) ?_
      refine lv_aload_n hx hb dX1_picked_16 rfl (lv_at hl 0 rfl) ?_
      refine r_get hx hb hts hown hK (hro.1.here hAe hW) rfl in_X1 0 (by decide) tb_66 (fun _ h => h) rfl dX1_picked_17 ?_
      refine lv_aload_n hx hb dX1_picked_20 rfl (lv_at hl 2 rfl) ?_
      refine lv_iload hx hb dX1_picked_21 (lv_at hl 5 rfl) ?_
      refine r_ald (i := i) hx hb hK (hro.2.1.here hAe hW) (by omega) (by omega) dX1_picked_23 ?_
      refine lv_aload_n hx hb dX1_picked_24 rfl (lv_at hl 3 rfl) ?_
      refine lv_iload hx hb dX1_picked_25 (lv_at hl 5 rfl) ?_
      refine r_ald (i := i) hx hb hK (hro.2.2.here hAe hW) (by omega) (by omega) dX1_picked_27 ?_
      have hsy := hy
      have hco := hy.cost (j := 1) (K := KK) (by omega)
      refine c_virt (As := [.int (nI (ra i)), .int (nI (rb i))]) (rest := []) (wc := cw Z hc y) (wr := [ea Z q w row]) (nl := 0) hx hb hml hown hts hK hG rfl hA hl (k_xor l Z hc y σ (ra i) (rb i) hy.1 (by omega) (by omega) (by omega)) hW trivial (hW.at 0 rfl) rfl rfl tb_368 tb_369 tb_370 tb_3 tb_371 (nA := 2) (by decide +kernel) rfl ⟨by omega, by omega⟩ ⟨by omega, by omega⟩ rfl (Nat.le_of_ble_eq_true rfl) dX1_picked_28 (fun v w1 H1 L1 hp hW hzz hkk hdd => ?_)
      obtain ⟨y1, rfl, rfl, gy1⟩ := hp
      clear hzz hkk hdd
      generalize H1 = H at hW  ⊢
      generalize L1 = locs at hW ⊢
      have hW : Wd Z A s.heap (cw Z hc y1 ++ [ea Z q w row]) _ _ := hW
      refine W.eq (g2 := F0 m 31 ls [.int (nI (xn y))]) rfl ?_
      have hy1 := hy.g gy1
      have hny1 := hy1.2.2.1
      have huy1 := (stp.of gy1).2.2.2
      refine lv_istore (lv' := [(6, .int (nI (xn y))), (0, .ref hk), (1, .int (nI cd)), (2, .ref aa), (3, .ref ab), (4, .ref q), (5, .int (nI i))]) hx hb dX1_picked_31 hl (by decide) rfl (fun ls hl => ?_)
      refine lv_aload hx hb dX1_picked_33 (lv_at hl 5 rfl) ?_
      refine lv_iload hx hb dX1_picked_35 (lv_at hl 6 rfl) ?_
      refine lv_aload_n hx hb dX1_picked_37 rfl (lv_at hl 1 rfl) ?_
      refine r_get hx hb hts hown hK (hro.1.here hAe hW) rfl in_X1 0 (by decide) tb_66 (fun _ h => h) rfl dX1_picked_38 ?_
      refine lv_aload_n hx hb dX1_picked_41 rfl (lv_at hl 4 rfl) ?_
      refine lv_iload hx hb dX1_picked_42 (lv_at hl 6 rfl) ?_
      refine r_ald (i := i) hx hb hK (hro.2.2.here hAe hW) (by omega) (by omega) dX1_picked_44 ?_
      refine lv_aload_n hx hb dX1_picked_45 rfl (lv_at hl 1 rfl) ?_
      refine r_get hx hb hts hown hK (hro.1.here hAe hW) rfl in_X1 0 (by decide) tb_66 (fun _ h => h) rfl dX1_picked_46 ?_
      refine lv_iload_n hx hb dX1_picked_49 rfl (lv_at hl 2 rfl) ?_
      refine lv_iload hx hb dX1_picked_50 (lv_at hl 0 rfl) ?_
      have hsy1 := hy1
      have hco := hy1.cost (j := 1) (K := KK) (by omega)
      refine c_virt (As := [.int (nI cd), .int (nI (xn y))]) (rest := [.int (nI (rb i)), .ref hc, .int (nI i), .ref q]) (wc := cw Z hc y1) (wr := [ea Z q w row]) (nl := 0) hx hb hml hown hts hK hG rfl hA hl (k_and l Z hc y1 σ cd (xn y) hy1.1 (by omega) (by omega) (by omega)) hW trivial (hW.at 0 rfl) rfl rfl tb_376 tb_377 tb_378 tb_3 tb_379 (nA := 2) (by decide +kernel) rfl ⟨by omega, by omega⟩ ⟨by omega, by omega⟩ rfl (Nat.le_of_ble_eq_true rfl) dX1_picked_52 (fun v w1 H1 L1 hp hW hzz hkk hdd => ?_)
      obtain ⟨y2, rfl, rfl, gy2⟩ := hp
      clear hzz hkk hdd
      generalize H1 = H at hW  ⊢
      generalize L1 = locs at hW ⊢
      have hW : Wd Z A s.heap (cw Z hc y2 ++ [ea Z q w row]) _ _ := hW
      refine W.eq (g2 := F0 m 55 ls [.int (nI (xn y1)), .int (nI (rb i)), .ref hc, .int (nI i), .ref q]) rfl ?_
      have hy2 := hy1.g gy2
      have hny2 := hy2.2.2.1
      have huy2 := (stp.of gy2).2.2.2
      have hsy2 := hy2
      have hco := hy2.cost (j := 1) (K := KK) (by omega)
      refine c_virt (As := [.int (nI (rb i)), .int (nI (xn y1))]) (rest := [.int (nI i), .ref q]) (wc := cw Z hc y2) (wr := [ea Z q w row]) (nl := 0) hx hb hml hown hts hK hG rfl hA hl (k_xor l Z hc y2 σ (rb i) (xn y1) hy2.1 (by omega) (by omega) (by omega)) hW trivial (hW.at 0 rfl) rfl rfl tb_368 tb_369 tb_370 tb_3 tb_371 (nA := 2) (by decide +kernel) rfl ⟨by omega, by omega⟩ ⟨by omega, by omega⟩ rfl (Nat.le_of_ble_eq_true rfl) dX1_picked_55 (fun v w1 H1 L1 hp hW hzz hkk hdd => ?_)
      obtain ⟨y3, rfl, rfl, gy3⟩ := hp
      clear hzz hkk hdd
      generalize H1 = H at hW  ⊢
      generalize L1 = locs at hW ⊢
      have hW : Wd Z A s.heap (cw Z hc y3 ++ [ea Z q w row]) _ _ := hW
      refine W.eq (g2 := F0 m 58 ls [.int (nI (xn y2)), .int (nI i), .ref q]) rfl ?_
      have hy3 := hy2.g gy3
      have hny3 := hy3.2.2.1
      have huy3 := (stp.of gy3).2.2.2
      have k3 := cex.rf y3
      have k2 := gy3.2.2.2.2.1.tr k3
      have k1 := gy2.2.2.2.2.1.tr k2
      have k0 := gy1.2.2.2.2.1.tr k1
      refine r_ast (i := i) (x := (xn y2)) hx hb hK hW 5 rfl (by omega) (by omega) dX1_picked_58 (fun H locs hW => ?_)
      have hW : Wd Z A s.heap (cw Z hc y3 ++ [ea Z q w (up row i (xn y2))]) _ _ := hW
      refine lv_iinc (v := nI (i + 1)) (lv' := [(5, .int (nI (i + 1))), (6, .int (nI (xn y))), (0, .ref hk), (1, .int (nI cd)), (2, .ref aa), (3, .ref ab), (4, .ref q)]) hx hb dX1_picked_59 hl (k := 6) rfl (inc1 _) (by decide) rfl (fun ls hl => ?_)
      refine lv_goto (tgt := 9) hx hb dX1_picked_62 (by decide) ?_
      refine ih (i + 1) y3 q (up row i (xn y2)) _ _ _ _ ls (by omega) (by have e : 3 * (i + 1) = 3 * i + 1 + 1 + 1 := (by omega); rw [e]; exact hy3) (fun j hj => ?_) (fun τ hτ j hj => ?_) ?_ ?_ hW (lv_sub hl [2, 3, 4, 5, 6, 0] rfl)
      · by_cases e : j = i
        · subst e; rw [up_s]; omega
        · rw [up_n _ _ e]; have := hrow j (by omega); omega
      · by_cases e : j = i
        · subst e
          rw [up_s]
          have G1 := gval gy1 (by decide) k1 (by omega) (by omega) τ
          have G2 := gval gy2 (by decide) k2 (by omega) (by omega) τ
          have G3 := gval gy3 (by decide) k3 (by omega) (by omega) τ
          rw [G3, G2, G1, c_op3, c_op3, c_op1, hy3.2.1.vl hra_i, hy3.2.1.vl hrb_i, hy3.2.1.vl hcd]
          exact pick_b _ _ _
        · rw [up_n _ _ e, k0.vl (hrow j (by omega))]
          exact hsem τ hτ j (by omega)
      · omega
      · omega
  refine lv_aload_n hx hb dX1_picked_0 rfl (lv_at hl 3 rfl) ?_
  refine r_len hx hb hK (hro.2.2.here hAe hW) dX1_picked_1 ?_
  refine r_newa (n := w) hx hb hts tb_65 hK hW hA (by omega) (by omega) (by omega) dX1_picked_2 (fun q H hW hsz_q hq_q => ?_)
  have hW : Wd Z A s.heap (cw Z hc x ++ [ea Z q w (fun _ => 0)]) _ _ := hW
  refine lv_astore (lv' := [(4, .ref q), (0, .ref hk), (1, .int (nI cd)), (2, .ref aa), (3, .ref ab)]) hx hb dX1_picked_4 hl (by decide) rfl (fun ls hl => ?_)
  refine lv_iconst (v := nI 0) hx hb dX1_picked_6 (by decide) ?_
  refine lv_istore (lv' := [(5, .int (nI 0)), (4, .ref q), (0, .ref hk), (1, .int (nI cd)), (2, .ref aa), (3, .ref ab)]) hx hb dX1_picked_7 hl (by decide) rfl (fun ls hl => ?_)
  exact loop w 0 x q (fun _ => 0) _ _ _ _ ls (by omega) (stp.rf hx0) (fun j hj => absurd hj (by omega)) (fun τ hτ j hj => absurd hj (by omega)) (by omega) (by omega) hW (lv_sub hl [2, 3, 4, 5, 1, 0] rfl)
