def numQ (Z : Zt) (hc : Nat) (x : CS) (σ : Nat → Bool) (k w : Nat) (N : (Nat → Bool) → Nat) (v : Option Value) (w1 : va_W) : Prop := ∃ (y : CS) (q : Nat) (f : Nat → Nat), v = some (.ref q) ∧ w1 = cw Z hc y ++ [ea Z q w f] ∧ stp x σ k y ∧ (∀ j, j < w → f j < xn y) ∧ ∀ τ, gd τ → rn y τ f w = N τ
def bitQ (Z : Zt) (hc : Nat) (x : CS) (σ : Nat → Bool) (k : Nat) (B : (Nat → Bool) → Bool) (v : Option Value) (w1 : va_W) : Prop := ∃ (y : CS) (g : Nat), v = some (.int (nI g)) ∧ w1 = cw Z hc y ∧ stp x σ k y ∧ g < xn y ∧ ∀ τ, gd τ → vl y τ g = B τ
theorem low_mod {r b S w : Nat} (h : r + b * 2 ^ w = S) (hr : r < 2 ^ w) : r = S % 2 ^ w := by
  rw [← h, Nat.add_mul_mod_self_right, Nat.mod_eq_of_lt hr]
theorem rn_zero {x : CS} {τ σ : Nat → Bool} (h : cok x σ) (hτ : gd τ) (w : Nat) : rn x τ (fun _ => 0) w = 0 := by
  have e : rn x τ (fun _ => 0) w = bn (fun _ => false) w := bn_congr (fun j _ => vl_0 h hτ)
  rw [e, bn_zero]
def ngN (c : Bool) (A w : Nat) : Nat := if c then (2 ^ w - A) % 2 ^ w else A
theorem ng_row {A w : Nat} {β γ : Nat → Bool} {c : Bool} (hA : bn β w = A) (h : ∀ j, j < w → γ j = (β j ^^ c)) : (bn γ w + 0 + c.toNat) % 2 ^ w = ngN c A w := by
  rw [bn_congr h, ngN]
  have hlt := bn_lt β w
  cases c
  · simp only [Bool.xor_false, Bool.toNat_false, Nat.add_zero]
    rw [hA, Nat.mod_eq_of_lt (by omega)]; rfl
  · have hn := bn_not β w
    simp only [Bool.xor_true, Bool.toNat_true, Nat.add_zero, if_true]
    congr 1
    omega
theorem eq_step {a b i : Nat} {p q : Bool} (ha : a < 2 ^ i) (hb : b < 2 ^ i) : (a + p.toNat * 2 ^ i = b + q.toNat * 2 ^ i) ↔ (a = b ∧ p = q) := by
  refine ⟨fun h => ?_, fun h => by rw [h.1, h.2]⟩
  cases p <;> cases q <;> simp only [Bool.toNat_true, Bool.toNat_false, Nat.zero_mul, Nat.one_mul, Nat.add_zero] at h <;> first | exact ⟨by omega, rfl⟩ | omega
theorem ge_bit {A B r : Nat} {b : Bool} {w : Nat} (h : r + b.toNat * 2 ^ w = A + (2 ^ w - 1 - B) + 1) (hr : r < 2 ^ w) (hA : A < 2 ^ w) (hB : B < 2 ^ w) : b = decide (B ≤ A) := by
  cases b
  · simp only [Bool.toNat_false, Nat.zero_mul, Nat.add_zero] at h
    exact (decide_eq_false (by omega)).symm
  · simp only [Bool.toNat_true, Nat.one_mul] at h
    exact (decide_eq_true (by omega)).symm
set_option maxHeartbeats 4000000 in
set_option maxRecDepth 100000 in
/-- Reckoner.negatedIf -/
theorem k_negatedIf (l : Launch) (Z : Zt) (hk hc : Nat) (x : CS) (σ : Nat → Bool) (cd aa w : Nat) (ra : Nat → Nat) (hx0 : cok x σ) (hn : xn x + (6 * w) < 400000) (hw : w ≤ 64) (hcd : cd < xn x) (hra : ∀ j, j < w → ra j < xn x) : MC l yX1_negatedIf cX1_negatedIf 5 (some (.array .int)) 6 260 (4 + 4 * (capU (xu x) (xn x + (6 * w)) - xu x)) ((4 * w + 1) + 512 * (capU (xu x) (xn x + (6 * w)) - xu x)) Z (cw Z hc x) (fun H => RO Z (cw Z hc x) (eo hk 1 [.ref hc]) H ∧ RO Z (cw Z hc x) (ea Z aa w ra) H) [.ref hk, .int (nI cd), .ref aa] (numQ Z hc x σ (6 * w) w (fun τ => ngN (vl x τ cd) (rn x τ ra w) w)) := by
  refine mc_of (by decide) (Nat.le_of_ble_eq_true rfl) (fun p e s m below meth c ls A hx hb hr hts hown hlk hml hin hK hG hW hA hAe hro hl R hRf hRc hRs hRl => ?_)
  have hl : lv_has ls 5 [(0, .ref hk), (1, .int (nI cd)), (2, .ref aa)] := hl
  have hW : Wd Z A s.heap (cw Z hc x ++ []) _ _ := hW
  obtain ⟨KK, hKK⟩ : ∃ k, k = 6 * w := ⟨_, rfl⟩
  rw [← hKK] at hRc hRs hn
  have loop : ∀ (d i : Nat) (y : CS) (q : Nat) (row : Nat → Nat) (H : Heap) (locs : List Loc) (cl sl : Nat) (ls : Array Slot), i + d = w → stp x σ i y → (∀ j, j < i → row j < xn y) → (∀ τ, gd τ → ∀ j, j < i → vl y τ (row j) = (vl x τ (ra j) ^^ vl x τ cd)) → cl = 1 + 4 * (xu y - xu x) → sl = w + 512 * (xu y - xu x) → Wd Z A s.heap (cw Z hc y ++ [ea Z q w row]) H locs → lv_has ls 5 [(0, .ref hk), (1, .int (nI cd)), (2, .ref aa), (3, .ref q), (4, .int (nI i))] → W p l e R s m ([.ref hk, .int (nI cd), .ref aa] : List Value).toArray below meth c H locs cl sl (MQ below (QC Z (cw Z hc x) s.heap.size (numQ Z hc x σ (6 * w) w (fun τ => ngN (vl x τ cd) (rn x τ ra w) w))) ([.ref hk, .int (nI cd), .ref aa] : List Value).toArray s (4 + 4 * (capU (xu x) (xn x + (6 * w)) - xu x)) ((4 * w + 1) + 512 * (capU (xu x) (xn x + (6 * w)) - xu x)) A) (F0 m 8 ls []) := by
    intro d
    induction d with
    | zero =>
      intro i y q row H locs cl sl ls hid hy hrow hsem hcl hsl hW hl
      have hi : i = w := by omega
      refine lv_iload hx hb dX1_negatedIf_8 (lv_at hl 4 rfl) ?_
      refine lv_aload_n hx hb dX1_negatedIf_10 rfl (lv_at hl 2 rfl) ?_
      refine r_len hx hb hK (hro.2.here hAe hW) dX1_negatedIf_11 ?_
      refine n_ge_t (tgt := 37) hx hb (by omega) (by omega) dX1_negatedIf_12 (by decide) ?_
      rw [hi] at hy hrow hsem
      have hny := hy.2.2.1
      have hco := hy.cost (j := 5 * w) (K := KK) (by omega)
      refine lv_aload_n hx hb dX1_negatedIf_37 rfl (lv_at hl 0 rfl) ?_
      refine lv_aload_n hx hb dX1_negatedIf_38 rfl (lv_at hl 3 rfl) ?_
      refine lv_aload_n hx hb dX1_negatedIf_39 rfl (lv_at hl 2 rfl) ?_
      refine r_len hx hb hK (hro.2.here hAe hW) dX1_negatedIf_40 ?_
      refine r_newa (n := w) hx hb hts tb_65 hK hW hA (by omega) (by omega) (by omega) dX1_negatedIf_41 (fun q2 H hW hsz_q2 hq_q2 => ?_)
      have hW : Wd Z A s.heap (cw Z hc y ++ [ea Z q w row, ea Z q2 w (fun _ => 0)]) _ _ := hW
      refine lv_iload_n hx hb dX1_negatedIf_43 rfl (lv_at hl 1 rfl) ?_
      refine c_virt (As := [.ref q, .ref q2, .int (nI cd)]) (rest := []) (wc := cw Z hc y) (wr := [ea Z q w row, ea Z q2 w (fun _ => 0)]) (nl := 0) hx hb hml hown hts hK hG rfl hA hl (k_sum l Z hk hc y σ q q2 w w row (fun _ => 0) cd hy.1 (by omega) hw (Nat.le_refl _) (by omega) hrow (fun j _ => by have := hy.1.1; omega) (by omega)) hW ⟨RO.pass hro.1 hAe hW, RO.loc hW 0 rfl, RO.loc hW 1 rfl⟩ (hro.1.here hAe hW) rfl rfl tb_372 tb_373 tb_374 tb_2 tb_375 (nA := 3) (by decide +kernel) rfl ⟨by omega, by omega⟩ ⟨by omega, by omega⟩ rfl (Nat.le_of_ble_eq_true rfl) dX1_negatedIf_44 (fun v w1 H1 L1 hp hW hzz hkk hdd => ?_)
      obtain ⟨y2, q3, f, rfl, rfl, hst, hfb, hfs⟩ := hp
      clear hzz hkk hdd
      generalize H1 = H at hW  ⊢
      generalize L1 = locs at hW ⊢
      have hW : Wd Z A s.heap (cw Z hc y2 ++ [ea Z q3 (w + 1) f, ea Z q w row, ea Z q2 w (fun _ => 0)]) _ _ := hW
      refine W.eq (g2 := F0 m 47 ls [.ref q3]) rfl ?_
      have hu2 := hst.2.2.2
      have h2 := hy.tr hst
      refine c_stat (As := [.ref q3]) (rest := []) (wc := []) (wr := cw Z hc y2 ++ [ea Z q3 (w + 1) f, ea Z q w row, ea Z q2 w (fun _ => 0)]) hx hb hml hown hts hK hG rfl hA hl (k_withoutCarry l Z q3 w f (by omega)) hW (hW.at 5 rfl) tb_384 tb_385 tb_2 tb_386 (nA := 1) (by decide +kernel) rfl ⟨by omega, by omega⟩ ⟨by omega, by omega⟩ rfl (Nat.le_of_ble_eq_true rfl) dX1_negatedIf_47 (fun v w1 H1 L1 hp hW hzz hkk hdd => ?_)
      obtain ⟨q4, f4, rfl, rfl, hf4⟩ := hp
      clear hzz hkk hdd
      generalize H1 = H at hW  ⊢
      generalize L1 = locs at hW ⊢
      have hW : Wd Z A s.heap ([ea Z q4 w f4] ++ cw Z hc y2 ++ [ea Z q3 (w + 1) f, ea Z q w row, ea Z q2 w (fun _ => 0)]) _ _ := hW
      refine W.eq (g2 := F0 m 50 ls [.ref q4]) rfl ?_
      have hW : Wd Z A s.heap (cw Z hc y2 ++ [ea Z q4 w f4]) _ _ := hW.sub [1, 2, 3, 4, 5, 0] (by decide) rfl
      rw [hKK] at hco hRc hRs
      have hu3 := h2.2.2.2
      refine e_ref hx hb hr (Or.inr ⟨_, rfl⟩) hlk hAe hW (by omega) (by omega) dX1_negatedIf_50 ⟨y2, q4, f4, rfl, rfl, (by have e : 6 * w = w + 5 * w := (by omega); rw [e]; exact h2), fun j hj => (by rw [hf4 j hj]; exact hfb j (by omega)), fun τ hτ => ?_⟩
      have hs := hfs τ hτ
      rw [rn_s, rn_zero hy.1 hτ, hy.2.1.vl hcd] at hs
      rw [rn_congr hf4, low_mod hs (rn_lt _ _ _ _)]
      exact ng_row rfl (hsem τ hτ)
    | succ d ih =>
      intro i y q row H locs cl sl ls hid hy hrow hsem hcl hsl hW hl
      have hny := hy.2.2.1
      have hra_i := hra i (by omega)
      refine lv_iload hx hb dX1_negatedIf_8 (lv_at hl 4 rfl) ?_
      refine lv_aload_n hx hb dX1_negatedIf_10 rfl (lv_at hl 2 rfl) ?_
      refine r_len hx hb hK (hro.2.here hAe hW) dX1_negatedIf_11 ?_
      refine n_ge_f (tgt := 37) hx hb (by omega) (by omega) dX1_negatedIf_12 (by decide) ?_
      refine lv_aload_n hx hb dX1_negatedIf_15 rfl (lv_at hl 3 rfl) ?_
      refine lv_iload hx hb dX1_negatedIf_16 (lv_at hl 4 rfl) ?_
      refine lv_aload_n hx hb dX1_negatedIf_18 rfl (lv_at hl 0 rfl) ?_
      refine r_get hx hb hts hown hK (hro.1.here hAe hW) rfl in_X1 0 (by decide) tb_66 (fun _ h => h) rfl dX1_negatedIf_19 ?_
      refine lv_aload_n hx hb dX1_negatedIf_22 rfl (lv_at hl 2 rfl) ?_
      refine lv_iload hx hb dX1_negatedIf_23 (lv_at hl 4 rfl) ?_
      refine r_ald (i := i) hx hb hK (hro.2.here hAe hW) (by omega) (by omega) dX1_negatedIf_25 ?_
      refine lv_iload_n hx hb dX1_negatedIf_26 rfl (lv_at hl 1 rfl) ?_
      have hsy := hy
      have hco := hy.cost (j := 1) (K := KK) (by omega)
      refine c_virt (As := [.int (nI (ra i)), .int (nI cd)]) (rest := [.int (nI i), .ref q]) (wc := cw Z hc y) (wr := [ea Z q w row]) (nl := 0) hx hb hml hown hts hK hG rfl hA hl (k_xor l Z hc y σ (ra i) cd hy.1 (by omega) (by omega) (by omega)) hW trivial (hW.at 0 rfl) rfl rfl tb_368 tb_369 tb_370 tb_3 tb_371 (nA := 2) (by decide +kernel) rfl ⟨by omega, by omega⟩ ⟨by omega, by omega⟩ rfl (Nat.le_of_ble_eq_true rfl) dX1_negatedIf_27 (fun v w1 H1 L1 hp hW hzz hkk hdd => ?_)
      obtain ⟨y1, rfl, rfl, gy1⟩ := hp
      clear hzz hkk hdd
      generalize H1 = H at hW  ⊢
      generalize L1 = locs at hW ⊢
      have hW : Wd Z A s.heap (cw Z hc y1 ++ [ea Z q w row]) _ _ := hW
      refine W.eq (g2 := F0 m 30 ls [.int (nI (xn y)), .int (nI i), .ref q]) rfl ?_
      have hy1 := hy.g gy1
      have hny1 := hy1.2.2.1
      have huy1 := (stp.of gy1).2.2.2
      have k1 := cex.rf y1
      have k0 := gy1.2.2.2.2.1.tr k1
      refine r_ast (i := i) (x := (xn y)) hx hb hK hW 5 rfl (by omega) (by omega) dX1_negatedIf_30 (fun H locs hW => ?_)
      have hW : Wd Z A s.heap (cw Z hc y1 ++ [ea Z q w (up row i (xn y))]) _ _ := hW
      refine lv_iinc (v := nI (i + 1)) (lv' := [(4, .int (nI (i + 1))), (0, .ref hk), (1, .int (nI cd)), (2, .ref aa), (3, .ref q)]) hx hb dX1_negatedIf_31 hl (k := 4) rfl (inc1 _) (by decide) rfl (fun ls hl => ?_)
      refine lv_goto (tgt := 8) hx hb dX1_negatedIf_34 (by decide) ?_
      refine ih (i + 1) y1 q (up row i (xn y)) _ _ _ _ ls (by omega) hy1 (fun j hj => ?_) (fun τ hτ j hj => ?_) ?_ ?_ hW (lv_sub hl [1, 2, 3, 4, 0] rfl)
      · by_cases e : j = i
        · subst e; rw [up_s]; omega
        · rw [up_n _ _ e]; have := hrow j (by omega); omega
      · by_cases e : j = i
        · subst e
          rw [up_s, gval gy1 (by decide) k1 (by omega) (by omega) τ, c_op3, hy1.2.1.vl hra_i, hy1.2.1.vl hcd]
        · rw [up_n _ _ e, k0.vl (hrow j (by omega))]
          exact hsem τ hτ j (by omega)
      · omega
      · omega
  refine lv_aload_n hx hb dX1_negatedIf_0 rfl (lv_at hl 2 rfl) ?_
  refine r_len hx hb hK (hro.2.here hAe hW) dX1_negatedIf_1 ?_
  refine r_newa (n := w) hx hb hts tb_65 hK hW hA (by omega) (by omega) (by omega) dX1_negatedIf_2 (fun q H hW hsz_q hq_q => ?_)
  have hW : Wd Z A s.heap (cw Z hc x ++ [ea Z q w (fun _ => 0)]) _ _ := hW
  refine lv_astore_n (lv' := [(3, .ref q), (0, .ref hk), (1, .int (nI cd)), (2, .ref aa)]) hx hb dX1_negatedIf_4 rfl hl (by decide) rfl (fun ls hl => ?_)
  refine lv_iconst (v := nI 0) hx hb dX1_negatedIf_5 (by decide) ?_
  refine lv_istore (lv' := [(4, .int (nI 0)), (3, .ref q), (0, .ref hk), (1, .int (nI cd)), (2, .ref aa)]) hx hb dX1_negatedIf_6 hl (by decide) rfl (fun ls hl => ?_)
  exact loop w 0 x q (fun _ => 0) _ _ _ _ ls (by omega) (stp.rf hx0) (fun j hj => absurd hj (by omega)) (fun τ hτ j hj => absurd hj (by omega)) (by omega) (by omega) hW (lv_sub hl [2, 3, 4, 1, 0] rfl)
set_option maxHeartbeats 4000000 in
set_option maxRecDepth 100000 in
/-- Reckoner.signTurned -/
theorem k_signTurned (l : Launch) (Z : Zt) (hk hc : Nat) (x : CS) (σ : Nat → Bool) (aa w : Nat) (ra : Nat → Nat) (hx0 : cok x σ) (hn : xn x + (1) < 400000) (hw : w ≤ 64) (hw1 : 1 ≤ w) (hra : ∀ j, j < w → ra j < xn x) : MC l yX1_signTurned cX1_signTurned 3 (some (.array .int)) 5 220 (1 + 4 * (capU (xu x) (xn x + (1)) - xu x)) (w + 512 * (capU (xu x) (xn x + (1)) - xu x)) Z (cw Z hc x) (fun H => RO Z (cw Z hc x) (eo hk 1 [.ref hc]) H ∧ RO Z (cw Z hc x) (ea Z aa w ra) H) [.ref hk, .ref aa] (rowQ Z hc x σ 1 w (fun τ j => if j = w - 1 then !vl x τ (ra j) else vl x τ (ra j))) := by
  refine mc_of (by decide) (Nat.le_of_ble_eq_true rfl) (fun p e s m below meth c ls A hx hb hr hts hown hlk hml hin hK hG hW hA hAe hro hl R hRf hRc hRs hRl => ?_)
  have hl : lv_has ls 3 [(0, .ref hk), (1, .ref aa)] := hl
  have hW : Wd Z A s.heap (cw Z hc x ++ []) _ _ := hW
  obtain ⟨KK, hKK⟩ : ∃ k, k = 1 := ⟨_, rfl⟩
  rw [← hKK] at hRc hRs hn
  refine lv_aload_n hx hb dX1_signTurned_0 rfl (lv_at hl 1 rfl) ?_
  refine lv_aload_n hx hb dX1_signTurned_1 rfl (lv_at hl 1 rfl) ?_
  refine r_len hx hb hK (hro.2.here hAe hW) dX1_signTurned_2 ?_
  refine c_stat (As := [.ref aa, .int (nI w)]) (rest := []) (wc := []) (wr := cw Z hc x) hx hb hml hown hts hK hG rfl hA hl (k_copyOf l Z aa w w ra (by omega) (by omega)) hW (hro.2.here hAe hW) tb_388 tb_231 tb_13 tb_232 (nA := 2) (by decide +kernel) rfl ⟨by omega, by omega⟩ ⟨by omega, by omega⟩ rfl (Nat.le_of_ble_eq_true rfl) dX1_signTurned_3 (fun v w1 H1 L1 hp hW hzz hkk hdd => ?_)
  obtain ⟨q, f, rfl, rfl, hf⟩ := hp
  clear hzz hkk hdd
  generalize H1 = H at hW  ⊢
  generalize L1 = locs at hW ⊢
  have hW : Wd Z A s.heap ([ea Z q w f] ++ cw Z hc x) _ _ := hW
  have hW : Wd Z A s.heap (cw Z hc x ++ [ea Z q w f]) _ _ := hW.sub [1, 2, 3, 4, 5, 0] (by decide) rfl
  refine W.eq (g2 := F0 m 6 ls [.ref q]) rfl ?_
  have hra_i := hra (w - 1) (by omega)
  skip
  have hy : stp x σ 0 x := stp.rf hx0
  have hny := hy.2.2.1
  refine lv_astore_n (lv' := [(2, .ref q), (0, .ref hk), (1, .ref aa)]) hx hb dX1_signTurned_6 rfl hl (by decide) rfl (fun ls hl => ?_)
  refine lv_aload_n hx hb dX1_signTurned_7 rfl (lv_at hl 0 rfl) ?_
  refine lv_aload_n hx hb dX1_signTurned_8 rfl (lv_at hl 2 rfl) ?_
  refine r_len hx hb hK (hro.2.here hAe hW) dX1_signTurned_9 ?_
  refine lv_iconst (v := nI 1) hx hb dX1_signTurned_10 (by decide) ?_
  refine n_isub hx hb (by omega) dX1_signTurned_11 ?_
  refine lv_aload_n hx hb dX1_signTurned_12 rfl (lv_at hl 1 rfl) ?_
  refine r_get hx hb hts hown hK (hro.1.here hAe hW) rfl in_X1 0 (by decide) tb_66 (fun _ h => h) rfl dX1_signTurned_13 ?_
  refine lv_aload_n hx hb dX1_signTurned_16 rfl (lv_at hl 2 rfl) ?_
  refine lv_aload_n hx hb dX1_signTurned_17 rfl (lv_at hl 2 rfl) ?_
  refine r_len hx hb hK (hro.2.here hAe hW) dX1_signTurned_18 ?_
  refine lv_iconst (v := nI 1) hx hb dX1_signTurned_19 (by decide) ?_
  refine n_isub hx hb (by omega) dX1_signTurned_20 ?_
  refine r_ald (i := (w - 1)) hx hb hK (hro.2.here hAe hW) (by omega) (by omega) dX1_signTurned_21 ?_
  have hxx := hy
  have hco := hy.cost (j := 1) (K := KK) (by omega)
  refine c_virt (As := [.int (nI (ra (w - 1)))]) (rest := [.int (nI (w - 1)), .ref q]) (wc := cw Z hc x) (wr := [ea Z q w f]) (nl := 0) hx hb hml hown hts hK hG rfl hA hl (k_not l Z hc x σ (ra (w - 1)) hx0 (by omega) (by omega)) hW trivial (hW.at 0 rfl) rfl rfl tb_360 tb_361 tb_362 tb_3 tb_363 (nA := 1) (by decide +kernel) rfl ⟨by omega, by omega⟩ ⟨by omega, by omega⟩ rfl (Nat.le_of_ble_eq_true rfl) dX1_signTurned_22 (fun v w1 H1 L1 hp hW hzz hkk hdd => ?_)
  obtain ⟨y1, rfl, rfl, gy1⟩ := hp
  clear hzz hkk hdd
  generalize H1 = H at hW  ⊢
  generalize L1 = locs at hW ⊢
  have hW : Wd Z A s.heap (cw Z hc y1 ++ [ea Z q w f]) _ _ := hW
  refine W.eq (g2 := F0 m 25 ls [.int (nI (xn x)), .int (nI (w - 1)), .ref q]) rfl ?_
  have hy1 := hy.g gy1
  have hny1 := hy1.2.2.1
  have huy1 := (stp.of gy1).2.2.2
  have k1 := cex.rf y1
  refine r_ast (i := (w - 1)) (x := (xn x)) hx hb hK hW 5 rfl (by omega) (by omega) dX1_signTurned_25 (fun H locs hW => ?_)
  have hW : Wd Z A s.heap (cw Z hc y1 ++ [ea Z q w (up f (w - 1) (xn x))]) _ _ := hW
  refine lv_aload_n hx hb dX1_signTurned_26 rfl (lv_at hl 0 rfl) ?_
  rw [hKK] at hco hRc hRs
  refine e_ref hx hb hr (Or.inr ⟨_, rfl⟩) hlk hAe hW (by omega) (by omega) dX1_signTurned_27 ⟨y1, q, up f (w - 1) (xn x), rfl, rfl, hy1, fun j hj => ?_, fun τ hτ j hj => ?_⟩
  · by_cases e : j = w - 1
    · subst e; rw [up_s]; omega
    · rw [up_n _ _ e, hf j hj, if_pos hj]; have := hra j hj; omega
  · by_cases e : j = w - 1
    · subst e
      dsimp only
      rw [up_s, if_pos rfl, gval gy1 (by decide) k1 (by omega) (by have := hx0.1; omega) τ, c_op3, vl_1 hy1.1 hτ, hy1.2.1.vl hra_i]
      exact Bool.xor_true _
    · dsimp only
      rw [up_n _ _ e, if_neg e, hf j hj, if_pos hj, hy1.2.1.vl (hra j hj)]
set_option maxHeartbeats 4000000 in
set_option maxRecDepth 100000 in
/-- Reckoner.same -/
theorem k_same (l : Launch) (Z : Zt) (hk hc : Nat) (x : CS) (σ : Nat → Bool) (aa ab w : Nat) (ra rb : Nat → Nat) (hx0 : cok x σ) (hn : xn x + (2 * w + 1) < 400000) (hw : w ≤ 64) (hra : ∀ j, j < w → ra j < xn x) (hrb : ∀ j, j < w → rb j < xn x) : MC l yX1_same cX1_same 5 (some .int) 5 220 (0 + 4 * (capU (xu x) (xn x + (2 * w + 1)) - xu x)) (0 + 512 * (capU (xu x) (xn x + (2 * w + 1)) - xu x)) Z (cw Z hc x) (fun H => RO Z (cw Z hc x) (eo hk 1 [.ref hc]) H ∧ RO Z (cw Z hc x) (ea Z aa w ra) H ∧ RO Z (cw Z hc x) (ea Z ab w rb) H) [.ref hk, .ref aa, .ref ab] (bitQ Z hc x σ (2 * w + 1) (fun τ => decide (rn x τ ra w = rn x τ rb w))) := by
  refine mc_of (by decide) (Nat.le_of_ble_eq_true rfl) (fun p e s m below meth c ls A hx hb hr hts hown hlk hml hin hK hG hW hA hAe hro hl R hRf hRc hRs hRl => ?_)
  have hl : lv_has ls 5 [(0, .ref hk), (1, .ref aa), (2, .ref ab)] := hl
  have hW : Wd Z A s.heap (cw Z hc x ++ []) _ _ := hW
  obtain ⟨KK, hKK⟩ : ∃ k, k = 2 * w + 1 := ⟨_, rfl⟩
  rw [← hKK] at hRc hRs hn
  have loop : ∀ (d i : Nat) (y : CS) (df : Nat) (H : Heap) (locs : List Loc) (cl sl : Nat) (ls : Array Slot), i + d = w → stp x σ (2 * i) y → df < xn y → (∀ τ, gd τ → vl y τ df = !decide (rn x τ ra i = rn x τ rb i)) → cl = 4 * (xu y - xu x) → sl = 512 * (xu y - xu x) → Wd Z A s.heap (cw Z hc y ++ []) H locs → lv_has ls 5 [(0, .ref hk), (1, .ref aa), (2, .ref ab), (3, .int (nI df)), (4, .int (nI i))] → W p l e R s m ([.ref hk, .ref aa, .ref ab] : List Value).toArray below meth c H locs cl sl (MQ below (QC Z (cw Z hc x) s.heap.size (bitQ Z hc x σ (2 * w + 1) (fun τ => decide (rn x τ ra w = rn x τ rb w)))) ([.ref hk, .ref aa, .ref ab] : List Value).toArray s (0 + 4 * (capU (xu x) (xn x + (2 * w + 1)) - xu x)) (0 + 512 * (capU (xu x) (xn x + (2 * w + 1)) - xu x)) A) (F0 m 5 ls []) := by
    intro d
    induction d with
    | zero =>
      intro i y df H locs cl sl ls hid hy hdf hsem hcl hsl hW hl
      have hi : i = w := by omega
      refine lv_iload hx hb dX1_same_5 (lv_at hl 4 rfl) ?_
      refine lv_aload_n hx hb dX1_same_7 rfl (lv_at hl 1 rfl) ?_
      refine r_len hx hb hK (hro.2.1.here hAe hW) dX1_same_8 ?_
      refine n_ge_t (tgt := 42) hx hb (by omega) (by omega) dX1_same_9 (by decide) ?_
      rw [hi] at hy hsem
      have hny := hy.2.2.1
      refine lv_aload_n hx hb dX1_same_42 rfl (lv_at hl 0 rfl) ?_
      refine r_get hx hb hts hown hK (hro.1.here hAe hW) rfl in_X1 0 (by decide) tb_66 (fun _ h => h) rfl dX1_same_43 ?_
      refine lv_iload_n hx hb dX1_same_46 rfl (lv_at hl 3 rfl) ?_
      have hsy := hy
      have hco := hy.cost (j := 1) (K := KK) (by omega)
      refine c_virt (As := [.int (nI df)]) (rest := []) (wc := cw Z hc y) (wr := []) (nl := 0) hx hb hml hown hts hK hG rfl hA hl (k_not l Z hc y σ df hy.1 (by omega) (by omega)) hW trivial (hW.at 0 rfl) rfl rfl tb_360 tb_361 tb_362 tb_3 tb_363 (nA := 1) (by decide +kernel) rfl ⟨by omega, by omega⟩ ⟨by omega, by omega⟩ rfl (Nat.le_of_ble_eq_true rfl) dX1_same_47 (fun v w1 H1 L1 hp hW hzz hkk hdd => ?_)
      obtain ⟨y1, rfl, rfl, gy1⟩ := hp
      clear hzz hkk hdd
      generalize H1 = H at hW  ⊢
      generalize L1 = locs at hW ⊢
      have hW : Wd Z A s.heap (cw Z hc y1) _ _ := hW
      refine W.eq (g2 := F0 m 50 ls [.int (nI (xn y))]) rfl ?_
      have hy1 := hy.g gy1
      have hny1 := hy1.2.2.1
      have huy1 := (stp.of gy1).2.2.2
      rw [hKK] at hco hRc hRs
      have k1 := cex.rf y1
      have hu3 := hy1.2.2.2
      refine e_int hx hb hr hlk hAe hW (by omega) (by omega) dX1_same_50 ⟨y1, xn y, rfl, rfl, hy1, by omega, fun τ hτ => ?_⟩
      rw [gval gy1 (by decide) k1 (by omega) (by have := hy.1.1; omega) τ, c_op3, vl_1 hy1.1 hτ, gy1.2.2.2.2.1.vl hdf, hsem τ hτ]
      dsimp only
      cases decide (rn x τ ra w = rn x τ rb w) <;> rfl
    | succ d ih =>
      intro i y df H locs cl sl ls hid hy hdf hsem hcl hsl hW hl
      have hny := hy.2.2.1
      have hra_i := hra i (by omega)
      have hrb_i := hrb i (by omega)
      refine lv_iload hx hb dX1_same_5 (lv_at hl 4 rfl) ?_
      refine lv_aload_n hx hb dX1_same_7 rfl (lv_at hl 1 rfl) ?_
      refine r_len hx hb hK (hro.2.1.here hAe hW) dX1_same_8 ?_
      refine n_ge_f (tgt := 42) hx hb (by omega) (by omega) dX1_same_9 (by decide) ?_
      refine lv_aload_n hx hb dX1_same_12 rfl (lv_at hl 0 rfl) ?_
      refine r_get hx hb hts hown hK (hro.1.here hAe hW) rfl in_X1 0 (by decide) tb_66 (fun _ h => h) rfl dX1_same_13 ?_
      refine lv_iload_n hx hb dX1_same_16 rfl (lv_at hl 3 rfl) ?_
      refine lv_aload_n hx hb dX1_same_17 rfl (lv_at hl 0 rfl) ?_
      refine r_get hx hb hts hown hK (hro.1.here hAe hW) rfl in_X1 0 (by decide) tb_66 (fun _ h => h) rfl dX1_same_18 ?_
      refine lv_aload_n hx hb dX1_same_21 rfl (lv_at hl 1 rfl) ?_
      refine lv_iload hx hb dX1_same_22 (lv_at hl 4 rfl) ?_
      refine r_ald (i := i) hx hb hK (hro.2.1.here hAe hW) (by omega) (by omega) dX1_same_24 ?_
      refine lv_aload_n hx hb dX1_same_25 rfl (lv_at hl 2 rfl) ?_
      refine lv_iload hx hb dX1_same_26 (lv_at hl 4 rfl) ?_
      refine r_ald (i := i) hx hb hK (hro.2.2.here hAe hW) (by omega) (by omega) dX1_same_28 ?_
      have hsy := hy
      have hco := hy.cost (j := 1) (K := KK) (by omega)
      refine c_virt (As := [.int (nI (ra i)), .int (nI (rb i))]) (rest := [.int (nI df), .ref hc]) (wc := cw Z hc y) (wr := []) (nl := 0) hx hb hml hown hts hK hG rfl hA hl (k_xor l Z hc y σ (ra i) (rb i) hy.1 (by omega) (by omega) (by omega)) hW trivial (hW.at 0 rfl) rfl rfl tb_368 tb_369 tb_370 tb_3 tb_371 (nA := 2) (by decide +kernel) rfl ⟨by omega, by omega⟩ ⟨by omega, by omega⟩ rfl (Nat.le_of_ble_eq_true rfl) dX1_same_29 (fun v w1 H1 L1 hp hW hzz hkk hdd => ?_)
      obtain ⟨y1, rfl, rfl, gy1⟩ := hp
      clear hzz hkk hdd
      generalize H1 = H at hW  ⊢
      generalize L1 = locs at hW ⊢
      have hW : Wd Z A s.heap (cw Z hc y1) _ _ := hW
      refine W.eq (g2 := F0 m 32 ls [.int (nI (xn y)), .int (nI df), .ref hc]) rfl ?_
      have hy1 := hy.g gy1
      have hny1 := hy1.2.2.1
      have huy1 := (stp.of gy1).2.2.2
      have hsy1 := hy1
      have hco := hy1.cost (j := 1) (K := KK) (by omega)
      refine c_virt (As := [.int (nI df), .int (nI (xn y))]) (rest := []) (wc := cw Z hc y1) (wr := []) (nl := 0) hx hb hml hown hts hK hG rfl hA hl (k_or l Z hc y1 σ df (xn y) hy1.1 (by omega) (by omega) (by omega)) hW trivial (hW.at 0 rfl) rfl rfl tb_380 tb_381 tb_382 tb_3 tb_383 (nA := 2) (by decide +kernel) rfl ⟨by omega, by omega⟩ ⟨by omega, by omega⟩ rfl (Nat.le_of_ble_eq_true rfl) dX1_same_32 (fun v w1 H1 L1 hp hW hzz hkk hdd => ?_)
      obtain ⟨y2, rfl, rfl, gy2⟩ := hp
      clear hzz hkk hdd
      generalize H1 = H at hW  ⊢
      generalize L1 = locs at hW ⊢
      have hW : Wd Z A s.heap (cw Z hc y2) _ _ := hW
      refine W.eq (g2 := F0 m 35 ls [.int (nI (xn y1))]) rfl ?_
      have hy2 := hy1.g gy2
      have hny2 := hy2.2.2.1
      have huy2 := (stp.of gy2).2.2.2
      refine lv_istore_n (lv' := [(3, .int (nI (xn y1))), (0, .ref hk), (1, .ref aa), (2, .ref ab), (4, .int (nI i))]) hx hb dX1_same_35 rfl hl (by decide) rfl (fun ls hl => ?_)
      refine lv_iinc (v := nI (i + 1)) (lv' := [(4, .int (nI (i + 1))), (3, .int (nI (xn y1))), (0, .ref hk), (1, .ref aa), (2, .ref ab)]) hx hb dX1_same_36 hl (k := 4) rfl (inc1 _) (by decide) rfl (fun ls hl => ?_)
      refine lv_goto (tgt := 5) hx hb dX1_same_39 (by decide) ?_
      have k2 := cex.rf y2
      have k1 := gy2.2.2.2.2.1.tr k2
      have k0 := gy1.2.2.2.2.1.tr k1
      refine ih (i + 1) y2 (xn y1) _ _ _ _ ls (by omega) (by have e : 2 * (i + 1) = 2 * i + 1 + 1 := (by omega); rw [e]; exact hy2) (by omega) (fun τ hτ => ?_) ?_ ?_ hW (lv_sub hl [2, 3, 4, 1, 0] rfl)
      · have G1 := gval gy1 (by decide) k1 (by omega) (by omega) τ
        have G2 := gval gy2 (by decide) k2 (by omega) (by omega) τ
        rw [G2, G1, c_op2, c_op3, hy2.2.1.vl hra_i, hy2.2.1.vl hrb_i, k0.vl hdf, hsem τ hτ, rn_s, rn_s]
        have hq := eq_step (p := vl x τ (ra i)) (q := vl x τ (rb i)) (rn_lt x τ ra i) (rn_lt x τ rb i)
        by_cases q1 : rn x τ ra i = rn x τ rb i
        · by_cases q2 : vl x τ (ra i) = vl x τ (rb i)
          · rw [decide_eq_true q1, decide_eq_true (hq.mpr ⟨q1, q2⟩), q2]
            cases vl x τ (rb i) <;> rfl
          · rw [decide_eq_true q1, decide_eq_false (fun z => q2 (hq.mp z).2)]
            revert q2
            cases vl x τ (ra i) <;> cases vl x τ (rb i) <;> simp
        · rw [decide_eq_false q1, decide_eq_false (fun z => q1 (hq.mp z).1)]
          rfl
      · omega
      · omega
  refine lv_iconst (v := nI 0) hx hb dX1_same_0 (by decide) ?_
  refine lv_istore_n (lv' := [(3, .int (nI 0)), (0, .ref hk), (1, .ref aa), (2, .ref ab)]) hx hb dX1_same_1 rfl hl (by decide) rfl (fun ls hl => ?_)
  refine lv_iconst (v := nI 0) hx hb dX1_same_2 (by decide) ?_
  refine lv_istore (lv' := [(4, .int (nI 0)), (3, .int (nI 0)), (0, .ref hk), (1, .ref aa), (2, .ref ab)]) hx hb dX1_same_3 hl (by decide) rfl (fun ls hl => ?_)
  refine loop w 0 x 0 _ _ _ _ ls (by omega) (stp.rf hx0) (by have := hx0.1; omega) (fun τ hτ => ?_) (by omega) (by omega) hW (lv_sub hl [2, 3, 4, 1, 0] rfl)
  rw [vl_0 hx0 hτ]; rfl
set_option maxHeartbeats 4000000 in
set_option maxRecDepth 100000 in
/-- Reckoner.atLeast -/
theorem k_atLeast (l : Launch) (Z : Zt) (hk hc : Nat) (x : CS) (σ : Nat → Bool) (aa ab w : Nat) (ra rb : Nat → Nat) (hx0 : cok x σ) (hn : xn x + (6 * w) < 400000) (hw : w ≤ 64) (hra : ∀ j, j < w → ra j < xn x) (hrb : ∀ j, j < w → rb j < xn x) : MC l yX1_atLeast cX1_atLeast 3 (some .int) 6 260 (2 + 4 * (capU (xu x) (xn x + (6 * w)) - xu x)) ((2 * w + 1) + 512 * (capU (xu x) (xn x + (6 * w)) - xu x)) Z (cw Z hc x) (fun H => RO Z (cw Z hc x) (eo hk 1 [.ref hc]) H ∧ RO Z (cw Z hc x) (ea Z aa w ra) H ∧ RO Z (cw Z hc x) (ea Z ab w rb) H) [.ref hk, .ref aa, .ref ab] (bitQ Z hc x σ (6 * w) (fun τ => decide (rn x τ rb w ≤ rn x τ ra w))) := by
  refine mc_of (by decide) (Nat.le_of_ble_eq_true rfl) (fun p e s m below meth c ls A hx hb hr hts hown hlk hml hin hK hG hW hA hAe hro hl R hRf hRc hRs hRl => ?_)
  have hl : lv_has ls 3 [(0, .ref hk), (1, .ref aa), (2, .ref ab)] := hl
  have hW : Wd Z A s.heap (cw Z hc x ++ []) _ _ := hW
  obtain ⟨KK, hKK⟩ : ∃ k, k = 6 * w := ⟨_, rfl⟩
  rw [← hKK] at hRc hRs hn
  refine lv_aload_n hx hb dX1_atLeast_0 rfl (lv_at hl 0 rfl) ?_
  refine lv_aload_n hx hb dX1_atLeast_1 rfl (lv_at hl 1 rfl) ?_
  refine lv_aload_n hx hb dX1_atLeast_2 rfl (lv_at hl 0 rfl) ?_
  refine lv_aload_n hx hb dX1_atLeast_3 rfl (lv_at hl 2 rfl) ?_
  have hx1 := stp.rf hx0
  have hco := hx1.cost (j := 1 * w) (K := KK) (by omega)
  refine c_virt (As := [.ref ab]) (rest := [.ref aa, .ref hk]) (wc := cw Z hc x) (wr := []) (nl := 0) hx hb hml hown hts hK hG rfl hA hl (k_inverted l Z hk hc x σ ab w rb hx0 (by omega) hw hrb) hW ⟨RO.pass hro.1 hAe hW, RO.pass hro.2.2 hAe hW⟩ (hro.1.here hAe hW) rfl rfl tb_651 tb_357 tb_358 tb_2 tb_359 (nA := 1) (by decide +kernel) rfl ⟨by omega, by omega⟩ ⟨by omega, by omega⟩ rfl (Nat.le_of_ble_eq_true rfl) dX1_atLeast_4 (fun v w1 H1 L1 hp hW hzz hkk hdd => ?_)
  obtain ⟨y, q, f, rfl, rfl, hy, hfb, hfs⟩ := hp
  clear hzz hkk hdd
  generalize H1 = H at hW  ⊢
  generalize L1 = locs at hW ⊢
  have hW : Wd Z A s.heap (cw Z hc y ++ [ea Z q w f]) _ _ := hW
  refine W.eq (g2 := F0 m 7 ls [.ref q, .ref aa, .ref hk]) rfl ?_
  have hny := hy.2.2.1
  have huy := hy.2.2.2
  have hco2 := hy.cost (j := 5 * w) (K := KK) (by omega)
  refine lv_iconst (v := nI 1) hx hb dX1_atLeast_7 (by decide) ?_
  refine c_virt (As := [.ref aa, .ref q, .int (nI 1)]) (rest := []) (wc := cw Z hc y) (wr := [ea Z q w f]) (nl := 0) hx hb hml hown hts hK hG rfl hA hl (k_sum l Z hk hc y σ aa q w w ra f 1 hy.1 (by omega) hw (Nat.le_refl _) (by omega) (fun j hj => by have := hra j hj; omega) hfb (by have := hy.1.1; omega)) hW ⟨RO.pass hro.1 hAe hW, RO.pass hro.2.1 hAe hW, RO.loc hW 0 rfl⟩ (hro.1.here hAe hW) rfl rfl tb_372 tb_373 tb_374 tb_2 tb_375 (nA := 3) (by decide +kernel) rfl ⟨by omega, by omega⟩ ⟨by omega, by omega⟩ rfl (Nat.le_of_ble_eq_true rfl) dX1_atLeast_8 (fun v w1 H1 L1 hp hW hzz hkk hdd => ?_)
  obtain ⟨y2, q2, g, rfl, rfl, hst, hgb, hgs⟩ := hp
  clear hzz hkk hdd
  generalize H1 = H at hW  ⊢
  generalize L1 = locs at hW ⊢
  have hW : Wd Z A s.heap (cw Z hc y2 ++ [ea Z q2 (w + 1) g, ea Z q w f]) _ _ := hW
  refine W.eq (g2 := F0 m 11 ls [.ref q2]) rfl ?_
  have hu2 := hst.2.2.2
  have h2 := hy.tr hst
  refine lv_aload_n hx hb dX1_atLeast_11 rfl (lv_at hl 1 rfl) ?_
  refine r_len hx hb hK (hro.2.1.here hAe hW) dX1_atLeast_12 ?_
  refine r_ald (i := w) hx hb hK (hW.at 5 rfl) (by omega) (by omega) dX1_atLeast_13 ?_
  have hW : Wd Z A s.heap (cw Z hc y2) _ _ := hW.sub [0, 1, 2, 3, 4] (by decide) rfl
  rw [hKK] at hco hco2 hRc hRs
  have hu3 := h2.2.2.2
  refine e_int hx hb hr hlk hAe hW (by omega) (by omega) dX1_atLeast_14 ⟨y2, g w, rfl, rfl, (by have e : 6 * w = 1 * w + 5 * w := (by omega); rw [e]; exact h2), hgb w (by omega), fun τ hτ => ?_⟩
  have hs := hgs τ hτ
  have e1 : rn y τ f w = 2 ^ w - 1 - rn x τ rb w := by
    have h1 : rn y τ f w = bn (fun j => !vl x τ (rb j)) w := bn_congr (hfs τ hτ)
    have h2 := bn_not (fun j => vl x τ (rb j)) w
    have h3 : rn x τ rb w = bn (fun j => vl x τ (rb j)) w := rfl
    rw [h1, h3]; omega
  rw [rn_s, e1, rn_ex hy.2.1 hra, vl_1 hy.1 hτ] at hs
  exact ge_bit hs (rn_lt _ _ _ _) (rn_lt _ _ _ _) (rn_lt _ _ _ _)
