set_option maxHeartbeats 4000000 in
set_option maxRecDepth 100000 in
/-- Reckoner.product -/
theorem k_product (l : Launch) (Z : Zt) (hk hc : Nat) (x : CS) (σ : Nat → Bool) (aa ab w : Nat) (ra rb : Nat → Nat) (hx0 : cok x σ) (hn : xn x + (pg w w) < 400000) (hw : w ≤ 64) (hra : ∀ j, j < w → ra j < xn x) (hrb : ∀ j, j < w → rb j < xn x) : MC l yX1_product cX1_product 8 (some (.array .int)) 6 280 ((1 + 3 * w) + 4 * (capU (xu x) (xn x + (pg w w)) - xu x)) ((w + 193 * w) + 512 * (capU (xu x) (xn x + (pg w w)) - xu x)) Z (cw Z hc x) (fun H => RO Z (cw Z hc x) (eo hk 1 [.ref hc]) H ∧ RO Z (cw Z hc x) (ea Z aa w ra) H ∧ RO Z (cw Z hc x) (ea Z ab w rb) H) [.ref hk, .ref aa, .ref ab] (numQ Z hc x σ (pg w w) w (fun τ => (rn x τ ra w * rn x τ rb w) % 2 ^ w)) := by
  refine mc_of (by decide) (Nat.le_of_ble_eq_true rfl) (fun p e s m below meth c ls A hx hb hr hts hown hlk hml hin hK hG hW hA hAe hro hl R hRf hRc hRs hRl => ?_)
  have hl : lv_has ls 8 [(0, .ref hk), (1, .ref aa), (2, .ref ab)] := hl
  have hW : Wd Z A s.heap (cw Z hc x ++ []) _ _ := hW
  obtain ⟨KK, hKK⟩ : ∃ k, k = pg w w := ⟨_, rfl⟩
  rw [← hKK] at hRc hRs hn
  have loop : ∀ (d i : Nat) (y : CS) (qt : Nat) (tot : Nat → Nat) (H : Heap) (locs : List Loc) (cl sl : Nat) (ls : Array Slot), i + d = w → stp x σ (pg w i) y → (∀ j, j < w → tot j < xn y) → (∀ τ, gd τ → rn y τ tot w = (rn x τ ra w * rn x τ rb i) % 2 ^ w) → cl = 1 + 3 * i + 4 * (xu y - xu x) → sl ≤ w + 193 * i + 512 * (xu y - xu x) → Wd Z A s.heap (cw Z hc y ++ [ea Z qt w tot]) H locs → lv_has ls 8 [(0, .ref hk), (1, .ref aa), (2, .ref ab), (3, .int (nI w)), (4, .ref qt), (5, .int (nI i))] → W p l e R s m ([.ref hk, .ref aa, .ref ab] : List Value).toArray below meth c H locs cl sl (MQ below (QC Z (cw Z hc x) s.heap.size (numQ Z hc x σ (pg w w) w (fun τ => (rn x τ ra w * rn x τ rb w) % 2 ^ w))) ([.ref hk, .ref aa, .ref ab] : List Value).toArray s ((1 + 3 * w) + 4 * (capU (xu x) (xn x + (pg w w)) - xu x)) ((w + 193 * w) + 512 * (capU (xu x) (xn x + (pg w w)) - xu x)) A) (F0 m 11 ls []) := by
    intro d
    induction d with
    | zero =>
      intro i y qt tot H locs cl sl ls hid hy htb hsem hcl hsl hW hl
      have hi : i = w := by omega
      refine lv_iload hx hb dX1_product_11 (lv_at hl 5 rfl) ?_
      refine lv_iload_n hx hb dX1_product_13 rfl (lv_at hl 3 rfl) ?_
      refine n_ge_t (tgt := 98) hx hb (by omega) (by omega) dX1_product_14 (by decide) ?_
      refine lv_aload hx hb dX1_product_98 (lv_at hl 4 rfl) ?_
      rw [hi] at hy hsem
      have hco := hy.cost (j := 0) (K := KK) (by omega)
      rw [hKK] at hco hRc hRs
      have hu3 := hy.2.2.2
      exact e_ref hx hb hr (Or.inr ⟨_, rfl⟩) hlk hAe hW (by omega) (by omega) dX1_product_100 ⟨y, qt, tot, rfl, rfl, hy, htb, hsem⟩
    | succ d ih =>
      intro i y qt tot H locs cl sl ls hid hy htb hsem hcl hsl hW hl
      have hny := hy.2.2.1
      have hrb_i := hrb i (by omega)
      have hpg := pg_mono w (i := i + 1) (j := w) (by omega)
      rw [pg_s] at hpg
      have huy := hy.2.2.2
      have hux : xu x ≤ xu y := (hy.cost (j := 0) (K := KK) (by omega)).1
      refine lv_iload hx hb dX1_product_11 (lv_at hl 5 rfl) ?_
      refine lv_iload_n hx hb dX1_product_13 rfl (lv_at hl 3 rfl) ?_
      refine n_ge_f (tgt := 98) hx hb (by omega) (by omega) dX1_product_14 (by decide) ?_
      refine lv_iload_n hx hb dX1_product_17 rfl (lv_at hl 3 rfl) ?_
      refine lv_iload hx hb dX1_product_18 (lv_at hl 5 rfl) ?_
      refine n_isub hx hb (by omega) dX1_product_20 ?_
      have hcof := hy.cost (j := 6 * (w - i)) (K := KK) (by omega)
      refine r_newa (n := (w - i)) hx hb hts tb_65 hK hW hA (by omega) (by omega) (by omega) dX1_product_21 (fun qp H hW hsz_qp hq_qp => ?_)
      have hW : Wd Z A s.heap (cw Z hc y ++ [ea Z qt w tot, ea Z qp (w - i) (fun _ => 0)]) _ _ := hW
      refine lv_astore (lv' := [(6, .ref qp), (0, .ref hk), (1, .ref aa), (2, .ref ab), (3, .int (nI w)), (4, .ref qt), (5, .int (nI i))]) hx hb dX1_product_23 hl (by decide) rfl (fun ls hl => ?_)
      refine lv_iconst (v := nI 0) hx hb dX1_product_25 (by decide) ?_
      refine lv_istore (lv' := [(7, .int (nI 0)), (6, .ref qp), (0, .ref hk), (1, .ref aa), (2, .ref ab), (3, .int (nI w)), (4, .ref qt), (5, .int (nI i))]) hx hb dX1_product_26 hl (by decide) rfl (fun ls hl => ?_)
      have inner : ∀ (d2 j : Nat) (y1 : CS) (qp : Nat) (pr : Nat → Nat) (H : Heap) (locs : List Loc) (cl2 sl2 : Nat) (ls : Array Slot), j + d2 = w - i → stp y σ j y1 → (∀ k, k < j → pr k < xn y1) → (∀ τ, gd τ → ∀ k, k < j → vl y1 τ (pr k) = (vl x τ (ra k) && vl x τ (rb i))) → cl2 = cl + 1 + 4 * (xu y1 - xu y) → sl2 = sl + (w - i) + 512 * (xu y1 - xu y) → Wd Z A s.heap (cw Z hc y1 ++ [ea Z qt w tot, ea Z qp (w - i) pr]) H locs → lv_has ls 8 [(0, .ref hk), (1, .ref aa), (2, .ref ab), (3, .int (nI w)), (4, .ref qt), (5, .int (nI i)), (6, .ref qp), (7, .int (nI j))] → W p l e R s m ([.ref hk, .ref aa, .ref ab] : List Value).toArray below meth c H locs cl2 sl2 (MQ below (QC Z (cw Z hc x) s.heap.size (numQ Z hc x σ (pg w w) w (fun τ => (rn x τ ra w * rn x τ rb w) % 2 ^ w))) ([.ref hk, .ref aa, .ref ab] : List Value).toArray s ((1 + 3 * w) + 4 * (capU (xu x) (xn x + (pg w w)) - xu x)) ((w + 193 * w) + 512 * (capU (xu x) (xn x + (pg w w)) - xu x)) A) (F0 m 28 ls []) := by
        intro d2
        induction d2 with
        | zero =>
          intro j y1 qp pr H locs cl2 sl2 ls hjd hy1 hpb hps hcl2 hsl2 hW hl
          have hj : j = w - i := by omega
          rw [hj] at hy1 hpb hps
          have hny1 := hy1.2.2.1
          have huy1 := hy1.2.2.2
          have hux1 := capU_le (xu y) (xn y + (w - i))
          have hco := hy1.cost (j := 5 * (w - i)) (K := 6 * (w - i)) (by omega)
          refine lv_iload hx hb dX1_product_28 (lv_at hl 7 rfl) ?_
          refine lv_aload hx hb dX1_product_30 (lv_at hl 6 rfl) ?_
          refine r_len hx hb hK (hW.at 6 rfl) dX1_product_32 ?_
          refine n_ge_t (tgt := 62) hx hb (by omega) (by omega) dX1_product_33 (by decide) ?_
          refine lv_aload_n hx hb dX1_product_62 rfl (lv_at hl 0 rfl) ?_
          refine lv_aload hx hb dX1_product_63 (lv_at hl 4 rfl) ?_
          refine lv_iload hx hb dX1_product_65 (lv_at hl 5 rfl) ?_
          refine lv_iload_n hx hb dX1_product_67 rfl (lv_at hl 3 rfl) ?_
          refine c_stat (As := [.ref qt, .int (nI i), .int (nI w)]) (rest := [.ref hk]) (wc := []) (wr := cw Z hc y1 ++ [ea Z qt w tot, ea Z qp (w - i) pr]) hx hb hml hown hts hK hG rfl hA hl (k_copyOfRange l Z qt w i w tot (by omega) (by omega) (by omega)) hW (hW.at 5 rfl) tb_418 tb_419 tb_13 tb_420 (nA := 3) (by decide +kernel) rfl ⟨by omega, by omega⟩ ⟨by omega, by omega⟩ rfl (Nat.le_of_ble_eq_true rfl) dX1_product_68 (fun v w1 H1 L1 hp hW hzz hkk hdd => ?_)
          obtain ⟨q2, t2, rfl, rfl, ht2⟩ := hp
          clear hzz hkk hdd
          generalize H1 = H at hW  ⊢
          generalize L1 = locs at hW ⊢
          have hW : Wd Z A s.heap ([ea Z q2 (w - i) t2] ++ cw Z hc y1 ++ [ea Z qt w tot, ea Z qp (w - i) pr]) _ _ := hW
          have hW : Wd Z A s.heap (cw Z hc y1 ++ [ea Z qt w tot, ea Z qp (w - i) pr, ea Z q2 (w - i) t2]) _ _ := hW.sub [1, 2, 3, 4, 5, 6, 7, 0] (by decide) rfl
          refine W.eq (g2 := F0 m 71 ls [.ref q2, .ref hk]) rfl ?_
          refine lv_aload hx hb dX1_product_71 (lv_at hl 6 rfl) ?_
          refine lv_iconst (v := nI 0) hx hb dX1_product_73 (by decide) ?_
          refine c_virt (As := [.ref q2, .ref qp, .int (nI 0)]) (rest := []) (wc := cw Z hc y1) (wr := [ea Z qt w tot, ea Z qp (w - i) pr, ea Z q2 (w - i) t2]) (nl := 0) hx hb hml hown hts hK hG rfl hA hl (k_sum l Z hk hc y1 σ q2 qp (w - i) (w - i) t2 pr 0 hy1.1 (by omega) (by omega) (Nat.le_refl _) (by omega) (fun k hk => by rw [ht2 k hk]; have := htb (i + k) (by omega); omega) hpb (by have := hy1.1.1; omega)) hW ⟨RO.pass hro.1 hAe hW, RO.loc hW 2 rfl, RO.loc hW 1 rfl⟩ (hro.1.here hAe hW) rfl rfl tb_372 tb_373 tb_374 tb_2 tb_375 (nA := 3) (by decide +kernel) rfl ⟨by omega, by omega⟩ ⟨by omega, by omega⟩ rfl (Nat.le_of_ble_eq_true rfl) dX1_product_74 (fun v w1 H1 L1 hp hW hzz hkk hdd => ?_)
          obtain ⟨y2, q3, g, rfl, rfl, hst, hgb, hgs⟩ := hp
          clear hzz hkk hdd
          generalize H1 = H at hW  ⊢
          generalize L1 = locs at hW ⊢
          have hW : Wd Z A s.heap (cw Z hc y2 ++ [ea Z q3 (w - i + 1) g, ea Z qt w tot, ea Z qp (w - i) pr, ea Z q2 (w - i) t2]) _ _ := hW
          refine W.eq (g2 := F0 m 77 ls [.ref q3]) rfl ?_
          have hu2 := hst.2.2.2
          have h2 := hy1.tr hst
          have h3 := hy.tr h2
          refine lv_astore (lv' := [(7, .ref q3), (0, .ref hk), (1, .ref aa), (2, .ref ab), (3, .int (nI w)), (4, .ref qt), (5, .int (nI i)), (6, .ref qp)]) hx hb dX1_product_77 hl (by decide) rfl (fun ls hl => ?_)
          refine lv_aload hx hb dX1_product_79 (lv_at hl 0 rfl) ?_
          refine lv_iconst (v := nI 0) hx hb dX1_product_81 (by decide) ?_
          refine lv_aload hx hb dX1_product_82 (lv_at hl 5 rfl) ?_
          refine lv_iload hx hb dX1_product_84 (lv_at hl 6 rfl) ?_
          refine lv_aload hx hb dX1_product_86 (lv_at hl 7 rfl) ?_
          refine r_len hx hb hK (hW.at 7 rfl) dX1_product_88 ?_
          refine r_copy hx hb hml hl hown hts hK hW tb_646 (f := g) (n0 := w - i + 1) (sp := 0) (dp := i) (n := w - i) (hW.at 5 rfl) 6 rfl (by omega) (by omega) (by omega) (by omega) (by omega) (by rw [hRl]; exact Nat.le_of_ble_eq_true rfl) dX1_product_89 (fun H locs hW => ?_)
          have hW : Wd Z A s.heap (cw Z hc y2 ++ [ea Z q3 (w - i + 1) g, ea Z qt w (va_cpy g tot 0 i (w - i)), ea Z qp (w - i) pr, ea Z q2 (w - i) t2]) _ _ := hW
          refine lv_iinc (v := nI (i + 1)) (lv' := [(5, .int (nI (i + 1))), (7, .ref q3), (0, .ref hk), (1, .ref aa), (2, .ref ab), (3, .int (nI w)), (4, .ref qt), (6, .ref qp)]) hx hb dX1_product_92 hl (k := 6) rfl (inc1 _) (by decide) rfl (fun ls hl => ?_)
          refine lv_goto (tgt := 11) hx hb dX1_product_95 (by decide) ?_
          have hW : Wd Z A s.heap (cw Z hc y2 ++ [ea Z qt w (va_cpy g tot 0 i (w - i))]) _ _ := hW.sub [0, 1, 2, 3, 4, 6] (by decide) rfl
          have hny2 := h3.2.2.1
          refine ih (i + 1) y2 qt (va_cpy g tot 0 i (w - i)) _ _ _ _ ls (by omega) (by rw [pg_s]; have e : pg w i + 6 * (w - i) = pg w i + (w - i + 5 * (w - i)) := (by omega); rw [e]; exact h3) (fun j hj => ?_) (fun τ hτ => ?_) ?_ ?_ hW (lv_sub hl [2, 3, 4, 5, 6, 0] rfl)
          · by_cases e : i ≤ j
            · rw [pk_cpy_in e (by omega)]; exact hgb _ (by omega)
            · rw [pk_cpy_out (by omega)]; have := htb j hj; omega
          · have c1 : cex y y2 := h2.2.1
            have hs := hgs τ hτ
            have eT := hsem τ hτ
            have eL : rn y2 τ (va_cpy g tot 0 i (w - i)) i = rn y τ tot i := by
              rw [rn_congr (r' := tot) (fun j hj => pk_cpy_out (by omega)), rn_ex c1 (fun j hj => htb j (by omega))]
            have eH : rn y2 τ (fun j => va_cpy g tot 0 i (w - i) (i + j)) (w - i) = rn y2 τ g (w - i) := rn_congr (fun j hj => by rw [pk_cpy_in (by omega) (by omega)]; congr 1; omega)
            have e3 : rn y1 τ t2 (w - i) = rn y τ (fun j => tot (i + j)) (w - i) := by
              rw [rn_congr (r' := fun j => tot (i + j)) (fun j hj => ht2 j (by omega)), rn_ex hy1.2.1 (fun j hj => htb (i + j) (by omega))]
            have e4 : rn y1 τ pr (w - i) = (vl x τ (rb i)).toNat * (rn x τ ra w % 2 ^ (w - i)) := by
              have h1 : rn y1 τ pr (w - i) = bn (fun j => vl x τ (ra j) && vl x τ (rb i)) (w - i) := bn_congr (hps τ hτ)
              rw [h1, bn_and, ← rn_low (by omega)]; rfl
            rw [rn_s, e3, e4, vl_0 hy1.1 hτ] at hs
            have hw2 : w = i + (w - i) := by omega
            rw [hw2, rn_split, ← hw2] at eT
            have eG : rn y2 τ g (w - i) = (rn y τ (fun j => tot (i + j)) (w - i) + (vl x τ (rb i)).toNat * (rn x τ ra w % 2 ^ (w - i))) % 2 ^ (w - i) := low_mod (b := (vl y2 τ (g (w - i))).toNat) (by rw [hs]; rfl) (rn_lt _ _ _ _)
            have eF : rn y2 τ (va_cpy g tot 0 i (w - i)) w = rn y τ tot i + 2 ^ i * rn y2 τ g (w - i) := by
              have h := rn_split y2 τ (va_cpy g tot 0 i (w - i)) i (w - i)
              rw [← hw2, eL, eH] at h
              exact h
            rw [eF, eG, rn_s]
            exact mul_step (by omega) eT (rn_lt _ _ _ _)
          · omega
          · omega
        | succ d2 ih2 =>
          intro j y1 qp pr H locs cl2 sl2 ls hjd hy1 hpb hps hcl2 hsl2 hW hl
          have hny1 := hy1.2.2.1
          have huy1 := hy1.2.2.2
          have hra_j := hra j (by omega)
          refine lv_iload hx hb dX1_product_28 (lv_at hl 7 rfl) ?_
          refine lv_aload hx hb dX1_product_30 (lv_at hl 6 rfl) ?_
          refine r_len hx hb hK (hW.at 6 rfl) dX1_product_32 ?_
          refine n_ge_f (tgt := 62) hx hb (by omega) (by omega) dX1_product_33 (by decide) ?_
          refine lv_aload hx hb dX1_product_36 (lv_at hl 6 rfl) ?_
          refine lv_iload hx hb dX1_product_38 (lv_at hl 7 rfl) ?_
          refine lv_aload_n hx hb dX1_product_40 rfl (lv_at hl 0 rfl) ?_
          refine r_get hx hb hts hown hK (hro.1.here hAe hW) rfl in_X1 0 (by decide) tb_66 (fun _ h => h) rfl dX1_product_41 ?_
          refine lv_aload_n hx hb dX1_product_44 rfl (lv_at hl 1 rfl) ?_
          refine lv_iload hx hb dX1_product_45 (lv_at hl 7 rfl) ?_
          refine r_ald (i := j) hx hb hK (hro.2.1.here hAe hW) (by omega) (by omega) dX1_product_47 ?_
          refine lv_aload_n hx hb dX1_product_48 rfl (lv_at hl 2 rfl) ?_
          refine lv_iload hx hb dX1_product_49 (lv_at hl 5 rfl) ?_
          refine r_ald (i := i) hx hb hK (hro.2.2.here hAe hW) (by omega) (by omega) dX1_product_51 ?_
          have hco := hy1.cost (j := 1) (K := 6 * (w - i)) (by omega)
          refine c_virt (As := [.int (nI (ra j)), .int (nI (rb i))]) (rest := [.int (nI j), .ref qp]) (wc := cw Z hc y1) (wr := [ea Z qt w tot, ea Z qp (w - i) pr]) (nl := 0) hx hb hml hown hts hK hG rfl hA hl (k_and l Z hc y1 σ (ra j) (rb i) hy1.1 (by omega) (by omega) (by omega)) hW trivial (hW.at 0 rfl) rfl rfl tb_376 tb_377 tb_378 tb_3 tb_379 (nA := 2) (by decide +kernel) rfl ⟨by omega, by omega⟩ ⟨by omega, by omega⟩ rfl (Nat.le_of_ble_eq_true rfl) dX1_product_52 (fun v w1 H1 L1 hp hW hzz hkk hdd => ?_)
          obtain ⟨y2, rfl, rfl, g2⟩ := hp
          clear hzz hkk hdd
          generalize H1 = H at hW  ⊢
          generalize L1 = locs at hW ⊢
          have hW : Wd Z A s.heap (cw Z hc y2 ++ [ea Z qt w tot, ea Z qp (w - i) pr]) _ _ := hW
          refine W.eq (g2 := F0 m 55 ls [.int (nI (xn y1)), .int (nI j), .ref qp]) rfl ?_
          have hy2 := hy1.g g2
          have hny2 := hy2.2.2.1
          have huy2 := (stp.of g2).2.2.2
          have k1 := cex.rf y2
          have k0 := g2.2.2.2.2.1.tr k1
          have kx := hy.2.1.tr hy2.2.1
          refine r_ast (i := j) (x := (xn y1)) hx hb hK hW 6 rfl (by omega) (by omega) dX1_product_55 (fun H locs hW => ?_)
          have hW : Wd Z A s.heap (cw Z hc y2 ++ [ea Z qt w tot, ea Z qp (w - i) (up pr j (xn y1))]) _ _ := hW
          refine lv_iinc (v := nI (j + 1)) (lv' := [(7, .int (nI (j + 1))), (0, .ref hk), (1, .ref aa), (2, .ref ab), (3, .int (nI w)), (4, .ref qt), (5, .int (nI i)), (6, .ref qp)]) hx hb dX1_product_56 hl (k := 7) rfl (inc1 _) (by decide) rfl (fun ls hl => ?_)
          refine lv_goto (tgt := 28) hx hb dX1_product_59 (by decide) ?_
          refine ih2 (j + 1) y2 qp (up pr j (xn y1)) _ _ _ _ ls (by omega) hy2 (fun k hk => ?_) (fun τ hτ k hk => ?_) ?_ ?_ hW (lv_sub hl [1, 2, 3, 4, 5, 6, 7, 0] rfl)
          · by_cases e : k = j
            · subst e; rw [up_s]; omega
            · rw [up_n _ _ e]; have := hpb k (by omega); omega
          · by_cases e : k = j
            · subst e
              rw [up_s, gval g2 (by decide) k1 (by omega) (by omega) τ, c_op1, kx.vl hra_j, kx.vl hrb_i]
            · rw [up_n _ _ e, k0.vl (hpb k (by omega))]
              exact hps τ hτ k (by omega)
          · omega
          · omega
      exact inner (w - i) 0 y qp (fun _ => 0) _ _ _ _ ls (by omega) (stp.rf hy.1) (fun j hj => absurd hj (by omega)) (fun τ hτ j hj => absurd hj (by omega)) (by omega) (by omega) hW (lv_sub hl [2, 3, 4, 5, 6, 7, 1, 0] rfl)
  refine lv_aload_n hx hb dX1_product_0 rfl (lv_at hl 1 rfl) ?_
  refine r_len hx hb hK (hro.2.1.here hAe hW) dX1_product_1 ?_
  refine lv_istore_n (lv' := [(3, .int (nI w)), (0, .ref hk), (1, .ref aa), (2, .ref ab)]) hx hb dX1_product_2 rfl hl (by decide) rfl (fun ls hl => ?_)
  refine lv_iload_n hx hb dX1_product_3 rfl (lv_at hl 0 rfl) ?_
  refine r_newa (n := w) hx hb hts tb_65 hK hW hA (by omega) (by omega) (by omega) dX1_product_4 (fun qt H hW hsz_qt hq_qt => ?_)
  have hW : Wd Z A s.heap (cw Z hc x ++ [ea Z qt w (fun _ => 0)]) _ _ := hW
  refine lv_astore (lv' := [(4, .ref qt), (3, .int (nI w)), (0, .ref hk), (1, .ref aa), (2, .ref ab)]) hx hb dX1_product_6 hl (by decide) rfl (fun ls hl => ?_)
  refine lv_iconst (v := nI 0) hx hb dX1_product_8 (by decide) ?_
  refine lv_istore (lv' := [(5, .int (nI 0)), (4, .ref qt), (3, .int (nI w)), (0, .ref hk), (1, .ref aa), (2, .ref ab)]) hx hb dX1_product_9 hl (by decide) rfl (fun ls hl => ?_)
  refine loop w 0 x qt (fun _ => 0) _ _ _ _ ls (by omega) (stp.rf hx0) (fun j hj => by have := hx0.1; omega) (fun τ hτ => ?_) (by omega) (by omega) hW (lv_sub hl [3, 4, 5, 2, 1, 0] rfl)
  rw [rn_zero hx0 hτ]
  simp [rn, bn]
def dvi (k : Nat) : Int32 := nI k + Int32.ofInt (-1)
theorem dvi_s (k : Nat) : dvi (k + 1) = nI k := dec1 (by omega)
theorem dvi_0 : dvi 0 < 0 := by decide
def dvN (wr : Nat) (A B w : Nat) : Nat := if wr = 0 then dQ A B w 0 else dR A B 0
set_option maxHeartbeats 4000000 in
set_option maxRecDepth 100000 in
/-- Reckoner.divided -/
theorem k_divided (l : Launch) (Z : Zt) (hk hc : Nat) (x : CS) (σ : Nat → Bool) (aa ab w wr : Nat) (ra rb : Nat → Nat) (hx0 : cok x σ) (hn : xn x + (dg w w) < 400000) (hw : w ≤ 64) (hw1 : 1 ≤ w) (hwr : wr ≤ 1) (hra : ∀ j, j < w → ra j < xn x) (hrb : ∀ j, j < w → rb j < xn x) : MC l yX1_divided cX1_divided 11 (some (.array .int)) 6 280 ((3 + 3 * w) + 4 * (capU (xu x) (xn x + (dg w w)) - xu x)) ((3 * w + 193 * w) + 512 * (capU (xu x) (xn x + (dg w w)) - xu x)) Z (cw Z hc x) (fun H => RO Z (cw Z hc x) (eo hk 1 [.ref hc]) H ∧ RO Z (cw Z hc x) (ea Z aa w ra) H ∧ RO Z (cw Z hc x) (ea Z ab w rb) H) [.ref hk, .ref aa, .ref ab, .int (nI wr)] (numQ Z hc x σ (dg w w) w (fun τ => dvN wr (rn x τ ra w) (rn x τ rb w) w)) := by
  refine mc_of (by decide) (Nat.le_of_ble_eq_true rfl) (fun p e s m below meth c ls A hx hb hr hts hown hlk hml hin hK hG hW hA hAe hro hl R hRf hRc hRs hRl => ?_)
  have hl : lv_has ls 11 [(0, .ref hk), (1, .ref aa), (2, .ref ab), (3, .int (nI wr))] := hl
  have hW : Wd Z A s.heap (cw Z hc x ++ []) _ _ := hW
  obtain ⟨KK, hKK⟩ : ∃ k, k = dg w w := ⟨_, rfl⟩
  rw [← hKK] at hRc hRs hn
  have loop : ∀ (k i : Nat) (y : CS) (q5 q6 q7 : Nat) (iv qt rs : Nat → Nat) (H : Heap) (locs : List Loc) (cl sl : Nat) (ls : Array Slot), i + k = w → stp x σ (dg w i) y → (∀ j, j < w → iv j < xn y ∧ rs j < xn y ∧ qt j < xn y) → (∀ τ, gd τ → (∀ j, j < w → vl y τ (iv j) = !vl x τ (rb j)) ∧ rn y τ rs w = dR (rn x τ ra w) (rn x τ rb w) k ∧ bn (fun j => vl y τ (qt (k + j))) (w - k) = dQ (rn x τ ra w) (rn x τ rb w) w k) → cl = 3 + 3 * i + 4 * (xu y - xu x) → sl ≤ 3 * w + 193 * i + 512 * (xu y - xu x) → Wd Z A s.heap (cw Z hc y ++ [ea Z q5 w iv, ea Z q6 w qt, ea Z q7 w rs]) H locs → lv_has ls 11 [(0, .ref hk), (1, .ref aa), (3, .int (nI wr)), (4, .int (nI w)), (5, .ref q5), (6, .ref q6), (7, .ref q7), (8, .int (dvi k))] → W p l e R s m ([.ref hk, .ref aa, .ref ab, .int (nI wr)] : List Value).toArray below meth c H locs cl sl (MQ below (QC Z (cw Z hc x) s.heap.size (numQ Z hc x σ (dg w w) w (fun τ => dvN wr (rn x τ ra w) (rn x τ rb w) w))) ([.ref hk, .ref aa, .ref ab, .int (nI wr)] : List Value).toArray s ((3 + 3 * w) + 4 * (capU (xu x) (xn x + (dg w w)) - xu x)) ((3 * w + 193 * w) + 512 * (capU (xu x) (xn x + (dg w w)) - xu x)) A) (F0 m 29 ls []) := by
    intro k
    induction k with
    | zero =>
      intro i y q5 q6 q7 iv qt rs H locs cl sl ls hid hy hbd hsem hcl hsl hW hl
      have hi : i = w := by omega
      rw [hi] at hy
      have hco := hy.cost (j := 0) (K := KK) (by omega)
      rw [hKK] at hco hRc hRs
      have hu3 := hy.2.2.2
      refine lv_iload hx hb dX1_divided_29 (lv_at hl 7 rfl) ?_
      refine lv_if_lt (tgt := 89) hx hb dX1_divided_31 (by decide) (fun _ => ?_) (fun q => absurd dvi_0 q)
      refine lv_iload_n hx hb dX1_divided_89 rfl (lv_at hl 2 rfl) ?_
      by_cases hw0 : wr = 0
      · refine n_zeq_t (tgt := 98) hx hb (by omega) dX1_divided_90 (by decide) ?_
        refine lv_aload hx hb dX1_divided_98 (lv_at hl 5 rfl) ?_
        have hW : Wd Z A s.heap (cw Z hc y ++ [ea Z q6 w qt]) _ _ := hW.sub [0, 1, 2, 3, 4, 6] (by decide) rfl
        refine e_ref hx hb hr (Or.inr ⟨_, rfl⟩) hlk hAe hW (by omega) (by omega) dX1_divided_100 ⟨y, q6, qt, rfl, rfl, hy, fun j hj => (hbd j hj).2.2, fun τ hτ => ?_⟩
        have h := (hsem τ hτ).2.2
        simp only [Nat.zero_add, Nat.sub_zero] at h
        dsimp only
        rw [dvN, if_pos hw0]
        exact h
      · refine n_zeq_f (tgt := 98) hx hb (by omega) (by omega) dX1_divided_90 (by decide) ?_
        refine lv_aload hx hb dX1_divided_93 (lv_at hl 6 rfl) ?_
        refine lv_goto (tgt := 100) hx hb dX1_divided_95 (by decide) ?_
        have hW : Wd Z A s.heap (cw Z hc y ++ [ea Z q7 w rs]) _ _ := hW.sub [0, 1, 2, 3, 4, 7] (by decide) rfl
        refine e_ref hx hb hr (Or.inr ⟨_, rfl⟩) hlk hAe hW (by omega) (by omega) dX1_divided_100 ⟨y, q7, rs, rfl, rfl, hy, fun j hj => (hbd j hj).2.1, fun τ hτ => ?_⟩
        dsimp only
        rw [dvN, if_neg hw0]
        exact (hsem τ hτ).2.1
    | succ k ih =>
      intro i y q5 q6 q7 iv qt rs H locs cl sl ls hid hy hbd hsem hcl hsl hW hl
      have hny := hy.2.2.1
      have huy := hy.2.2.2
      have hra_k := hra k (by omega)
      have hdg := dg_mono w (i := i + 1) (j := w) (by omega)
      rw [dg_s] at hdg
      rw [dvi_s] at hl
      have hl : lv_has ls 11 [(0, .ref hk), (1, .ref aa), (3, .int (nI wr)), (4, .int (nI w)), (5, .ref q5), (6, .ref q6), (7, .ref q7), (8, .int (nI k))] := hl
      have hux : xu x ≤ xu y := (hy.cost (j := 0) (K := KK) (by omega)).1
      have hco := hy.cost (j := 5 * w) (K := KK) (by omega)
      refine lv_iload hx hb dX1_divided_29 (lv_at hl 7 rfl) ?_
      refine n_zlt_f (tgt := 89) hx hb (by omega) dX1_divided_31 (by decide) ?_
      refine lv_aload hx hb dX1_divided_34 (lv_at hl 6 rfl) ?_
      refine lv_iconst (v := nI 1) hx hb dX1_divided_36 (by decide) ?_
      refine lv_iconst (v := nI 1) hx hb dX1_divided_37 (by decide) ?_
      refine lv_aload_n hx hb dX1_divided_38 rfl (lv_at hl 1 rfl) ?_
      refine lv_iload hx hb dX1_divided_39 (lv_at hl 7 rfl) ?_
      refine r_ald (i := k) hx hb hK (hro.2.1.here hAe hW) (by omega) (by omega) dX1_divided_41 ?_
      refine c_stat (As := [.ref q7, .int (nI 1), .int (nI 1), .int (nI (ra k))]) (rest := []) (wc := []) (wr := cw Z hc y ++ [ea Z q5 w iv, ea Z q6 w qt, ea Z q7 w rs]) hx hb hml hown hts hK hG rfl hA hl (k_moved l Z q7 w 1 1 (ra k) rs (by omega) (by omega) (by omega)) hW (hW.at 7 rfl) tb_652 tb_653 tb_2 tb_654 (nA := 4) (by decide +kernel) rfl ⟨by omega, by omega⟩ ⟨by omega, by omega⟩ rfl (Nat.le_of_ble_eq_true rfl) dX1_divided_42 (fun v w1 H1 L1 hp hW hzz hkk hdd => ?_)
      obtain ⟨q9, nx, rfl, rfl, hnx⟩ := hp
      clear hzz hkk hdd
      generalize H1 = H at hW  ⊢
      generalize L1 = locs at hW ⊢
      have hW : Wd Z A s.heap ([ea Z q9 w nx] ++ cw Z hc y ++ [ea Z q5 w iv, ea Z q6 w qt, ea Z q7 w rs]) _ _ := hW
      have hW : Wd Z A s.heap (cw Z hc y ++ [ea Z q5 w iv, ea Z q6 w qt, ea Z q7 w rs, ea Z q9 w nx]) _ _ := hW.sub [1, 2, 3, 4, 5, 6, 7, 8, 0] (by decide) rfl
      refine W.eq (g2 := F0 m 45 ls [.ref q9]) rfl ?_
      refine lv_astore (lv' := [(9, .ref q9), (0, .ref hk), (1, .ref aa), (3, .int (nI wr)), (4, .int (nI w)), (5, .ref q5), (6, .ref q6), (7, .ref q7), (8, .int (nI k))]) hx hb dX1_divided_45 hl (by decide) rfl (fun ls hl => ?_)
      refine lv_aload_n hx hb dX1_divided_47 rfl (lv_at hl 1 rfl) ?_
      refine lv_aload hx hb dX1_divided_48 (lv_at hl 0 rfl) ?_
      refine lv_aload hx hb dX1_divided_50 (lv_at hl 5 rfl) ?_
      refine lv_iconst (v := nI 1) hx hb dX1_divided_52 (by decide) ?_
      have hnb : ∀ j, j < w → nx j < xn y := fun j hj => by rw [hnx j hj]; exact mvd_lt hj (by omega) (fun i hi => (hbd i hi).2.1)
      refine c_virt (As := [.ref q9, .ref q5, .int (nI 1)]) (rest := []) (wc := cw Z hc y) (wr := [ea Z q5 w iv, ea Z q6 w qt, ea Z q7 w rs, ea Z q9 w nx]) (nl := 0) hx hb hml hown hts hK hG rfl hA hl (k_sum l Z hk hc y σ q9 q5 w w nx iv 1 hy.1 (by omega) hw (Nat.le_refl _) (by omega) hnb (fun j hj => (hbd j hj).1) (by have := hy.1.1; omega)) hW ⟨RO.pass hro.1 hAe hW, RO.loc hW 3 rfl, RO.loc hW 0 rfl⟩ (hro.1.here hAe hW) rfl rfl tb_372 tb_373 tb_374 tb_2 tb_375 (nA := 3) (by decide +kernel) rfl ⟨by omega, by omega⟩ ⟨by omega, by omega⟩ rfl (Nat.le_of_ble_eq_true rfl) dX1_divided_53 (fun v w1 H1 L1 hp hW hzz hkk hdd => ?_)
      obtain ⟨y2, q10, td, rfl, rfl, hst, htdb, htds⟩ := hp
      clear hzz hkk hdd
      generalize H1 = H at hW  ⊢
      generalize L1 = locs at hW ⊢
      have hW : Wd Z A s.heap (cw Z hc y2 ++ [ea Z q10 (w + 1) td, ea Z q5 w iv, ea Z q6 w qt, ea Z q7 w rs, ea Z q9 w nx]) _ _ := hW
      refine W.eq (g2 := F0 m 56 ls [.ref q10]) rfl ?_
      have hu2 := hst.2.2.2
      have h2 := hy.tr hst
      have hny2 := hst.2.2.1
      have hco2 := h2.cost (j := 3 * w) (K := KK) (by omega)
      have htw := htdb w (by omega)
      refine lv_astore (lv' := [(10, .ref q10), (9, .ref q9), (0, .ref hk), (1, .ref aa), (3, .int (nI wr)), (4, .int (nI w)), (5, .ref q5), (6, .ref q6), (7, .ref q7), (8, .int (nI k))]) hx hb dX1_divided_56 hl (by decide) rfl (fun ls hl => ?_)
      refine lv_aload hx hb dX1_divided_58 (lv_at hl 7 rfl) ?_
      refine lv_iload hx hb dX1_divided_60 (lv_at hl 9 rfl) ?_
      refine lv_aload hx hb dX1_divided_62 (lv_at hl 0 rfl) ?_
      refine lv_iload hx hb dX1_divided_64 (lv_at hl 5 rfl) ?_
      refine r_ald (i := w) hx hb hK (hW.at 5 rfl) (by omega) (by omega) dX1_divided_66 ?_
      refine r_ast (i := k) (x := (td w)) hx hb hK hW 7 rfl (by omega) (by omega) dX1_divided_67 (fun H locs hW => ?_)
      have hW : Wd Z A s.heap (cw Z hc y2 ++ [ea Z q10 (w + 1) td, ea Z q5 w iv, ea Z q6 w (up qt k (td w)), ea Z q7 w rs, ea Z q9 w nx]) _ _ := hW
      refine lv_aload_n hx hb dX1_divided_68 rfl (lv_at hl 2 rfl) ?_
      refine lv_aload hx hb dX1_divided_69 (lv_at hl 7 rfl) ?_
      refine lv_iload hx hb dX1_divided_71 (lv_at hl 9 rfl) ?_
      refine r_ald (i := k) hx hb hK (hW.at 7 rfl) (by omega) (by omega) dX1_divided_73 ?_
      refine lv_aload hx hb dX1_divided_74 (lv_at hl 0 rfl) ?_
      refine lv_aload hx hb dX1_divided_76 (lv_at hl 1 rfl) ?_
      rw [up_s]
      refine c_virt (As := [.int (nI (td w)), .ref q10, .ref q9]) (rest := []) (wc := cw Z hc y2) (wr := [ea Z q10 (w + 1) td, ea Z q5 w iv, ea Z q6 w (up qt k (td w)), ea Z q7 w rs, ea Z q9 w nx]) (nl := 0) hx hb hml hown hts hK hG rfl hA hl (k_picked l Z hk hc y2 σ (td w) q10 q9 w (w + 1) td nx h2.1 (by omega) hw (by omega) (by omega) htw (fun j hj => htdb j (by omega)) (fun j hj => by have := hnb j hj; omega)) hW ⟨RO.pass hro.1 hAe hW, RO.loc hW 0 rfl, RO.loc hW 4 rfl⟩ (hro.1.here hAe hW) rfl rfl tb_655 tb_656 tb_657 tb_2 tb_658 (nA := 3) (by decide +kernel) rfl ⟨by omega, by omega⟩ ⟨by omega, by omega⟩ rfl (Nat.le_of_ble_eq_true rfl) dX1_divided_78 (fun v w1 H1 L1 hp hW hzz hkk hdd => ?_)
      obtain ⟨y3, q11, rs2, rfl, rfl, hst3, hrb3, hrs3⟩ := hp
      clear hzz hkk hdd
      generalize H1 = H at hW  ⊢
      generalize L1 = locs at hW ⊢
      have hW : Wd Z A s.heap (cw Z hc y3 ++ [ea Z q11 w rs2, ea Z q10 (w + 1) td, ea Z q5 w iv, ea Z q6 w (up qt k (td w)), ea Z q7 w rs, ea Z q9 w nx]) _ _ := hW
      refine W.eq (g2 := F0 m 81 ls [.ref q11]) rfl ?_
      have hu3 := hst3.2.2.2
      have h3 := h2.tr hst3
      have hny3 := h3.2.2.1
      refine lv_astore (lv' := [(7, .ref q11), (10, .ref q10), (9, .ref q9), (0, .ref hk), (1, .ref aa), (3, .int (nI wr)), (4, .int (nI w)), (5, .ref q5), (6, .ref q6), (8, .int (nI k))]) hx hb dX1_divided_81 hl (by decide) rfl (fun ls hl => ?_)
      refine lv_iinc (v := dvi k) (lv' := [(8, .int (dvi k)), (7, .ref q11), (10, .ref q10), (9, .ref q9), (0, .ref hk), (1, .ref aa), (3, .int (nI wr)), (4, .int (nI w)), (5, .ref q5), (6, .ref q6)]) hx hb dX1_divided_83 hl (k := 9) rfl rfl (by decide) rfl (fun ls hl => ?_)
      refine lv_goto (tgt := 29) hx hb dX1_divided_86 (by decide) ?_
      have hW : Wd Z A s.heap (cw Z hc y3 ++ [ea Z q5 w iv, ea Z q6 w (up qt k (td w)), ea Z q11 w rs2]) _ _ := hW.sub [0, 1, 2, 3, 4, 7, 8, 5] (by decide) rfl
      have c2 : cex y y3 := hst.2.1.tr hst3.2.1
      refine ih (i + 1) y3 q5 q6 q11 iv (up qt k (td w)) rs2 _ _ _ _ ls (by omega) (by rw [dg_s]; have e : dg w i + 8 * w = dg w i + 5 * w + 3 * w := (by omega); rw [e]; exact h3) (fun j hj => ⟨?_, hrb3 j hj, ?_⟩) (fun τ hτ => ?_) ?_ ?_ hW (lv_sub hl [4, 5, 6, 7, 8, 9, 1, 0] rfl)
      · have := (hbd j hj).1; omega
      · by_cases e : j = k
        · subst e; rw [up_s]; omega
        · rw [up_n _ _ e]; have := (hbd j hj).2.2; omega
      · obtain ⟨s1, s2, s3⟩ := hsem τ hτ
        have hAl := rn_lt x τ ra w
        have hab : (rn x τ ra w).testBit k = vl x τ (ra k) := by
          have h := bn_bit (fun j => vl x τ (ra j)) w k
          rw [decide_eq_true (by omega), Bool.true_and] at h
          exact h
        have hRl := dR_lt hAl (show k < w by omega) (rn x τ rb w)
        have hnv : rn y τ nx w = 2 * dR (rn x τ ra w) (rn x τ rb w) (k + 1) + (vl x τ (ra k)).toNat := by
          refine bn_up1 (β := fun j => vl y τ (rs j)) (by omega) s2 hRl ?_ (fun j h1 h2 => ?_)
          · show vl y τ (nx 0) = _
            rw [hnx 0 (by omega), mvd, if_pos rfl, if_neg (by omega), hy.2.1.vl hra_k]
          · show vl y τ (nx j) = _
            rw [hnx j h2, mvd, if_pos rfl, if_pos h1]
        have e1 : rn y τ iv w = 2 ^ w - 1 - rn x τ rb w := by
          have h1 : rn y τ iv w = bn (fun j => !vl x τ (rb j)) w := bn_congr s1
          have h2 := bn_not (fun j => vl x τ (rb j)) w
          have h3 : rn x τ rb w = bn (fun j => vl x τ (rb j)) w := rfl
          rw [h1, h3]; omega
        have hBl := rn_lt x τ rb w
        have hNl := rn_lt y τ nx w
        have hs := htds τ hτ
        rw [rn_s, e1, vl_1 hy.1 hτ] at hs
        have hge := ge_bit hs (rn_lt _ _ _ _) hNl hBl
        have hge3 : vl y3 τ (td w) = vl y2 τ (td w) := hst3.2.1.vl htw
        have hlow : rn y2 τ td w = (rn y τ nx w + (2 ^ w - 1 - rn x τ rb w) + 1) % 2 ^ w := low_mod hs (rn_lt _ _ _ _)
        refine ⟨fun j hj => by rw [c2.vl (hbd j hj).1]; exact s1 j hj, ?_, ?_⟩
        · rw [dR_step, hab, ← hnv]
          have hpk : rn y3 τ rs2 w = if vl y2 τ (td w) then rn y2 τ td w else rn y2 τ nx w := by
            have h := bn_congr (n := w) (β := fun j => vl y3 τ (rs2 j)) (hrs3 τ hτ)
            dsimp only at h
            cases hc : vl y2 τ (td w)
            · rw [hc] at h; exact h
            · rw [hc] at h; exact h
          rw [hpk, hge, rn_ex hst.2.1 hnb]
          by_cases q : rn x τ rb w ≤ rn y τ nx w
          · rw [decide_eq_true q, if_pos rfl, if_pos q, hlow]
            have e : rn y τ nx w + (2 ^ w - 1 - rn x τ rb w) + 1 = (rn y τ nx w - rn x τ rb w) + 2 ^ w := by omega
            rw [e, Nat.add_mod_right, Nat.mod_eq_of_lt (by omega)]
          · rw [decide_eq_false q, if_neg (by simp), if_neg q]
        · have e : w - k = (w - (k + 1)) + 1 := by omega
          have h0 := bn_shift1 (fun j => vl y3 τ (up qt k (td w) j)) k (w - (k + 1))
          rw [e, h0, up_s, dQ_step _ _ _ _ (by omega), hab, ← hnv, hge3, hge, ← s3]
          congr 2
          refine bn_congr (fun j hj => ?_)
          rw [up_n _ _ (by omega), c2.vl (hbd _ (by omega)).2.2]
      · omega
      · omega
  refine lv_aload_n hx hb dX1_divided_0 rfl (lv_at hl 1 rfl) ?_
  refine r_len hx hb hK (hro.2.1.here hAe hW) dX1_divided_1 ?_
  refine lv_istore (lv' := [(4, .int (nI w)), (0, .ref hk), (1, .ref aa), (2, .ref ab), (3, .int (nI wr))]) hx hb dX1_divided_2 hl (by decide) rfl (fun ls hl => ?_)
  refine lv_aload_n hx hb dX1_divided_4 rfl (lv_at hl 1 rfl) ?_
  refine lv_aload_n hx hb dX1_divided_5 rfl (lv_at hl 3 rfl) ?_
  have hx1 := stp.rf hx0
  have hdw : dg w 0 ≤ dg w w := dg_mono w (by omega)
  have hdw0 : dg w 0 = w := rfl
  have hco := hx1.cost (j := 1 * w) (K := KK) (by omega)
  refine c_virt (As := [.ref ab]) (rest := []) (wc := cw Z hc x) (wr := []) (nl := 0) hx hb hml hown hts hK hG rfl hA hl (k_inverted l Z hk hc x σ ab w rb hx0 (by omega) hw hrb) hW ⟨RO.pass hro.1 hAe hW, RO.pass hro.2.2 hAe hW⟩ (hro.1.here hAe hW) rfl rfl tb_651 tb_357 tb_358 tb_2 tb_359 (nA := 1) (by decide +kernel) rfl ⟨by omega, by omega⟩ ⟨by omega, by omega⟩ rfl (Nat.le_of_ble_eq_true rfl) dX1_divided_6 (fun v w1 H1 L1 hp hW hzz hkk hdd => ?_)
  obtain ⟨y, q5, iv, rfl, rfl, hy, hib, his⟩ := hp
  clear hzz hkk hdd
  generalize H1 = H at hW  ⊢
  generalize L1 = locs at hW ⊢
  have hW : Wd Z A s.heap (cw Z hc y ++ [ea Z q5 w iv]) _ _ := hW
  refine W.eq (g2 := F0 m 9 ls [.ref q5]) rfl ?_
  have huy := hy.2.2.2
  have hny := hy.2.2.1
  refine lv_astore (lv' := [(5, .ref q5), (4, .int (nI w)), (0, .ref hk), (1, .ref aa), (2, .ref ab), (3, .int (nI wr))]) hx hb dX1_divided_9 hl (by decide) rfl (fun ls hl => ?_)
  refine lv_iload hx hb dX1_divided_11 (lv_at hl 1 rfl) ?_
  refine r_newa (n := w) hx hb hts tb_65 hK hW hA (by omega) (by omega) (by omega) dX1_divided_13 (fun q6 H hW hsz_q6 hq_q6 => ?_)
  have hW : Wd Z A s.heap (cw Z hc y ++ [ea Z q5 w iv, ea Z q6 w (fun _ => 0)]) _ _ := hW
  refine lv_astore (lv' := [(6, .ref q6), (5, .ref q5), (4, .int (nI w)), (0, .ref hk), (1, .ref aa), (2, .ref ab), (3, .int (nI wr))]) hx hb dX1_divided_15 hl (by decide) rfl (fun ls hl => ?_)
  refine lv_iload hx hb dX1_divided_17 (lv_at hl 2 rfl) ?_
  refine r_newa (n := w) hx hb hts tb_65 hK hW hA (by omega) (by omega) (by omega) dX1_divided_19 (fun q7 H hW hsz_q7 hq_q7 => ?_)
  have hW : Wd Z A s.heap (cw Z hc y ++ [ea Z q5 w iv, ea Z q6 w (fun _ => 0), ea Z q7 w (fun _ => 0)]) _ _ := hW
  refine lv_astore (lv' := [(7, .ref q7), (6, .ref q6), (5, .ref q5), (4, .int (nI w)), (0, .ref hk), (1, .ref aa), (2, .ref ab), (3, .int (nI wr))]) hx hb dX1_divided_21 hl (by decide) rfl (fun ls hl => ?_)
  refine lv_iload hx hb dX1_divided_23 (lv_at hl 3 rfl) ?_
  refine lv_iconst (v := nI 1) hx hb dX1_divided_25 (by decide) ?_
  refine n_isub hx hb (by omega) dX1_divided_26 ?_
  refine lv_istore (lv' := [(8, .int (nI (w - 1))), (7, .ref q7), (6, .ref q6), (5, .ref q5), (4, .int (nI w)), (0, .ref hk), (1, .ref aa), (2, .ref ab), (3, .int (nI wr))]) hx hb dX1_divided_27 hl (by decide) rfl (fun ls hl => ?_)
  rw [show nI (w - 1) = dvi w from (dec1 (by omega)).symm] at hl
  have hl : lv_has ls 11 [(8, .int (dvi w)), (7, .ref q7), (6, .ref q6), (5, .ref q5), (4, .int (nI w)), (0, .ref hk), (1, .ref aa), (2, .ref ab), (3, .int (nI wr))] := hl
  refine loop w 0 y q5 q6 q7 iv (fun _ => 0) (fun _ => 0) _ _ _ _ ls (by omega) (by rw [hdw0, ← Nat.one_mul w]; exact hy) (fun j hj => ⟨hib j hj, by have := hy.1.1; omega, by have := hy.1.1; omega⟩) (fun τ hτ => ⟨his τ hτ, ?_, ?_⟩) (by omega) (by omega) hW (lv_sub hl [5, 6, 8, 4, 3, 2, 1, 0] rfl)
  · rw [rn_zero hy.1 hτ, dR_top (rn_lt _ _ _ _)]
  · rw [Nat.sub_self, dQ, Nat.sub_self]
    by_cases q : rn x τ rb w = 0
    · rw [if_pos q]; rfl
    · rw [if_neg q, Nat.div_eq_of_lt (rn_lt _ _ _ _), Nat.zero_div]; rfl
