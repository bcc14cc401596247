set_option maxHeartbeats 4000000 in
set_option maxRecDepth 100000 in
/-- VectorBench.keep -/
theorem k_keep (l : Launch) (Z : Zt) (hb0 hk hc hm : Nat) (mo : Int32) (n wg g v : Nat) (o : Option (Nat × Nat × (Nat → Option Nat))) (vd : Nat → Nat) (ho : lok n o vd) (hn5 : n < 512) (hg : g + wg ≤ 100000) : MC l yX3_keep cX3_keep 3 (some .int) 9 360 (1) (768) Z (bl Z hb0 hk hc hm wg mo n o) (fun H => (∃ fs, RO Z (bl Z hb0 hk hc hm wg mo n o) (eo v 2 fs) H) ∧ ∀ i, i < n → ∃ fs, RO Z (bl Z hb0 hk hc hm wg mo n o) (eo (vd i) 2 fs) H) [.ref hb0, .ref v, .int (nI g)] (fun r w1 => ∃ o2, r = some (.int (nI n)) ∧ w1 = bl Z hb0 hk hc hm (wg + g) (mo + nI 1) (n + 1) o2 ∧ addQ n v vd o2) := by
  refine mc_of (by decide) (Nat.le_of_ble_eq_true rfl) (fun p e s m below meth c ls A hx hb hr hts hown hlk hml hin hK hG hW hA hAe hro hl R hRf hRc hRs hRl => ?_)
  have hl : lv_has ls 3 [(0, .ref hb0), (1, .ref v), (2, .int (nI g))] := hl
  refine lv_aload_n hx hb dX3_keep_0 rfl (lv_at hl 0 rfl) ?_
  refine r_get hx hb hts hown hK (hW.at 0 rfl) rfl in_X3 2 (by decide) tb_99 (fun _ h => h) rfl dX3_keep_1 ?_
  refine lv_aload_n hx hb dX3_keep_4 rfl (lv_at hl 1 rfl) ?_
  have hW : Wd Z A s.heap (lst Z hm mo n o ++ [bo hb0 hk hc hm wg]) _ _ := Wd.swap2 (w1 := [bo hb0 hk hc hm wg]) (wc := lst Z hm mo n o) hW
  have mv : ∀ q : Nat × va_E, RO Z (bl Z hb0 hk hc hm wg mo n o) q s.heap → RO Z (lst Z hm mo n o) q _ := fun q h => RO.pass h hAe hW
  refine c_virt (As := [.ref v]) (rest := []) (wc := lst Z hm mo n o) (wr := [eo hb0 3 [.ref hk, .ref hc, .ref hm, .int (nI wg)]]) (nl := 0) hx hb hml hown hts hK hG rfl hA hl (k_add l Z hm mo n v o vd ho hn5) hW ⟨hro.1.elim fun fs h => ⟨fs, mv _ h⟩, fun i hi => (hro.2 i hi).elim fun fs h => ⟨fs, mv _ h⟩⟩ (hW.at 0 rfl) rfl rfl tb_265 tb_266 tb_267 tb_6 tb_268 (nA := 1) (by decide +kernel) rfl ⟨by omega, by omega⟩ ⟨by omega, by omega⟩ rfl (Nat.le_of_ble_eq_true rfl) dX3_keep_5 (fun v w1 H1 L1 hp hW hzz hkk hdd => ?_)
  obtain ⟨o2, rfl, rfl, ha⟩ := hp
  clear hzz hkk hdd
  generalize H1 = H at hW  ⊢
  generalize L1 = locs at hW ⊢
  have hW : Wd Z A s.heap (lst Z hm (mo + nI 1) (n + 1) o2 ++ [eo hb0 3 [.ref hk, .ref hc, .ref hm, .int (nI wg)]]) _ _ := hW
  refine W.eq (g2 := F0 m 8 ls [.int (nI 1)]) rfl ?_
  have hW : Wd Z A s.heap (bl Z hb0 hk hc hm wg (mo + nI 1) (n + 1) o2) _ _ := Wd.swap2 (w1 := lst Z hm (mo + nI 1) (n + 1) o2) (wc := [bo hb0 hk hc hm wg]) hW
  refine lv_pop hx hb dX3_keep_8 rfl ?_
  refine lv_aload_n hx hb dX3_keep_9 rfl (lv_at hl 0 rfl) ?_
  refine lv_dup hx hb dX3_keep_10 rfl ?_
  refine r_get hx hb hts hown hK (hW.at 0 rfl) rfl in_X3 3 (by decide) tb_100 (fun _ h => h) rfl dX3_keep_11 ?_
  refine lv_iload_n hx hb dX3_keep_14 rfl (lv_at hl 2 rfl) ?_
  refine n_iadd hx hb dX3_keep_15 ?_
  refine r_put hx hb hts hown hK hW 0 (v := .int (nI (wg + g))) rfl rfl in_X3 tyX3 tyX3_ok nmX3 3 (by decide) tb_100 (fun _ h => h) rfl rfl rfl (Nat.le_of_ble_eq_true rfl) dX3_keep_16 (fun H locs hW => ?_)
  have hW : Wd Z A s.heap ([eo hb0 3 [.ref hk, .ref hc, .ref hm, .int (nI (wg + g))]] ++ lst Z hm (mo + nI 1) (n + 1) o2) _ _ := hW
  refine lv_aload_n hx hb dX3_keep_19 rfl (lv_at hl 0 rfl) ?_
  refine r_get hx hb hts hown hK (hW.at 0 rfl) rfl in_X3 2 (by decide) tb_99 (fun _ h => h) rfl dX3_keep_20 ?_
  refine c_virt (As := []) (rest := []) (wc := []) (wr := [eo hb0 3 [.ref hk, .ref hc, .ref hm, .int (nI (wg + g))]] ++ lst Z hm (mo + nI 1) (n + 1) o2) (nl := 0) hx hb hml hown hts hK hG rfl hA hl (k_size l Z hm (mo + nI 1) (lsq Z o2) (n + 1)) hW (hW.at 1 rfl) (hW.at 1 rfl) rfl rfl tb_118 tb_119 tb_120 tb_6 tb_121 (nA := 0) (by decide +kernel) rfl ⟨by omega, by omega⟩ ⟨by omega, by omega⟩ rfl (Nat.le_of_ble_eq_true rfl) dX3_keep_23 (fun v w1 H1 L1 hp hW hzz hkk hdd => ?_)
  obtain ⟨rfl, rfl⟩ := hp
  clear hzz hkk hdd
  generalize H1 = H at hW  ⊢
  generalize L1 = locs at hW ⊢
  have hW : Wd Z A s.heap ([eo hb0 3 [.ref hk, .ref hc, .ref hm, .int (nI (wg + g))]] ++ lst Z hm (mo + nI 1) (n + 1) o2) _ _ := hW
  refine W.eq (g2 := F0 m 26 ls [.int (nI (n + 1))]) rfl ?_
  refine lv_iconst (v := nI 1) hx hb dX3_keep_26 (by decide) ?_
  refine n_isub hx hb (by omega) dX3_keep_27 ?_
  have hW : Wd Z A s.heap (bl Z hb0 hk hc hm (wg + g) (mo + nI 1) (n + 1) o2) _ _ := hW
  exact e_int hx hb hr hlk hAe hW (by omega) (by omega) dX3_keep_28 ⟨o2, by rw [Nat.add_sub_cancel], rfl, ha⟩
set_option maxHeartbeats 4000000 in
set_option maxRecDepth 100000 in
theorem k_weight (l : Launch) (Z : Zt) (hb0 hk hc hm : Nat) (x : CS) (σ : Nat → Bool) (mo : Int32) (n wg : Nat) (o : Option (Nat × Nat × (Nat → Option Nat))) (vd vb stb wd : Nat → Nat) (rw : Nat → Nat → Nat)  : MC l yX3_weight cX3_weight 1 (some .int) 0 0 (0) (0) Z (cw Z hc x ++ bl Z hb0 hk hc hm wg mo n o) (fun _ => True) [.ref hb0] (fun r w1 => r = some (.int (nI wg)) ∧ w1 = cw Z hc x ++ bl Z hb0 hk hc hm wg mo n o) := by
  refine mc_of (by decide) (Nat.le_of_ble_eq_true rfl) (fun p e s m below meth c ls A hx hb hr hts hown hlk hml hin hK hG hW hA hAe hro hl R hRf hRc hRs hRl => ?_)
  have hl : lv_has ls 1 [(0, .ref hb0)] := hl
  refine lv_aload_n hx hb dX3_weight_0 rfl (lv_at hl 0 rfl) ?_
  refine r_get hx hb hts hown hK (hW.at 5 rfl) rfl in_X3 3 (by decide) tb_100 (fun _ h => h) rfl dX3_weight_1 ?_
  exact e_int hx hb hr hlk hAe hW (by omega) (by omega) dX3_weight_4 ⟨rfl, rfl⟩
set_option maxHeartbeats 4000000 in
set_option maxRecDepth 100000 in
theorem k_vectors (l : Launch) (Z : Zt) (hb0 hk hc hm : Nat) (x : CS) (σ : Nat → Bool) (mo : Int32) (n wg : Nat) (o : Option (Nat × Nat × (Nat → Option Nat))) (vd vb stb wd : Nat → Nat) (rw : Nat → Nat → Nat)  : MC l yX3_vectors cX3_vectors 1 (some .int) 2 60 (0) (0) Z (cw Z hc x ++ bl Z hb0 hk hc hm wg mo n o) (fun _ => True) [.ref hb0] (fun r w1 => r = some (.int (nI n)) ∧ w1 = cw Z hc x ++ bl Z hb0 hk hc hm wg mo n o) := by
  refine mc_of (by decide) (Nat.le_of_ble_eq_true rfl) (fun p e s m below meth c ls A hx hb hr hts hown hlk hml hin hK hG hW hA hAe hro hl R hRf hRc hRs hRl => ?_)
  have hl : lv_has ls 1 [(0, .ref hb0)] := hl
  refine lv_aload_n hx hb dX3_vectors_0 rfl (lv_at hl 0 rfl) ?_
  refine r_get hx hb hts hown hK (hW.at 5 rfl) rfl in_X3 2 (by decide) tb_99 (fun _ h => h) rfl dX3_vectors_1 ?_
  refine c_virt (As := []) (rest := []) (wc := []) (wr := cw Z hc x ++ bl Z hb0 hk hc hm wg mo n o) (nl := 0) hx hb hml hown hts hK hG rfl hA hl (k_size l Z hm mo (lsq Z o) n) hW (hW.at 6 rfl) (hW.at 6 rfl) rfl rfl tb_118 tb_119 tb_120 tb_6 tb_121 (nA := 0) (by decide +kernel) rfl ⟨by omega, by omega⟩ ⟨by omega, by omega⟩ rfl (Nat.le_of_ble_eq_true rfl) dX3_vectors_4 (fun v w1 H1 L1 hp hW hzz hkk hdd => ?_)
  obtain ⟨rfl, rfl⟩ := hp
  clear hzz hkk hdd
  generalize H1 = H at hW  ⊢
  generalize L1 = locs at hW ⊢
  have hW : Wd Z A s.heap (cw Z hc x ++ bl Z hb0 hk hc hm wg mo n o) _ _ := hW
  refine W.eq (g2 := F0 m 7 ls [.int (nI n)]) rfl ?_
  exact e_int hx hb hr hlk hAe hW (by omega) (by omega) dX3_vectors_7 ⟨rfl, rfl⟩
theorem lbit (v : Int64) (i : Nat) (hi : i < 64) : ((v.toUInt64 >>> ((nI i).toInt64.toUInt64 &&& Int64.toUInt64 63)).toInt64 &&& 1).toInt32 = nI (v.toUInt64.toNat.testBit i).toNat := by
  have h1 : ((nI i).toInt64.toUInt64 &&& Int64.toUInt64 63) = UInt64.ofNat i := by
    revert i; decide
  rw [h1]
  have h2 : (v.toUInt64 >>> UInt64.ofNat i).toNat = v.toUInt64.toNat / 2 ^ i := by
    rw [UInt64.toNat_shiftRight, UInt64.toNat_ofNat', Nat.mod_eq_of_lt (show i % 2 ^ 64 < 64 by omega), Nat.mod_eq_of_lt (show i < 2 ^ 64 by omega), Nat.shiftRight_eq_div_pow]
  have h3 : ((v.toUInt64 >>> UInt64.ofNat i).toInt64 &&& 1) = Int64.ofNat (v.toUInt64.toNat.testBit i).toNat := by
    apply Int64.toBitVec_inj.mp
    apply BitVec.eq_of_toNat_eq
    show ((v.toUInt64 >>> UInt64.ofNat i) &&& 1).toNat = (Int64.ofNat (v.toUInt64.toNat.testBit i).toNat).toUInt64.toNat
    rw [UInt64.toNat_and, h2, Nat.toNat_testBit]
    have e : (Int64.ofNat (v.toUInt64.toNat / 2 ^ i % 2)).toUInt64.toNat = v.toUInt64.toNat / 2 ^ i % 2 := by
      rcases (show v.toUInt64.toNat / 2 ^ i % 2 = 0 ∨ v.toUInt64.toNat / 2 ^ i % 2 = 1 by omega) with h | h <;> rw [h] <;> decide
    rw [e]
    exact Nat.and_one_is_mod _
  rw [h3]
  cases v.toUInt64.toNat.testBit i <;> decide
set_option maxHeartbeats 4000000 in
set_option maxRecDepth 100000 in
theorem k_bitOf (l : Launch) (Z : Zt) (v : Int64) (i : Nat) (hi : i < 64) : MC l yX3_bitOf cX3_bitOf 3 (some .int) 0 0 (0) (0) Z ([]) (fun _ => True) [.long v, .int (nI i)] (fun r w1 => r = some (.int (nI (v.toUInt64.toNat.testBit i).toNat)) ∧ w1 = []) := by
  refine mc_of (by decide) (Nat.le_of_ble_eq_true rfl) (fun p e s m below meth c ls A hx hb hr hts hown hlk hml hin hK hG hW hA hAe hro hl R hRf hRc hRs hRl => ?_)
  have hl : lv_has ls 3 [(0, .long v), (2, .int (nI i))] := hl
  refine lv_lload_n hx hb dX3_bitOf_0 rfl (lv_at hl 0 rfl) ?_
  refine lv_iload_n hx hb dX3_bitOf_1 rfl (lv_at hl 1 rfl) ?_
  refine lv_lushr (v := (v.toUInt64 >>> ((nI i).toInt64.toUInt64 &&& Int64.toUInt64 63)).toInt64) hx hb dX3_bitOf_2 rfl ?_
  refine lv_lconst (v := 1) hx hb dX3_bitOf_3 (by decide) ?_
  refine lv_land hx hb dX3_bitOf_4 ?_
  refine lv_l2i (v := nI (v.toUInt64.toNat.testBit i).toNat) hx hb dX3_bitOf_5 (lbit v i hi) ?_
  exact e_int hx hb hr hlk hAe hW (by omega) (by omega) dX3_bitOf_6 ⟨rfl, rfl⟩
set_option maxHeartbeats 4000000 in
set_option maxRecDepth 100000 in
theorem k_width (l : Launch) (hst : l.stackTraces = false) (Z : Zt) (hb0 hk hc hm : Nat) (x : CS) (σ : Nat → Bool) (mo : Int32) (n wg : Nat) (o : Option (Nat × Nat × (Nat → Option Nat))) (vd vb stb wd : Nat → Nat) (rw : Nat → Nat → Nat) (xv : Int32) (hbok : bok x σ n wg o vd stb wd rw) : MX l yX3_width cX3_width 2 (some .int) 7 160 (1) (6) Z (cw Z hc x ++ bl Z hb0 hk hc hm wg mo n o) (fun H => BRO Z (cw Z hc x ++ bl Z hb0 hk hc hm wg mo n o) hk hc n vd vb stb wd rw H) [.ref hb0, .int xv] (fun r w1 => w1 = cw Z hc x ++ bl Z hb0 hk hc hm wg mo n o ∧ ∃ i, i < n ∧ xv = nI i ∧ r = some (.int (nI (wd i)))) (fun E => E = IAE ∧ ¬ vix xv n) := by
  refine mx_of (by decide) (Nat.le_of_ble_eq_true rfl) (fun p e s m below meth c ls A hx hb hr hts hown hlk hml hex hK hG hW hA hAe hro hl R hRf hRc hRs hRl => ?_)
  have hl : lv_has ls 2 [(0, .ref hb0), (1, .int xv)] := hl
  have hsm : ∀ q : Nat, q < s.heap.size → s.heap[q]? = s.heap[q]? := fun _ _ => rfl
  refine lv_aload_n hx hb dX3_width_0 rfl (lv_at hl 0 rfl) ?_
  refine lv_iload_n hx hb dX3_width_1 rfl (lv_at hl 1 rfl) ?_
  have hsz0 := hW.2.2.1
  refine x_virt (As := [.int xv]) (rest := []) (wc := []) (wr := cw Z hc x ++ bl Z hb0 hk hc hm wg mo n o) hx hb hml hown hts hK hG rfl hA hl (k_bitsOf l hst Z hb0 hk hc hm mo n wg o vd vb stb xv hbok.2.1) hW ⟨hW.at 5 rfl, suf_P (wc := cw Z hc x ++ [bo hb0 hk hc hm wg]) hW.1, fun i hi => (hro.here hAe hW hi).1⟩ (hW.at 5 rfl) rfl rfl tb_337 tb_339 ts_6 tb_1 tb_340 (nA := 1) (by decide +kernel) rfl ⟨by omega, by omega⟩ ⟨by omega, by omega⟩ rfl (Nat.le_of_ble_eq_true rfl) dX3_width_2 (fun E q9 ce H9 L9 hpx hWx hzx hkx hce hcv hcl => x_pass hex hlk (hpx) (Nat.le_trans hsz0 hzx) (fun q hq => (hkx q (Nat.lt_of_lt_of_le hq hsz0)).trans (hsm q hq)) hce hcv hcl hWx.2.2.2.2 (by omega) (by omega)) (fun v w1 H1 L1 hp hW hzz hkk hdd => ?_)
  obtain ⟨rfl, i, hi, exv, rfl⟩ := hp
  have hsm := sm_step hsz0 hkk hsm
  clear hzz hkk hdd
  generalize H1 = H at hW hsm ⊢
  generalize L1 = locs at hW ⊢
  have hW : Wd Z A s.heap (cw Z hc x ++ bl Z hb0 hk hc hm wg mo n o) _ _ := hW
  refine W.eq (g2 := F0 m 5 ls [.ref (vb i)]) rfl ?_
  refine r_len hx hb hK (hro.here hAe hW hi).2 dX3_width_5 ?_
  exact vx_ret (e_int hx hb hr hlk hAe hW (by omega) (by omega) dX3_width_6 ⟨rfl, i, hi, exv, rfl⟩)
