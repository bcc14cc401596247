theorem lN_or (a b : Nat) : lN a ||| lN b = lN (a ||| b) := by
  apply Int64.toBitVec_inj.mp
  apply BitVec.eq_of_toNat_eq
  show (a % 2 ^ 64) ||| (b % 2 ^ 64) = (a ||| b) % 2 ^ 64
  rw [Nat.or_mod_two_pow]
theorem one_shl : ∀ i, i < 64 → (nI 1).toInt64 <<< ((nI i).toInt64 &&& 63) = lN (2 ^ i) := by decide +kernel
theorem zero_shl : ∀ i, i < 64 → (nI 0).toInt64 <<< ((nI i).toInt64 &&& 63) = lN 0 := by decide +kernel
theorem lor_step {A i : Nat} {b : Bool} (hA : A < 2 ^ i) (hi : i < 64) : lN A ||| ((nI b.toNat).toInt64 <<< ((nI i).toInt64 &&& 63)) = lN (A + b.toNat * 2 ^ i) := by
  cases b
  · rw [Bool.toNat_false, zero_shl i hi, lN_or, Nat.or_zero, Nat.zero_mul, Nat.add_zero]
  · rw [Bool.toNat_true, one_shl i hi, lN_or, Nat.or_two_pow_eq_add_of_lt hA, Nat.one_mul]
set_option maxHeartbeats 4000000 in
set_option maxRecDepth 100000 in
/-- VectorBench.input -/
theorem k_input (l : Launch) (hst : l.stackTraces = false) (Z : Zt) (hb0 hk hc hm : Nat) (x : CS) (σ : Nat → Bool) (mo : Int32) (n wg : Nat) (o : Option (Nat × Nat × (Nat → Option Nat))) (vd vb stb wd : Nat → Nat) (rw : Nat → Nat → Nat) (xw : Int32) (hbok : bok x σ n wg o vd stb wd rw) : MX l yX3_input cX3_input 4 (some .int) 11 600 (10 + 4 * (capU (xu x) (xn x + xw.toNatClampNeg) - xu x)) (xw.toNatClampNeg + 1000 + 512 * (capU (xu x) (xn x + xw.toNatClampNeg) - xu x)) Z (cw Z hc x ++ bl Z hb0 hk hc hm wg mo n o) (fun H => BRO Z (cw Z hc x ++ bl Z hb0 hk hc hm wg mo n o) hk hc n vd vb stb wd rw H) [.ref hb0, .int xw] (fun r w1 => ∃ w, (1 ≤ w ∧ w ≤ 64 ∧ xw = nI w) ∧ w + wg ≤ 100000 ∧ newQ Z hb0 hk hc hm x σ mo n wg vd (w) (w) (w) 1 (fun y f => ∀ j, j < w → f j = xn x + j ∧ xK y (f j) = 0) r w1) (fun E => (E = IAE ∧ ¬ wid xw) ∨ (E = ISE ∧ ∃ w, (1 ≤ w ∧ w ≤ 64 ∧ xw = nI w) ∧ ¬ w + wg ≤ 100000)) := by
  refine mx_of (by decide) (Nat.le_of_ble_eq_true rfl) (fun p e s m below meth c ls A hx hb hr hts hown hlk hml hex hK hG hW hA hAe hro hl R hRf hRc hRs hRl => ?_)
  have hl : lv_has ls 4 [(0, .ref hb0), (1, .int xw)] := hl
  have hsm : ∀ q : Nat, q < s.heap.size → s.heap[q]? = s.heap[q]? := fun _ _ => rfl
  refine lv_iload_n hx hb dX3_input_0 rfl (lv_at hl 1 rfl) ?_
  have hsz0 := hW.2.2.1
  refine x_stat (As := [.int xw]) (rest := []) (wc := []) (wr := cw Z hc x ++ bl Z hb0 hk hc hm wg mo n o) hx hb hml hown hts hK hG rfl hA hl (k_needWidth l hst Z xw) hW trivial tb_131 tb_132 tb_1 tb_133 (nA := 1) (by decide +kernel) rfl ⟨by omega, by omega⟩ ⟨by omega, by omega⟩ rfl (Nat.le_of_ble_eq_true rfl) dX3_input_1 (fun E q9 ce H9 L9 hpx hWx hzx hkx hce hcv hcl => x_pass hex hlk (Or.inl hpx) (Nat.le_trans hsz0 hzx) (fun q hq => (hkx q (Nat.lt_of_lt_of_le hq hsz0)).trans (hsm q hq)) hce hcv hcl hWx.2.2.2.2 (by omega) (by omega)) (fun v w1 H1 L1 hp hW hzz hkk hdd => ?_)
  obtain ⟨rfl, rfl, hwid⟩ := hp
  have hsm := sm_step hsz0 hkk hsm
  clear hzz hkk hdd
  generalize H1 = H at hW hsm ⊢
  generalize L1 = locs at hW ⊢
  have hW : Wd Z A s.heap (cw Z hc x ++ bl Z hb0 hk hc hm wg mo n o) _ _ := hW
  refine W.eq (g2 := F0 m 4 ls []) rfl ?_
  obtain ⟨w, hw1, hw64, rfl⟩ := hwid
  have ecl : (nI w).toNatClampNeg = w := nI_clamp (by omega)
  rw [ecl] at hRc hRs
  rw [ecl]
  have hn5 := hbok.2.2.2.2.1
  have inj : ∀ a b : Nat, a < n → b < n → nI a = nI b → a = b := fun a b ha hb h => (nI_eq (by omega) (by omega)).mp h
  have hxn := hbok.2.2.2.1
  have hwb := hbok.2.2.1
  have hx1 := stp.rf hbok.1
  refine lv_aload_n hx hb dX3_input_4 rfl (lv_at hl 0 rfl) ?_
  refine lv_iload_n hx hb dX3_input_5 rfl (lv_at hl 1 rfl) ?_
  have hsz0 := hW.2.2.1
  refine x_virt (As := [.int (nI w)]) (rest := []) (wc := []) (wr := cw Z hc x ++ bl Z hb0 hk hc hm wg mo n o) hx hb hml hown hts hK hG rfl hA hl (k_needRoom l hst Z hb0 hk hc hm mo (lsq Z o) n wg (w) hbok.2.2.1 (by omega) (by have := hbok.2.2.2.2.1; omega)) hW ⟨hW.at 5 rfl, hW.at 6 rfl⟩ (hW.at 5 rfl) rfl rfl tb_201 tb_203 ts_1 tb_1 tb_204 (nA := 1) (by decide +kernel) rfl ⟨by omega, by omega⟩ ⟨by omega, by omega⟩ rfl (Nat.le_of_ble_eq_true rfl) dX3_input_6 (fun E q9 ce H9 L9 hpx hWx hzx hkx hce hcv hcl => x_pass hex hlk (Or.inr ⟨hpx.1, w, ⟨hw1, hw64, rfl⟩, hpx.2⟩) (Nat.le_trans hsz0 hzx) (fun q hq => (hkx q (Nat.lt_of_lt_of_le hq hsz0)).trans (hsm q hq)) hce hcv hcl hWx.2.2.2.2 (by omega) (by omega)) (fun v w1 H1 L1 hp hW hzz hkk hdd => ?_)
  obtain ⟨rfl, rfl, hroom⟩ := hp
  have hsm := sm_step hsz0 hkk hsm
  clear hzz hkk hdd
  generalize H1 = H at hW hsm ⊢
  generalize L1 = locs at hW ⊢
  have hW : Wd Z A s.heap (cw Z hc x ++ bl Z hb0 hk hc hm wg mo n o) _ _ := hW
  refine W.eq (g2 := F0 m 9 ls []) rfl ?_
  refine lv_iload_n hx hb dX3_input_9 rfl (lv_at hl 1 rfl) ?_
  refine r_newa (n := w) hx hb hts tb_65 hK hW hA (by omega) (by omega) (by omega) dX3_input_10 (fun q H hW hsz_q hq_q => ?_)
  have hW : Wd Z A s.heap (cw Z hc x ++ (bl Z hb0 hk hc hm wg mo n o ++ [ea Z q w (fun _ => 0)])) _ _ := hW
  have hW : Wd Z A s.heap (cw Z hc x ++ ([ea Z q w (fun _ => 0)] ++ bl Z hb0 hk hc hm wg mo n o)) _ _ := Wd.swapR (w1 := cw Z hc x) (wl := bl Z hb0 hk hc hm wg mo n o) (we := [ea Z q w (fun _ => 0)]) hW
  refine lv_astore_n (lv' := [(2, .ref q), (0, .ref hb0), (1, .int (nI w))]) hx hb dX3_input_12 rfl hl (by decide) rfl (fun ls hl => ?_)
  refine lv_iconst (v := nI 0) hx hb dX3_input_13 (by decide) ?_
  refine lv_istore_n (lv' := [(3, .int (nI 0)), (2, .ref q), (0, .ref hb0), (1, .int (nI w))]) hx hb dX3_input_14 rfl hl (by decide) rfl (fun ls hl => ?_)
  have loop : ∀ (d i : Nat) (y : CS) (q : Nat) (row : Nat → Nat) (H : Heap) (locs : List Loc) (cl sl : Nat) (ls : Array Slot), i + d = w → stp x σ i y → (∀ j, j < i → row j = xn x + j ∧ xK y (row j) = 0) → cl = 3 + 4 * (xu y - xu x) → sl = 12 + w + 512 * (xu y - xu x) → Wd Z A s.heap (cw Z hc y ++ ([ea Z q w row] ++ bl Z hb0 hk hc hm wg mo n o)) H locs → lv_has ls 4 [(0, .ref hb0), (1, .int (nI w)), (2, .ref q), (3, .int (nI i))] → W p l e R s m ([.ref hb0, .int (nI w)] : List Value).toArray below meth c H locs cl sl (vx_MQ below (QC Z (cw Z hc x ++ bl Z hb0 hk hc hm wg mo n o) s.heap.size (fun r w1 => ∃ w2, (1 ≤ w2 ∧ w2 ≤ 64 ∧ nI w = nI w2) ∧ w2 + wg ≤ 100000 ∧ newQ Z hb0 hk hc hm x σ mo n wg vd w2 w2 w2 1 (fun y f => ∀ j, j < w2 → f j = xn x + j ∧ xK y (f j) = 0) r w1)) (XCd (fun E => (E = IAE ∧ ¬ wid (nI w)) ∨ (E = ISE ∧ ∃ w2, (1 ≤ w2 ∧ w2 ≤ 64 ∧ nI w = nI w2) ∧ ¬ w2 + wg ≤ 100000))) ([.ref hb0, .int (nI w)] : List Value).toArray s (10 + 4 * (capU (xu x) (xn x + w) - xu x)) (w + 1000 + 512 * (capU (xu x) (xn x + w) - xu x)) A) (F0 m 15 ls []) := by
    intro d
    induction d with
    | zero =>
      intro i y q row H locs cl sl ls hid hy hrow hcl hsl hW hl
      have hi : i = w := by omega
      rw [hi] at hy hrow
      have huy := hy.2.2.2
      have hny := hy.2.2.1
      have hux := capU_le (xu x) (xn x + w)
      refine lv_iload_n hx hb dX3_input_15 rfl (lv_at hl 3 rfl) ?_
      refine lv_iload_n hx hb dX3_input_16 rfl (lv_at hl 1 rfl) ?_
      refine n_ge_t (tgt := 36) hx hb (by omega) (by omega) dX3_input_17 (by decide) ?_
      refine lv_aload_n hx hb dX3_input_36 rfl (lv_at hl 0 rfl) ?_
      refine r_new (fs := [.null, .int 0]) hx hb hts hown hK hW hA (ci := 2) rfl in_X2 tyX2 tyX2_ok tb_246 tb_247 tb_16 (fun j hj => by rcases (show j = 0 ∨ j = 1 by omega) with rfl | rfl <;> rfl) (by omega) (by omega) dX3_input_37 (fun nv H hW => ?_)
      have hW : Wd Z A s.heap (cw Z hc y ++ ([ea Z q w row] ++ (bl Z hb0 hk hc hm wg mo n o ++ [eo nv 2 [.null, .int 0]]))) _ _ := hW
      have hW : Wd Z A s.heap (cw Z hc y ++ ([ea Z q w row, eo nv 2 [.null, .int 0]] ++ bl Z hb0 hk hc hm wg mo n o)) _ _ := Wd.swapR (w1 := cw Z hc y ++ [ea Z q w row]) (wl := bl Z hb0 hk hc hm wg mo n o) (we := [eo nv 2 [.null, .int 0]]) hW
      refine lv_dup hx hb dX3_input_40 rfl ?_
      refine lv_aload_n hx hb dX3_input_41 rfl (lv_at hl 2 rfl) ?_
      refine lv_iconst (v := nI 1) hx hb dX3_input_42 (by decide) ?_
      have hW : Wd Z A s.heap ([eo nv 2 [.null, .int 0]] ++ (cw Z hc y ++ [ea Z q w row] ++ (bl Z hb0 hk hc hm wg mo n o))) _ _ := Wd.rot (w1 := cw Z hc y ++ [ea Z q w row]) (wc := [eo nv 2 [.null, .int 0]]) (wr := bl Z hb0 hk hc hm wg mo n o) hW
      refine c_spec (b := nv) (As := [.ref q, .int (nI 1)]) (rest := [.ref nv, .ref hb0]) (wc := [eo nv 2 [.null, .int 0]]) (wr := cw Z hc y ++ ([ea Z q w row] ++ bl Z hb0 hk hc hm wg mo n o)) hx hb hml hown hts hK hG rfl hA hl (k_Vector l Z nv q 1 (by decide)) hW trivial tb_248 tb_249 tb_16 tb_250 rfl (nA := 2) (by decide +kernel) rfl ⟨by omega, by omega⟩ ⟨by omega, by omega⟩ rfl (Nat.le_of_ble_eq_true rfl) dX3_input_43 (fun v w1 H1 L1 hp hW hzz hkk hdd => ?_)
      obtain ⟨rfl, rfl⟩ := hp
      clear hzz hkk hdd
      generalize H1 = H at hW  ⊢
      generalize L1 = locs at hW ⊢
      have hW : Wd Z A s.heap ([eo nv 2 [.ref q, .int (nI 1)]] ++ (cw Z hc y ++ ([ea Z q w row] ++ bl Z hb0 hk hc hm wg mo n o))) _ _ := hW
      refine W.eq (g2 := F0 m 46 ls [.ref nv, .ref hb0]) rfl ?_
      have hW : Wd Z A s.heap (cw Z hc y ++ [ea Z q w row] ++ ([eo nv 2 [.ref q, .int (nI 1)]] ++ (bl Z hb0 hk hc hm wg mo n o))) _ _ := Wd.rot (w1 := [eo nv 2 [.ref q, .int (nI 1)]]) (wc := cw Z hc y ++ [ea Z q w row]) (wr := bl Z hb0 hk hc hm wg mo n o) hW
      have hW : Wd Z A s.heap (cw Z hc y ++ ([ea Z q w row, eo nv 2 [.ref q, .int (nI 1)]] ++ bl Z hb0 hk hc hm wg mo n o)) _ _ := hW
      refine lv_iload_n hx hb dX3_input_46 rfl (lv_at hl 1 rfl) ?_
      have hW : Wd Z A s.heap (bl Z hb0 hk hc hm wg mo n o ++ (cw Z hc y ++ [ea Z q w row, eo nv 2 [.ref q, .int (nI 1)]])) _ _ := Wd.swap2 (w1 := cw Z hc y ++ [ea Z q w row, eo nv 2 [.ref q, .int (nI 1)]]) (wc := bl Z hb0 hk hc hm wg mo n o) hW
      refine c_virt (As := [.ref nv, .int (nI w)]) (rest := []) (wc := bl Z hb0 hk hc hm wg mo n o) (wr := cw Z hc y ++ [ea Z q w row, eo nv 2 [.ref q, .int (nI 1)]]) (nl := 0) hx hb hml hown hts hK hG rfl hA hl (k_keep l Z hb0 hk hc hm mo n wg (w) nv o vd hbok.2.1 hbok.2.2.2.2.1 hroom) hW ⟨⟨_, RO.loc hW 6 rfl⟩, fun i hi => ⟨_, RO.pass (hro.2 i hi).1 hAe hW⟩⟩ (hW.at 0 rfl) rfl rfl tb_261 tb_263 ts_2 tb_1 tb_264 (nA := 2) (by decide +kernel) rfl ⟨by omega, by omega⟩ ⟨by omega, by omega⟩ rfl (Nat.le_of_ble_eq_true rfl) dX3_input_47 (fun v w1 H1 L1 hp hW hzz hkk hdd => ?_)
      obtain ⟨o2, rfl, rfl, hadd⟩ := hp
      clear hzz hkk hdd
      generalize H1 = H at hW  ⊢
      generalize L1 = locs at hW ⊢
      have hW : Wd Z A s.heap (bl Z hb0 hk hc hm (wg + w) (mo + nI 1) (n + 1) o2 ++ (cw Z hc y ++ [ea Z q w row, eo nv 2 [.ref q, .int (nI 1)]])) _ _ := hW
      refine W.eq (g2 := F0 m 50 ls [.int (nI n)]) rfl ?_
      have hW : Wd Z A s.heap (cw Z hc y ++ [ea Z q w row, eo nv 2 [.ref q, .int (nI 1)]] ++ bl Z hb0 hk hc hm (wg + w) (mo + nI 1) (n + 1) o2) _ _ := Wd.swap2 (w1 := bl Z hb0 hk hc hm (wg + w) (mo + nI 1) (n + 1) o2) (wc := cw Z hc y ++ [ea Z q w row, eo nv 2 [.ref q, .int (nI 1)]]) hW
      have hW : Wd Z A s.heap (cw Z hc y ++ [eo nv 2 [.ref q, .int (nI 1)], ea Z q w row] ++ bl Z hb0 hk hc hm (wg + w) (mo + nI 1) (n + 1) o2) _ _ := Wd.subL (w1 := cw Z hc y ++ [ea Z q w row, eo nv 2 [.ref q, .int (nI 1)]]) (w2 := cw Z hc y ++ [eo nv 2 [.ref q, .int (nI 1)], ea Z q w row]) (wl := bl Z hb0 hk hc hm (wg + w) (mo + nI 1) (n + 1) o2) hW [0, 1, 2, 3, 4, 6, 5] (by decide) rfl
      refine vx_ret (e_int hx hb hr hlk hAe hW (by omega) (by omega) dX3_input_50 ?_)
      exact ⟨w, ⟨hw1, hw64, rfl⟩, hroom, y, nv, q, row, o2, rfl, rfl, hy, fun j hj => (by rw [(hrow j hj).1]; omega), hadd, hrow⟩
    | succ d ih =>
      intro i y q row H locs cl sl ls hid hy hrow hcl hsl hW hl
      have hny := hy.2.2.1
      have huy := hy.2.2.2
      have hco := hy.cost (j := 1) (K := w) (by omega)
      refine lv_iload_n hx hb dX3_input_15 rfl (lv_at hl 3 rfl) ?_
      refine lv_iload_n hx hb dX3_input_16 rfl (lv_at hl 1 rfl) ?_
      refine n_ge_f (tgt := 36) hx hb (by omega) (by omega) dX3_input_17 (by decide) ?_
      refine lv_aload_n hx hb dX3_input_20 rfl (lv_at hl 2 rfl) ?_
      refine lv_iload_n hx hb dX3_input_21 rfl (lv_at hl 3 rfl) ?_
      refine lv_aload_n hx hb dX3_input_22 rfl (lv_at hl 0 rfl) ?_
      refine r_get hx hb hts hown hK (hW.at 6 rfl) rfl in_X3 1 (by decide) tb_98 (fun _ h => h) rfl dX3_input_23 ?_
      refine c_virt (As := []) (rest := [.int (nI i), .ref q]) (wc := cw Z hc y) (wr := [ea Z q w row] ++ bl Z hb0 hk hc hm wg mo n o) (nl := 0) hx hb hml hown hts hK hG rfl hA hl (k_source l Z hc y σ hy.1 (by omega)) hW trivial (hW.at 0 rfl) rfl rfl tb_222 tb_223 tb_224 tb_3 tb_225 (nA := 0) (by decide +kernel) rfl ⟨by omega, by omega⟩ ⟨by omega, by omega⟩ rfl (Nat.le_of_ble_eq_true rfl) dX3_input_26 (fun v w1 H1 L1 hp hW hzz hkk hdd => ?_)
      obtain ⟨y1, rfl, rfl, g1_⟩ := hp
      clear hzz hkk hdd
      generalize H1 = H at hW  ⊢
      generalize L1 = locs at hW ⊢
      have hW : Wd Z A s.heap (cw Z hc y1 ++ ([ea Z q w row] ++ bl Z hb0 hk hc hm wg mo n o)) _ _ := hW
      refine W.eq (g2 := F0 m 29 ls [.int (nI (xn y)), .int (nI i), .ref q]) rfl ?_
      have hy1 := hy.g g1_
      have hu1 := (stp.of g1_).2.2.2
      refine r_ast (i := i) (x := (xn y)) hx hb hK hW 5 rfl (by omega) (by omega) dX3_input_29 (fun H locs hW => ?_)
      have hW : Wd Z A s.heap (cw Z hc y1 ++ ([ea Z q w (up row i (xn y))] ++ bl Z hb0 hk hc hm wg mo n o)) _ _ := hW
      refine lv_iinc (v := nI (i + 1)) (lv' := [(3, .int (nI (i + 1))), (0, .ref hb0), (1, .int (nI w)), (2, .ref q)]) hx hb dX3_input_30 hl (k := 3) rfl (inc1 _) (by decide) rfl (fun ls hl => ?_)
      refine lv_goto (tgt := 15) hx hb dX3_input_33 (by decide) ?_
      refine ih (i + 1) y1 q (up row i (xn y)) _ _ _ _ ls (by omega) hy1 (fun j hj => ?_) (by omega) (by omega) hW (lv_sub hl [1, 2, 3, 0] rfl)
      by_cases e : j = i
      · subst e; rw [up_s]; exact ⟨hny, g1_.2.2.2.2.2.2⟩
      · rw [up_n _ _ e]
        obtain ⟨a1, a2⟩ := hrow j (by omega)
        exact ⟨a1, by rw [(g1_.2.2.2.2.1.2 (row j) (by rw [a1]; omega)).1]; exact a2⟩
  exact loop w 0 x q (fun _ => 0) _ _ _ _ ls (by omega) hx1 (fun j hj => absurd hj (by omega)) (by omega) (by omega) hW (lv_sub hl [2, 3, 1, 0] rfl)
set_option maxHeartbeats 4000000 in
set_option maxRecDepth 100000 in
/-- VectorBench.constant -/
theorem k_constant (l : Launch) (hst : l.stackTraces = false) (Z : Zt) (hb0 hk hc hm : Nat) (x : CS) (σ : Nat → Bool) (mo : Int32) (n wg : Nat) (o : Option (Nat × Nat × (Nat → Option Nat))) (vd vb stb wd : Nat → Nat) (rw : Nat → Nat → Nat) (xw : Int32) (xv : Int64) (hbok : bok x σ n wg o vd stb wd rw) : MX l yX3_constant cX3_constant 6 (some .int) 11 600 (10) (xw.toNatClampNeg + 1000) Z (cw Z hc x ++ bl Z hb0 hk hc hm wg mo n o) (fun H => BRO Z (cw Z hc x ++ bl Z hb0 hk hc hm wg mo n o) hk hc n vd vb stb wd rw H) [.ref hb0, .int xw, .long xv] (fun r w1 => ∃ w, (1 ≤ w ∧ w ≤ 64 ∧ xw = nI w) ∧ w + wg ≤ 100000 ∧ newQ Z hb0 hk hc hm x σ mo n wg vd (w) (0) (w) 0 (fun y f => y = x ∧ ∀ j, j < w → f j = (xv.toUInt64.toNat.testBit j).toNat) r w1) (fun E => (E = IAE ∧ ¬ wid xw) ∨ (E = ISE ∧ ∃ w, (1 ≤ w ∧ w ≤ 64 ∧ xw = nI w) ∧ ¬ w + wg ≤ 100000)) := by
  refine mx_of (by decide) (Nat.le_of_ble_eq_true rfl) (fun p e s m below meth c ls A hx hb hr hts hown hlk hml hex hK hG hW hA hAe hro hl R hRf hRc hRs hRl => ?_)
  have hl : lv_has ls 6 [(0, .ref hb0), (1, .int xw), (2, .long xv)] := hl
  have hsm : ∀ q : Nat, q < s.heap.size → s.heap[q]? = s.heap[q]? := fun _ _ => rfl
  refine lv_iload_n hx hb dX3_constant_0 rfl (lv_at hl 1 rfl) ?_
  have hsz0 := hW.2.2.1
  refine x_stat (As := [.int xw]) (rest := []) (wc := []) (wr := cw Z hc x ++ bl Z hb0 hk hc hm wg mo n o) hx hb hml hown hts hK hG rfl hA hl (k_needWidth l hst Z xw) hW trivial tb_131 tb_132 tb_1 tb_133 (nA := 1) (by decide +kernel) rfl ⟨by omega, by omega⟩ ⟨by omega, by omega⟩ rfl (Nat.le_of_ble_eq_true rfl) dX3_constant_1 (fun E q9 ce H9 L9 hpx hWx hzx hkx hce hcv hcl => x_pass hex hlk (Or.inl hpx) (Nat.le_trans hsz0 hzx) (fun q hq => (hkx q (Nat.lt_of_lt_of_le hq hsz0)).trans (hsm q hq)) hce hcv hcl hWx.2.2.2.2 (by omega) (by omega)) (fun v w1 H1 L1 hp hW hzz hkk hdd => ?_)
  obtain ⟨rfl, rfl, hwid⟩ := hp
  have hsm := sm_step hsz0 hkk hsm
  clear hzz hkk hdd
  generalize H1 = H at hW hsm ⊢
  generalize L1 = locs at hW ⊢
  have hW : Wd Z A s.heap (cw Z hc x ++ bl Z hb0 hk hc hm wg mo n o) _ _ := hW
  refine W.eq (g2 := F0 m 4 ls []) rfl ?_
  obtain ⟨w, hw1, hw64, rfl⟩ := hwid
  have ecl : (nI w).toNatClampNeg = w := nI_clamp (by omega)
  rw [ecl] at hRs
  rw [ecl]
  have hn5 := hbok.2.2.2.2.1
  have inj : ∀ a b : Nat, a < n → b < n → nI a = nI b → a = b := fun a b ha hb h => (nI_eq (by omega) (by omega)).mp h
  have hxn := hbok.2.2.2.1
  have hwb := hbok.2.2.1
  have hx1 := stp.rf hbok.1
  refine lv_aload_n hx hb dX3_constant_4 rfl (lv_at hl 0 rfl) ?_
  refine lv_iload_n hx hb dX3_constant_5 rfl (lv_at hl 1 rfl) ?_
  have hsz0 := hW.2.2.1
  refine x_virt (As := [.int (nI w)]) (rest := []) (wc := []) (wr := cw Z hc x ++ bl Z hb0 hk hc hm wg mo n o) hx hb hml hown hts hK hG rfl hA hl (k_needRoom l hst Z hb0 hk hc hm mo (lsq Z o) n wg (w) hbok.2.2.1 (by omega) (by have := hbok.2.2.2.2.1; omega)) hW ⟨hW.at 5 rfl, hW.at 6 rfl⟩ (hW.at 5 rfl) rfl rfl tb_201 tb_203 ts_1 tb_1 tb_204 (nA := 1) (by decide +kernel) rfl ⟨by omega, by omega⟩ ⟨by omega, by omega⟩ rfl (Nat.le_of_ble_eq_true rfl) dX3_constant_6 (fun E q9 ce H9 L9 hpx hWx hzx hkx hce hcv hcl => x_pass hex hlk (Or.inr ⟨hpx.1, w, ⟨hw1, hw64, rfl⟩, hpx.2⟩) (Nat.le_trans hsz0 hzx) (fun q hq => (hkx q (Nat.lt_of_lt_of_le hq hsz0)).trans (hsm q hq)) hce hcv hcl hWx.2.2.2.2 (by omega) (by omega)) (fun v w1 H1 L1 hp hW hzz hkk hdd => ?_)
  obtain ⟨rfl, rfl, hroom⟩ := hp
  have hsm := sm_step hsz0 hkk hsm
  clear hzz hkk hdd
  generalize H1 = H at hW hsm ⊢
  generalize L1 = locs at hW ⊢
  have hW : Wd Z A s.heap (cw Z hc x ++ bl Z hb0 hk hc hm wg mo n o) _ _ := hW
  refine W.eq (g2 := F0 m 9 ls []) rfl ?_
  refine lv_iload_n hx hb dX3_constant_9 rfl (lv_at hl 1 rfl) ?_
  refine r_newa (n := w) hx hb hts tb_65 hK hW hA (by omega) (by omega) (by omega) dX3_constant_10 (fun q H hW hsz_q hq_q => ?_)
  have hW : Wd Z A s.heap (cw Z hc x ++ (bl Z hb0 hk hc hm wg mo n o ++ [ea Z q w (fun _ => 0)])) _ _ := hW
  have hW : Wd Z A s.heap (cw Z hc x ++ ([ea Z q w (fun _ => 0)] ++ bl Z hb0 hk hc hm wg mo n o)) _ _ := Wd.swapR (w1 := cw Z hc x) (wl := bl Z hb0 hk hc hm wg mo n o) (we := [ea Z q w (fun _ => 0)]) hW
  refine lv_astore (lv' := [(4, .ref q), (0, .ref hb0), (1, .int (nI w)), (2, .long xv)]) hx hb dX3_constant_12 hl (by decide) rfl (fun ls hl => ?_)
  refine lv_iconst (v := nI 0) hx hb dX3_constant_14 (by decide) ?_
  refine lv_istore (lv' := [(5, .int (nI 0)), (4, .ref q), (0, .ref hb0), (1, .int (nI w)), (2, .long xv)]) hx hb dX3_constant_15 hl (by decide) rfl (fun ls hl => ?_)
  have loop : ∀ (d i : Nat) (q : Nat) (row : Nat → Nat) (H : Heap) (locs : List Loc) (cl sl : Nat) (ls : Array Slot), i + d = w → (∀ j, j < i → row j = (xv.toUInt64.toNat.testBit j).toNat) → cl = 3 → sl = 12 + w → Wd Z A s.heap (cw Z hc x ++ ([ea Z q w row] ++ bl Z hb0 hk hc hm wg mo n o)) H locs → lv_has ls 6 [(0, .ref hb0), (1, .int (nI w)), (2, .long xv), (4, .ref q), (5, .int (nI i))] → W p l e R s m ([.ref hb0, .int (nI w), .long xv] : List Value).toArray below meth c H locs cl sl (vx_MQ below (QC Z (cw Z hc x ++ bl Z hb0 hk hc hm wg mo n o) s.heap.size (fun r w1 => ∃ w2, (1 ≤ w2 ∧ w2 ≤ 64 ∧ nI w = nI w2) ∧ w2 + wg ≤ 100000 ∧ newQ Z hb0 hk hc hm x σ mo n wg vd w2 0 w2 0 (fun y f => y = x ∧ ∀ j, j < w2 → f j = (xv.toUInt64.toNat.testBit j).toNat) r w1)) (XCd (fun E => (E = IAE ∧ ¬ wid (nI w)) ∨ (E = ISE ∧ ∃ w2, (1 ≤ w2 ∧ w2 ≤ 64 ∧ nI w = nI w2) ∧ ¬ w2 + wg ≤ 100000))) ([.ref hb0, .int (nI w), .long xv] : List Value).toArray s (10) (w + 1000) A) (F0 m 17 ls []) := by
    intro d
    induction d with
    | zero =>
      intro i q row H locs cl sl ls hid hrow hcl hsl hW hl
      have hi : i = w := by omega
      rw [hi] at hrow
      refine lv_iload hx hb dX3_constant_17 (lv_at hl 4 rfl) ?_
      refine lv_iload_n hx hb dX3_constant_19 rfl (lv_at hl 1 rfl) ?_
      refine n_ge_t (tgt := 49) hx hb (by omega) (by omega) dX3_constant_20 (by decide) ?_
      refine lv_aload_n hx hb dX3_constant_49 rfl (lv_at hl 0 rfl) ?_
      refine r_new (fs := [.null, .int 0]) hx hb hts hown hK hW hA (ci := 2) rfl in_X2 tyX2 tyX2_ok tb_246 tb_247 tb_16 (fun j hj => by rcases (show j = 0 ∨ j = 1 by omega) with rfl | rfl <;> rfl) (by omega) (by omega) dX3_constant_50 (fun nv H hW => ?_)
      have hW : Wd Z A s.heap (cw Z hc x ++ ([ea Z q w row] ++ (bl Z hb0 hk hc hm wg mo n o ++ [eo nv 2 [.null, .int 0]]))) _ _ := hW
      have hW : Wd Z A s.heap (cw Z hc x ++ ([ea Z q w row, eo nv 2 [.null, .int 0]] ++ bl Z hb0 hk hc hm wg mo n o)) _ _ := Wd.swapR (w1 := cw Z hc x ++ [ea Z q w row]) (wl := bl Z hb0 hk hc hm wg mo n o) (we := [eo nv 2 [.null, .int 0]]) hW
      refine lv_dup hx hb dX3_constant_53 rfl ?_
      refine lv_aload hx hb dX3_constant_54 (lv_at hl 3 rfl) ?_
      refine lv_iconst (v := nI 0) hx hb dX3_constant_56 (by decide) ?_
      have hW : Wd Z A s.heap ([eo nv 2 [.null, .int 0]] ++ (cw Z hc x ++ [ea Z q w row] ++ (bl Z hb0 hk hc hm wg mo n o))) _ _ := Wd.rot (w1 := cw Z hc x ++ [ea Z q w row]) (wc := [eo nv 2 [.null, .int 0]]) (wr := bl Z hb0 hk hc hm wg mo n o) hW
      refine c_spec (b := nv) (As := [.ref q, .int (nI 0)]) (rest := [.ref nv, .ref hb0]) (wc := [eo nv 2 [.null, .int 0]]) (wr := cw Z hc x ++ ([ea Z q w row] ++ bl Z hb0 hk hc hm wg mo n o)) hx hb hml hown hts hK hG rfl hA hl (k_Vector l Z nv q 0 (by decide)) hW trivial tb_248 tb_249 tb_16 tb_250 rfl (nA := 2) (by decide +kernel) rfl ⟨by omega, by omega⟩ ⟨by omega, by omega⟩ rfl (Nat.le_of_ble_eq_true rfl) dX3_constant_57 (fun v w1 H1 L1 hp hW hzz hkk hdd => ?_)
      obtain ⟨rfl, rfl⟩ := hp
      clear hzz hkk hdd
      generalize H1 = H at hW  ⊢
      generalize L1 = locs at hW ⊢
      have hW : Wd Z A s.heap ([eo nv 2 [.ref q, .int (nI 0)]] ++ (cw Z hc x ++ ([ea Z q w row] ++ bl Z hb0 hk hc hm wg mo n o))) _ _ := hW
      refine W.eq (g2 := F0 m 60 ls [.ref nv, .ref hb0]) rfl ?_
      have hW : Wd Z A s.heap (cw Z hc x ++ [ea Z q w row] ++ ([eo nv 2 [.ref q, .int (nI 0)]] ++ (bl Z hb0 hk hc hm wg mo n o))) _ _ := Wd.rot (w1 := [eo nv 2 [.ref q, .int (nI 0)]]) (wc := cw Z hc x ++ [ea Z q w row]) (wr := bl Z hb0 hk hc hm wg mo n o) hW
      have hW : Wd Z A s.heap (cw Z hc x ++ ([ea Z q w row, eo nv 2 [.ref q, .int (nI 0)]] ++ bl Z hb0 hk hc hm wg mo n o)) _ _ := hW
      refine lv_iload_n hx hb dX3_constant_60 rfl (lv_at hl 1 rfl) ?_
      have hW : Wd Z A s.heap (bl Z hb0 hk hc hm wg mo n o ++ (cw Z hc x ++ [ea Z q w row, eo nv 2 [.ref q, .int (nI 0)]])) _ _ := Wd.swap2 (w1 := cw Z hc x ++ [ea Z q w row, eo nv 2 [.ref q, .int (nI 0)]]) (wc := bl Z hb0 hk hc hm wg mo n o) hW
      refine c_virt (As := [.ref nv, .int (nI w)]) (rest := []) (wc := bl Z hb0 hk hc hm wg mo n o) (wr := cw Z hc x ++ [ea Z q w row, eo nv 2 [.ref q, .int (nI 0)]]) (nl := 0) hx hb hml hown hts hK hG rfl hA hl (k_keep l Z hb0 hk hc hm mo n wg (w) nv o vd hbok.2.1 hbok.2.2.2.2.1 hroom) hW ⟨⟨_, RO.loc hW 6 rfl⟩, fun i hi => ⟨_, RO.pass (hro.2 i hi).1 hAe hW⟩⟩ (hW.at 0 rfl) rfl rfl tb_261 tb_263 ts_2 tb_1 tb_264 (nA := 2) (by decide +kernel) rfl ⟨by omega, by omega⟩ ⟨by omega, by omega⟩ rfl (Nat.le_of_ble_eq_true rfl) dX3_constant_61 (fun v w1 H1 L1 hp hW hzz hkk hdd => ?_)
      obtain ⟨o2, rfl, rfl, hadd⟩ := hp
      clear hzz hkk hdd
      generalize H1 = H at hW  ⊢
      generalize L1 = locs at hW ⊢
      have hW : Wd Z A s.heap (bl Z hb0 hk hc hm (wg + w) (mo + nI 1) (n + 1) o2 ++ (cw Z hc x ++ [ea Z q w row, eo nv 2 [.ref q, .int (nI 0)]])) _ _ := hW
      refine W.eq (g2 := F0 m 64 ls [.int (nI n)]) rfl ?_
      have hW : Wd Z A s.heap (cw Z hc x ++ [ea Z q w row, eo nv 2 [.ref q, .int (nI 0)]] ++ bl Z hb0 hk hc hm (wg + w) (mo + nI 1) (n + 1) o2) _ _ := Wd.swap2 (w1 := bl Z hb0 hk hc hm (wg + w) (mo + nI 1) (n + 1) o2) (wc := cw Z hc x ++ [ea Z q w row, eo nv 2 [.ref q, .int (nI 0)]]) hW
      have hW : Wd Z A s.heap (cw Z hc x ++ [eo nv 2 [.ref q, .int (nI 0)], ea Z q w row] ++ bl Z hb0 hk hc hm (wg + w) (mo + nI 1) (n + 1) o2) _ _ := Wd.subL (w1 := cw Z hc x ++ [ea Z q w row, eo nv 2 [.ref q, .int (nI 0)]]) (w2 := cw Z hc x ++ [eo nv 2 [.ref q, .int (nI 0)], ea Z q w row]) (wl := bl Z hb0 hk hc hm (wg + w) (mo + nI 1) (n + 1) o2) hW [0, 1, 2, 3, 4, 6, 5] (by decide) rfl
      refine vx_ret (e_int hx hb hr hlk hAe hW (by omega) (by omega) dX3_constant_64 ?_)
      refine ⟨w, ⟨hw1, hw64, rfl⟩, hroom, x, nv, q, row, o2, rfl, rfl, hx1, fun j hj => ?_, hadd, rfl, hrow⟩
      rw [hrow j hj]
      have := hbok.1.1
      cases xv.toUInt64.toNat.testBit j <;> simp <;> omega
    | succ d ih =>
      intro i q row H locs cl sl ls hid hrow hcl hsl hW hl
      refine lv_iload hx hb dX3_constant_17 (lv_at hl 4 rfl) ?_
      refine lv_iload_n hx hb dX3_constant_19 rfl (lv_at hl 1 rfl) ?_
      refine n_ge_f (tgt := 49) hx hb (by omega) (by omega) dX3_constant_20 (by decide) ?_
      refine lv_aload hx hb dX3_constant_23 (lv_at hl 3 rfl) ?_
      refine lv_iload hx hb dX3_constant_25 (lv_at hl 4 rfl) ?_
      refine lv_lload_n hx hb dX3_constant_27 rfl (lv_at hl 2 rfl) ?_
      refine lv_iload hx hb dX3_constant_28 (lv_at hl 4 rfl) ?_
      refine c_stat (As := [.long xv, .int (nI i)]) (rest := [.int (nI i), .ref q]) (wc := []) (wr := cw Z hc x ++ ([ea Z q w row] ++ bl Z hb0 hk hc hm wg mo n o)) hx hb hml hown hts hK hG rfl hA hl (k_bitOf l Z xv i (by omega)) hW trivial tb_323 tb_324 tb_1 tb_325 (nA := 2) (by decide +kernel) rfl ⟨by omega, by omega⟩ ⟨by omega, by omega⟩ rfl (Nat.le_of_ble_eq_true rfl) dX3_constant_30 (fun v w1 H1 L1 hp hW hzz hkk hdd => ?_)
      obtain ⟨rfl, rfl⟩ := hp
      clear hzz hkk hdd
      generalize H1 = H at hW  ⊢
      generalize L1 = locs at hW ⊢
      have hW : Wd Z A s.heap (cw Z hc x ++ ([ea Z q w row] ++ bl Z hb0 hk hc hm wg mo n o)) _ _ := hW
      refine W.eq (g2 := F0 m 33 ls [.int (nI (xv.toUInt64.toNat.testBit i).toNat), .int (nI i), .ref q]) rfl ?_
      refine lv_iconst (v := nI 1) hx hb dX3_constant_33 (by decide) ?_
      cases hbit : xv.toUInt64.toNat.testBit i
      · have e0 : (false : Bool).toNat = 0 := rfl
        rw [e0]
        refine n_ne_t (tgt := 41) hx hb (by decide) (by omega) (by omega) dX3_constant_34 (by decide) ?_
        refine lv_iconst (v := nI 0) hx hb dX3_constant_41 (by decide) ?_
        refine r_ast (i := i) (x := 0) hx hb hK hW 5 rfl (by omega) (by omega) dX3_constant_42 (fun H locs hW => ?_)
        have hW : Wd Z A s.heap (cw Z hc x ++ ([ea Z q w (up row i 0)] ++ bl Z hb0 hk hc hm wg mo n o)) _ _ := hW
        refine lv_iinc (v := nI (i + 1)) (lv' := [(5, .int (nI (i + 1))), (0, .ref hb0), (1, .int (nI w)), (2, .long xv), (4, .ref q)]) hx hb dX3_constant_43 hl (k := 4) rfl (inc1 _) (by decide) rfl (fun ls hl => ?_)
        refine lv_goto (tgt := 17) hx hb dX3_constant_46 (by decide) ?_
        refine ih (i + 1) q (up row i 0) _ _ _ _ ls (by omega) (fun j hj => ?_) (by omega) (by omega) hW (lv_sub hl [1, 2, 3, 4, 0] rfl)
        by_cases e : j = i
        · subst e; rw [up_s, hbit]; rfl
        · rw [up_n _ _ e]; exact hrow j (by omega)
      · have e0 : (true : Bool).toNat = 1 := rfl
        rw [e0]
        refine n_ne_f (tgt := 41) hx hb rfl dX3_constant_34 (by decide) ?_
        refine lv_iconst (v := nI 1) hx hb dX3_constant_37 (by decide) ?_
        refine lv_goto (tgt := 42) hx hb dX3_constant_38 (by decide) ?_
        refine r_ast (i := i) (x := 1) hx hb hK hW 5 rfl (by omega) (by omega) dX3_constant_42 (fun H locs hW => ?_)
        have hW : Wd Z A s.heap (cw Z hc x ++ ([ea Z q w (up row i 1)] ++ bl Z hb0 hk hc hm wg mo n o)) _ _ := hW
        refine lv_iinc (v := nI (i + 1)) (lv' := [(5, .int (nI (i + 1))), (0, .ref hb0), (1, .int (nI w)), (2, .long xv), (4, .ref q)]) hx hb dX3_constant_43 hl (k := 4) rfl (inc1 _) (by decide) rfl (fun ls hl => ?_)
        refine lv_goto (tgt := 17) hx hb dX3_constant_46 (by decide) ?_
        refine ih (i + 1) q (up row i 1) _ _ _ _ ls (by omega) (fun j hj => ?_) (by omega) (by omega) hW (lv_sub hl [1, 2, 3, 4, 0] rfl)
        by_cases e : j = i
        · subst e; rw [up_s, hbit]; rfl
        · rw [up_n _ _ e]; exact hrow j (by omega)
  exact loop w 0 q (fun _ => 0) _ _ _ _ ls (by omega) (fun j hj => absurd hj (by omega)) (by omega) (by omega) hW (lv_sub hl [2, 3, 4, 1, 0] rfl)
