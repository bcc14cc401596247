set_option maxHeartbeats 4000000 in
set_option maxRecDepth 100000 in
/-- VectorBench.extract -/
theorem k_extract (l : Launch) (hst : l.stackTraces = false) (Z : Zt) (hb0 hk hc hm : Nat) (x : CS) (σ : Nat → Bool) (mo : Int32) (n wg : Nat) (o : Option (Nat × Nat × (Nat → Option Nat))) (vd vb stb wd : Nat → Nat) (rw : Nat → Nat → Nat) (xa xh xl : Int32) (hbok : bok x σ n wg o vd stb wd rw) : MX l yX3_extract cX3_extract 6 (some .int) 11 600 (10) (1100) Z (cw Z hc x ++ bl Z hb0 hk hc hm wg mo n o) (fun H => BRO Z (cw Z hc x ++ bl Z hb0 hk hc hm wg mo n o) hk hc n vd vb stb wd rw H) [.ref hb0, .int xa, .int xh, .int xl] (fun r w1 => ∃ i lo hi, (i < n ∧ xa = nI i ∧ xl = nI lo ∧ xh = nI hi ∧ lo ≤ hi ∧ hi < wd i) ∧ hi - lo + 1 + wg ≤ 100000 ∧ newQ Z hb0 hk hc hm x σ mo n wg vd (hi - lo + 1) (0) (hi - lo + 1) 0 (fun y f => y = x ∧ ∀ j, j < hi - lo + 1 → f j = rw i (lo + j)) r w1) (fun E => (E = IAE ∧ ¬ ∃ i lo hi, i < n ∧ xa = nI i ∧ xl = nI lo ∧ xh = nI hi ∧ lo ≤ hi ∧ hi < wd i) ∨ (E = ISE ∧ ∃ i lo hi, (i < n ∧ xa = nI i ∧ xl = nI lo ∧ xh = nI hi ∧ lo ≤ hi ∧ hi < wd i) ∧ ¬ hi - lo + 1 + wg ≤ 100000)) := by
  refine mx_of (by decide) (Nat.le_of_ble_eq_true rfl) (fun p e s m below meth c ls A hx hb hr hts hown hlk hml hex hK hG hW hA hAe hro hl R hRf hRc hRs hRl => ?_)
  have hl : lv_has ls 6 [(0, .ref hb0), (1, .int xa), (2, .int xh), (3, .int xl)] := hl
  have hsm : ∀ q : Nat, q < s.heap.size → s.heap[q]? = s.heap[q]? := fun _ _ => rfl
  refine lv_aload_n hx hb dX3_extract_0 rfl (lv_at hl 0 rfl) ?_
  refine lv_iload_n hx hb dX3_extract_1 rfl (lv_at hl 1 rfl) ?_
  have hsz0 := hW.2.2.1
  refine x_virt (As := [.int xa]) (rest := []) (wc := []) (wr := cw Z hc x ++ bl Z hb0 hk hc hm wg mo n o) hx hb hml hown hts hK hG rfl hA hl (k_bitsOf l hst Z hb0 hk hc hm mo n wg o vd vb stb xa hbok.2.1) hW ⟨hW.at 5 rfl, suf_P (wc := cw Z hc x ++ [bo hb0 hk hc hm wg]) hW.1, fun i hi => (hro.here hAe hW hi).1⟩ (hW.at 5 rfl) rfl rfl tb_337 tb_339 ts_6 tb_1 tb_340 (nA := 1) (by decide +kernel) rfl ⟨by omega, by omega⟩ ⟨by omega, by omega⟩ rfl (Nat.le_of_ble_eq_true rfl) dX3_extract_2 (fun E q9 ce H9 L9 hpx hWx hzx hkx hce hcv hcl => x_pass hex hlk (Or.inl ⟨hpx.1, fun ⟨i, a, b, z⟩ => hpx.2 ⟨i, z.1, z.2.1⟩⟩) (Nat.le_trans hsz0 hzx) (fun q hq => (hkx q (Nat.lt_of_lt_of_le hq hsz0)).trans (hsm q hq)) hce hcv hcl hWx.2.2.2.2 (by omega) (by omega)) (fun v w1 H1 L1 hp hW hzz hkk hdd => ?_)
  obtain ⟨rfl, i, hi, ei, rfl⟩ := hp
  have hsm := sm_step hsz0 hkk hsm
  clear hzz hkk hdd
  generalize H1 = H at hW hsm ⊢
  generalize L1 = locs at hW ⊢
  have hW : Wd Z A s.heap (cw Z hc x ++ bl Z hb0 hk hc hm wg mo n o) _ _ := hW
  refine W.eq (g2 := F0 m 5 ls [.ref (vb i)]) rfl ?_
  obtain ⟨w1_i, w2_i, w3_i, w4_i⟩ := hbok.2.2.2.2.2 i hi
  have hn5 := hbok.2.2.2.2.1
  have inj : ∀ a b : Nat, a < n → b < n → nI a = nI b → a = b := fun a b ha hb h => (nI_eq (by omega) (by omega)).mp h
  have hxn := hbok.2.2.2.1
  have hwb := hbok.2.2.1
  have hx1 := stp.rf hbok.1
  refine lv_astore (lv' := [(4, .ref (vb i)), (0, .ref hb0), (1, .int xa), (2, .int xh), (3, .int xl)]) hx hb dX3_extract_5 hl (by decide) rfl (fun ls hl => ?_)
  refine lv_iload_n hx hb dX3_extract_7 rfl (lv_at hl 4 rfl) ?_
  refine lv_if_lt (tgt := 23) hx hb dX3_extract_8 (by decide) (fun q1 => ?_) (fun q1 => ?_)
  all_goals rw [i_neg] at q1
  · exact th_IAE hx hb hst hown hts hG hW hml hl hex hlk (is := 112) (text := "there are no such bits") (by decide) dX3_extract_23 dX3_extract_26 dX3_extract_27 dX3_extract_29 dX3_extract_32 (by omega) (by rw [hRl]; exact Nat.le_of_ble_eq_true rfl) (by omega) (by omega) (Or.inl ⟨rfl, fun ⟨a, lo, h9, z1, z2, z3, z4, z5, z6⟩ => by have e9 := inj i a hi z1 (ei.symm.trans z2); subst e9; rw [z3, i_toInt (by omega)] at q1; omega⟩) hsm (by omega) (by omega)
  · refine lv_iload_n hx hb dX3_extract_11 rfl (lv_at hl 3 rfl) ?_
    refine lv_iload_n hx hb dX3_extract_12 rfl (lv_at hl 4 rfl) ?_
    refine lv_icmp_lt (tgt := 23) hx hb dX3_extract_13 (by decide) (fun q2 => ?_) (fun q2 => ?_)
    all_goals rw [Int32.lt_iff_toInt_lt] at q2
    · exact th_IAE hx hb hst hown hts hG hW hml hl hex hlk (is := 112) (text := "there are no such bits") (by decide) dX3_extract_23 dX3_extract_26 dX3_extract_27 dX3_extract_29 dX3_extract_32 (by omega) (by rw [hRl]; exact Nat.le_of_ble_eq_true rfl) (by omega) (by omega) (Or.inl ⟨rfl, fun ⟨a, lo, h9, z1, z2, z3, z4, z5, z6⟩ => by have e9 := inj i a hi z1 (ei.symm.trans z2); subst e9; rw [z3, z4, i_toInt (by omega), i_toInt (by omega)] at q2; omega⟩) hsm (by omega) (by omega)
    · refine lv_iload_n hx hb dX3_extract_16 rfl (lv_at hl 3 rfl) ?_
      refine lv_aload hx hb dX3_extract_17 (lv_at hl 0 rfl) ?_
      refine r_len hx hb hK (hro.here hAe hW hi).2 dX3_extract_19 ?_
      refine lv_icmp_lt (tgt := 33) hx hb dX3_extract_20 (by decide) (fun q3 => ?_) (fun q3 => ?_)
      all_goals rw [i_lt _ (by omega)] at q3
      · obtain ⟨lo, hlo31, elo, elo2⟩ := i_nat (x := xl) (by omega)
        obtain ⟨hi9, hhi31, ehi, ehi2⟩ := i_nat (x := xh) (by omega)
        subst elo
        subst ehi
        refine lv_iload_n hx hb dX3_extract_33 rfl (lv_at hl 3 rfl) ?_
        refine lv_iload_n hx hb dX3_extract_34 rfl (lv_at hl 4 rfl) ?_
        refine n_isub hx hb (by omega) dX3_extract_35 ?_
        refine lv_iconst (v := nI 1) hx hb dX3_extract_36 (by decide) ?_
        refine n_iadd hx hb dX3_extract_37 ?_
        refine lv_istore (lv' := [(5, .int (nI ((hi9 - lo) + 1))), (4, .ref (vb i)), (0, .ref hb0), (1, .int xa), (2, .int (nI hi9)), (3, .int (nI lo))]) hx hb dX3_extract_38 hl (by decide) rfl (fun ls hl => ?_)
        refine lv_aload_n hx hb dX3_extract_40 rfl (lv_at hl 2 rfl) ?_
        refine lv_iload hx hb dX3_extract_41 (lv_at hl 0 rfl) ?_
        have hsz0 := hW.2.2.1
        refine x_virt (As := [.int (nI ((hi9 - lo) + 1))]) (rest := []) (wc := []) (wr := cw Z hc x ++ bl Z hb0 hk hc hm wg mo n o) hx hb hml hown hts hK hG rfl hA hl (k_needRoom l hst Z hb0 hk hc hm mo (lsq Z o) n wg (hi9 - lo + 1) hbok.2.2.1 (by omega) (by have := hbok.2.2.2.2.1; omega)) hW ⟨hW.at 5 rfl, hW.at 6 rfl⟩ (hW.at 5 rfl) rfl rfl tb_201 tb_203 ts_1 tb_1 tb_204 (nA := 1) (by decide +kernel) rfl ⟨by omega, by omega⟩ ⟨by omega, by omega⟩ rfl (Nat.le_of_ble_eq_true rfl) dX3_extract_43 (fun E q9 ce H9 L9 hpx hWx hzx hkx hce hcv hcl => x_pass hex hlk (Or.inr ⟨hpx.1, i, lo, hi9, ⟨hi, ei, rfl, rfl, by omega, by omega⟩, hpx.2⟩) (Nat.le_trans hsz0 hzx) (fun q hq => (hkx q (Nat.lt_of_lt_of_le hq hsz0)).trans (hsm q hq)) hce hcv hcl hWx.2.2.2.2 (by omega) (by omega)) (fun v w1 H1 L1 hp hW hzz hkk hdd => ?_)
        obtain ⟨rfl, rfl, hroom⟩ := hp
        have hsm := sm_step hsz0 hkk hsm
        clear hzz hkk hdd
        generalize H1 = H at hW hsm ⊢
        generalize L1 = locs at hW ⊢
        have hW : Wd Z A s.heap (cw Z hc x ++ bl Z hb0 hk hc hm wg mo n o) _ _ := hW
        refine W.eq (g2 := F0 m 46 ls []) rfl ?_
        refine lv_aload_n hx hb dX3_extract_46 rfl (lv_at hl 2 rfl) ?_
        refine r_new (fs := [.null, .int 0]) hx hb hts hown hK hW hA (ci := 2) rfl in_X2 tyX2 tyX2_ok tb_246 tb_247 tb_16 (fun j hj => by rcases (show j = 0 ∨ j = 1 by omega) with rfl | rfl <;> rfl) (by omega) (by omega) dX3_extract_47 (fun nv H hW => ?_)
        have hW : Wd Z A s.heap (cw Z hc x ++ (bl Z hb0 hk hc hm wg mo n o ++ [eo nv 2 [.null, .int 0]])) _ _ := hW
        have hW : Wd Z A s.heap (cw Z hc x ++ ([eo nv 2 [.null, .int 0]] ++ bl Z hb0 hk hc hm wg mo n o)) _ _ := Wd.swapR (w1 := cw Z hc x) (wl := bl Z hb0 hk hc hm wg mo n o) (we := [eo nv 2 [.null, .int 0]]) hW
        refine lv_dup hx hb dX3_extract_50 rfl ?_
        refine lv_aload hx hb dX3_extract_51 (lv_at hl 1 rfl) ?_
        refine lv_iload_n hx hb dX3_extract_53 rfl (lv_at hl 5 rfl) ?_
        refine lv_iload_n hx hb dX3_extract_54 rfl (lv_at hl 4 rfl) ?_
        refine lv_iconst (v := nI 1) hx hb dX3_extract_55 (by decide) ?_
        refine n_iadd hx hb dX3_extract_56 ?_
        refine c_stat (As := [.ref (vb i), .int (nI lo), .int (nI (hi9 + 1))]) (rest := [.ref nv, .ref nv, .ref hb0]) (wc := []) (wr := cw Z hc x ++ ([eo nv 2 [.null, .int 0]] ++ bl Z hb0 hk hc hm wg mo n o)) hx hb hml hown hts hK hG rfl hA hl (k_copyOfRange l Z (vb i) (wd i) lo (hi9 + 1) (rw i) (by omega) (by omega) (by omega)) hW (hro.here hAe hW hi).2 tb_719 tb_419 tb_13 tb_420 (nA := 3) (by decide +kernel) rfl ⟨by omega, by omega⟩ ⟨by omega, by omega⟩ rfl (Nat.le_of_ble_eq_true rfl) dX3_extract_57 (fun v w1 H1 L1 hp hW hzz hkk hdd => ?_)
        obtain ⟨q, f, rfl, rfl, hf⟩ := hp
        clear hzz hkk hdd
        generalize H1 = H at hW  ⊢
        generalize L1 = locs at hW ⊢
        have hW : Wd Z A s.heap ([ea Z q (hi9 + 1 - lo) f] ++ (cw Z hc x ++ ([eo nv 2 [.null, .int 0]] ++ bl Z hb0 hk hc hm wg mo n o))) _ _ := hW
        refine W.eq (g2 := F0 m 60 ls [.ref q, .ref nv, .ref nv, .ref hb0]) rfl ?_
        have ew : hi9 + 1 - lo = hi9 - lo + 1 := by omega
        rw [ew] at hW hf
        have hW : Wd Z A s.heap (cw Z hc x ++ ([eo nv 2 [.null, .int 0], ea Z q (hi9 - lo + 1) f] ++ bl Z hb0 hk hc hm wg mo n o)) _ _ := Wd.rot (w1 := [ea Z q (hi9 - lo + 1) f]) (wc := cw Z hc x ++ [eo nv 2 [.null, .int 0]]) (wr := bl Z hb0 hk hc hm wg mo n o) hW
        refine lv_iconst (v := nI 0) hx hb dX3_extract_60 (by decide) ?_
        have hW : Wd Z A s.heap ([eo nv 2 [.null, .int 0]] ++ (cw Z hc x ++ ([ea Z q (hi9 - lo + 1) f] ++ bl Z hb0 hk hc hm wg mo n o))) _ _ := Wd.rot (w1 := cw Z hc x) (wc := [eo nv 2 [.null, .int 0]]) (wr := [ea Z q (hi9 - lo + 1) f] ++ bl Z hb0 hk hc hm wg mo n o) hW
        refine c_spec (b := nv) (As := [.ref q, .int (nI 0)]) (rest := [.ref nv, .ref hb0]) (wc := [eo nv 2 [.null, .int 0]]) (wr := cw Z hc x ++ ([ea Z q (hi9 - lo + 1) f] ++ bl Z hb0 hk hc hm wg mo n o)) hx hb hml hown hts hK hG rfl hA hl (k_Vector l Z nv q 0 (by decide)) hW trivial tb_248 tb_249 tb_16 tb_250 rfl (nA := 2) (by decide +kernel) rfl ⟨by omega, by omega⟩ ⟨by omega, by omega⟩ rfl (Nat.le_of_ble_eq_true rfl) dX3_extract_61 (fun v w1 H1 L1 hp hW hzz hkk hdd => ?_)
        obtain ⟨rfl, rfl⟩ := hp
        clear hzz hkk hdd
        generalize H1 = H at hW  ⊢
        generalize L1 = locs at hW ⊢
        have hW : Wd Z A s.heap ([eo nv 2 [.ref q, .int (nI 0)]] ++ (cw Z hc x ++ ([ea Z q (hi9 - lo + 1) f] ++ bl Z hb0 hk hc hm wg mo n o))) _ _ := hW
        refine W.eq (g2 := F0 m 64 ls [.ref nv, .ref hb0]) rfl ?_
        have hW : Wd Z A s.heap (cw Z hc x ++ ([eo nv 2 [.ref q, .int (nI 0)]] ++ ([ea Z q (hi9 - lo + 1) f] ++ bl Z hb0 hk hc hm wg mo n o))) _ _ := Wd.rot (w1 := [eo nv 2 [.ref q, .int (nI 0)]]) (wc := cw Z hc x) (wr := [ea Z q (hi9 - lo + 1) f] ++ bl Z hb0 hk hc hm wg mo n o) hW
        have hW : Wd Z A s.heap (cw Z hc x ++ ([eo nv 2 [.ref q, .int (nI 0)], ea Z q (hi9 - lo + 1) f] ++ bl Z hb0 hk hc hm wg mo n o)) _ _ := hW
        refine lv_iload hx hb dX3_extract_64 (lv_at hl 0 rfl) ?_
        have hW : Wd Z A s.heap (bl Z hb0 hk hc hm wg mo n o ++ (cw Z hc x ++ [eo nv 2 [.ref q, .int (nI 0)], ea Z q (hi9 - lo + 1) f])) _ _ := Wd.swap2 (w1 := cw Z hc x ++ [eo nv 2 [.ref q, .int (nI 0)], ea Z q (hi9 - lo + 1) f]) (wc := bl Z hb0 hk hc hm wg mo n o) hW
        refine c_virt (As := [.ref nv, .int (nI ((hi9 - lo) + 1))]) (rest := []) (wc := bl Z hb0 hk hc hm wg mo n o) (wr := cw Z hc x ++ [eo nv 2 [.ref q, .int (nI 0)], ea Z q (hi9 - lo + 1) f]) (nl := 0) hx hb hml hown hts hK hG rfl hA hl (k_keep l Z hb0 hk hc hm mo n wg (hi9 - lo + 1) nv o vd hbok.2.1 hbok.2.2.2.2.1 hroom) hW ⟨⟨_, RO.loc hW 5 rfl⟩, fun i hi => ⟨_, RO.pass (hro.2 i hi).1 hAe hW⟩⟩ (hW.at 0 rfl) rfl rfl tb_261 tb_263 ts_2 tb_1 tb_264 (nA := 2) (by decide +kernel) rfl ⟨by omega, by omega⟩ ⟨by omega, by omega⟩ rfl (Nat.le_of_ble_eq_true rfl) dX3_extract_66 (fun v w1 H1 L1 hp hW hzz hkk hdd => ?_)
        obtain ⟨o2, rfl, rfl, hadd⟩ := hp
        clear hzz hkk hdd
        generalize H1 = H at hW  ⊢
        generalize L1 = locs at hW ⊢
        have hW : Wd Z A s.heap (bl Z hb0 hk hc hm (wg + (hi9 - lo + 1)) (mo + nI 1) (n + 1) o2 ++ (cw Z hc x ++ [eo nv 2 [.ref q, .int (nI 0)], ea Z q (hi9 - lo + 1) f])) _ _ := hW
        refine W.eq (g2 := F0 m 69 ls [.int (nI n)]) rfl ?_
        have hW : Wd Z A s.heap (cw Z hc x ++ [eo nv 2 [.ref q, .int (nI 0)], ea Z q (hi9 - lo + 1) f] ++ bl Z hb0 hk hc hm (wg + (hi9 - lo + 1)) (mo + nI 1) (n + 1) o2) _ _ := Wd.swap2 (w1 := bl Z hb0 hk hc hm (wg + (hi9 - lo + 1)) (mo + nI 1) (n + 1) o2) (wc := cw Z hc x ++ [eo nv 2 [.ref q, .int (nI 0)], ea Z q (hi9 - lo + 1) f]) hW
        have hW : Wd Z A s.heap (cw Z hc x ++ [eo nv 2 [.ref q, .int (nI 0)], ea Z q (hi9 - lo + 1) f] ++ bl Z hb0 hk hc hm (wg + (hi9 - lo + 1)) (mo + nI 1) (n + 1) o2) _ _ := Wd.subL (w1 := cw Z hc x ++ [eo nv 2 [.ref q, .int (nI 0)], ea Z q (hi9 - lo + 1) f]) (w2 := cw Z hc x ++ [eo nv 2 [.ref q, .int (nI 0)], ea Z q (hi9 - lo + 1) f]) (wl := bl Z hb0 hk hc hm (wg + (hi9 - lo + 1)) (mo + nI 1) (n + 1) o2) hW [0, 1, 2, 3, 4, 5, 6] (by decide) rfl
        refine vx_ret (e_int hx hb hr hlk hAe hW (by omega) (by omega) dX3_extract_69 ?_)
        exact ⟨i, lo, hi9, ⟨hi, ei, rfl, rfl, by omega, by omega⟩, hroom, x, nv, q, f, o2, rfl, rfl, hx1, fun j hj => (by rw [hf j hj]; exact w4_i _ (by omega)), hadd, rfl, hf⟩
      · exact th_IAE hx hb hst hown hts hG hW hml hl hex hlk (is := 112) (text := "there are no such bits") (by decide) dX3_extract_23 dX3_extract_26 dX3_extract_27 dX3_extract_29 dX3_extract_32 (by omega) (by rw [hRl]; exact Nat.le_of_ble_eq_true rfl) (by omega) (by omega) (Or.inl ⟨rfl, fun ⟨a, lo, h9, z1, z2, z3, z4, z5, z6⟩ => by have e9 := inj i a hi z1 (ei.symm.trans z2); subst e9; rw [z4, i_toInt (by omega)] at q3; omega⟩) hsm (by omega) (by omega)
set_option maxHeartbeats 4000000 in
set_option maxRecDepth 100000 in
/-- VectorBench.extend -/
theorem k_extend (l : Launch) (hst : l.stackTraces = false) (Z : Zt) (hb0 hk hc hm : Nat) (x : CS) (σ : Nat → Bool) (mo : Int32) (n wg : Nat) (o : Option (Nat × Nat × (Nat → Option Nat))) (vd vb stb wd : Nat → Nat) (rw : Nat → Nat → Nat) (xa xb : Int32) (sg : Nat) (hbok : bok x σ n wg o vd stb wd rw) (hsg : sg ≤ 1) : MX l yX3_extend cX3_extend 7 (some .int) 11 600 (10) (1100) Z (cw Z hc x ++ bl Z hb0 hk hc hm wg mo n o) (fun H => BRO Z (cw Z hc x ++ bl Z hb0 hk hc hm wg mo n o) hk hc n vd vb stb wd rw H) [.ref hb0, .int xa, .int xb, .int (nI sg)] (fun r w1 => ∃ i b, (i < n ∧ xa = nI i ∧ xb = nI b ∧ wd i + b ≤ 64) ∧ wd i + b + wg ≤ 100000 ∧ newQ Z hb0 hk hc hm x σ mo n wg vd (wd i + b) (0) (wd i + b) 0 (fun y f => y = x ∧ ∀ j, j < wd i + b → f j = if j < wd i then rw i j else if sg = 0 then 0 else rw i (wd i - 1)) r w1) (fun E => (E = IAE ∧ ¬ ∃ i b, i < n ∧ xa = nI i ∧ xb = nI b ∧ wd i + b ≤ 64) ∨ (E = ISE ∧ ∃ i b, (i < n ∧ xa = nI i ∧ xb = nI b ∧ wd i + b ≤ 64) ∧ ¬ wd i + b + wg ≤ 100000)) := by
  refine mx_of (by decide) (Nat.le_of_ble_eq_true rfl) (fun p e s m below meth c ls A hx hb hr hts hown hlk hml hex hK hG hW hA hAe hro hl R hRf hRc hRs hRl => ?_)
  have hl : lv_has ls 7 [(0, .ref hb0), (1, .int xa), (2, .int xb), (3, .int (nI sg))] := hl
  have hsm : ∀ q : Nat, q < s.heap.size → s.heap[q]? = s.heap[q]? := fun _ _ => rfl
  refine lv_aload_n hx hb dX3_extend_0 rfl (lv_at hl 0 rfl) ?_
  refine lv_iload_n hx hb dX3_extend_1 rfl (lv_at hl 1 rfl) ?_
  have hsz0 := hW.2.2.1
  refine x_virt (As := [.int xa]) (rest := []) (wc := []) (wr := cw Z hc x ++ bl Z hb0 hk hc hm wg mo n o) hx hb hml hown hts hK hG rfl hA hl (k_bitsOf l hst Z hb0 hk hc hm mo n wg o vd vb stb xa hbok.2.1) hW ⟨hW.at 5 rfl, suf_P (wc := cw Z hc x ++ [bo hb0 hk hc hm wg]) hW.1, fun i hi => (hro.here hAe hW hi).1⟩ (hW.at 5 rfl) rfl rfl tb_337 tb_339 ts_6 tb_1 tb_340 (nA := 1) (by decide +kernel) rfl ⟨by omega, by omega⟩ ⟨by omega, by omega⟩ rfl (Nat.le_of_ble_eq_true rfl) dX3_extend_2 (fun E q9 ce H9 L9 hpx hWx hzx hkx hce hcv hcl => x_pass hex hlk (Or.inl ⟨hpx.1, fun ⟨i, b, z⟩ => hpx.2 ⟨i, z.1, z.2.1⟩⟩) (Nat.le_trans hsz0 hzx) (fun q hq => (hkx q (Nat.lt_of_lt_of_le hq hsz0)).trans (hsm q hq)) hce hcv hcl hWx.2.2.2.2 (by omega) (by omega)) (fun v w1 H1 L1 hp hW hzz hkk hdd => ?_)
  obtain ⟨rfl, i, hi, ei, rfl⟩ := hp
  have hsm := sm_step hsz0 hkk hsm
  clear hzz hkk hdd
  generalize H1 = H at hW hsm ⊢
  generalize L1 = locs at hW ⊢
  have hW : Wd Z A s.heap (cw Z hc x ++ bl Z hb0 hk hc hm wg mo n o) _ _ := hW
  refine W.eq (g2 := F0 m 5 ls [.ref (vb i)]) rfl ?_
  obtain ⟨w1_i, w2_i, w3_i, w4_i⟩ := hbok.2.2.2.2.2 i hi
  have hn5 := hbok.2.2.2.2.1
  have inj : ∀ a b : Nat, a < n → b < n → nI a = nI b → a = b := fun a b ha hb h => (nI_eq (by omega) (by omega)).mp h
  have hxn := hbok.2.2.2.1
  have hwb := hbok.2.2.1
  have hx1 := stp.rf hbok.1
  refine lv_astore (lv' := [(4, .ref (vb i)), (0, .ref hb0), (1, .int xa), (2, .int xb), (3, .int (nI sg))]) hx hb dX3_extend_5 hl (by decide) rfl (fun ls hl => ?_)
  refine lv_iload_n hx hb dX3_extend_7 rfl (lv_at hl 3 rfl) ?_
  refine lv_if_lt (tgt := 21) hx hb dX3_extend_8 (by decide) (fun q1 => ?_) (fun q1 => ?_)
  all_goals rw [i_neg] at q1
  · exact th_IAE hx hb hst hown hts hG hW hml hl hex hlk (is := 118) (text := "it can't be wider by so many bits") (by decide) dX3_extend_21 dX3_extend_24 dX3_extend_25 dX3_extend_27 dX3_extend_30 (by omega) (by rw [hRl]; exact Nat.le_of_ble_eq_true rfl) (by omega) (by omega) (Or.inl ⟨rfl, fun ⟨a, b, z1, z2, z3, z4⟩ => by rw [z3, i_toInt (by omega)] at q1; omega⟩) hsm (by omega) (by omega)
  · refine lv_iload_n hx hb dX3_extend_11 rfl (lv_at hl 3 rfl) ?_
    refine lv_bipush (v := nI 64) hx hb dX3_extend_12 (by decide) ?_
    refine lv_aload hx hb dX3_extend_14 (lv_at hl 0 rfl) ?_
    refine r_len hx hb hK (hro.here hAe hW hi).2 dX3_extend_16 ?_
    refine n_isub hx hb (by omega) dX3_extend_17 ?_
    refine lv_icmp_le (tgt := 31) hx hb dX3_extend_18 (by decide) (fun q2 => ?_) (fun q2 => ?_)
    all_goals rw [i_le _ (by omega)] at q2
    · obtain ⟨b9, hb31, eb, eb2⟩ := i_nat (x := xb) (by omega)
      subst eb
      refine lv_aload hx hb dX3_extend_31 (lv_at hl 0 rfl) ?_
      refine r_len hx hb hK (hro.here hAe hW hi).2 dX3_extend_33 ?_
      refine lv_iload_n hx hb dX3_extend_34 rfl (lv_at hl 3 rfl) ?_
      refine n_iadd hx hb dX3_extend_35 ?_
      refine lv_istore (lv' := [(5, .int (nI ((wd i) + b9))), (4, .ref (vb i)), (0, .ref hb0), (1, .int xa), (2, .int (nI b9)), (3, .int (nI sg))]) hx hb dX3_extend_36 hl (by decide) rfl (fun ls hl => ?_)
      refine lv_aload_n hx hb dX3_extend_38 rfl (lv_at hl 2 rfl) ?_
      refine lv_iload hx hb dX3_extend_39 (lv_at hl 0 rfl) ?_
      have hsz0 := hW.2.2.1
      refine x_virt (As := [.int (nI ((wd i) + b9))]) (rest := []) (wc := []) (wr := cw Z hc x ++ bl Z hb0 hk hc hm wg mo n o) hx hb hml hown hts hK hG rfl hA hl (k_needRoom l hst Z hb0 hk hc hm mo (lsq Z o) n wg (wd i + b9) hbok.2.2.1 (by omega) (by have := hbok.2.2.2.2.1; omega)) hW ⟨hW.at 5 rfl, hW.at 6 rfl⟩ (hW.at 5 rfl) rfl rfl tb_201 tb_203 ts_1 tb_1 tb_204 (nA := 1) (by decide +kernel) rfl ⟨by omega, by omega⟩ ⟨by omega, by omega⟩ rfl (Nat.le_of_ble_eq_true rfl) dX3_extend_41 (fun E q9 ce H9 L9 hpx hWx hzx hkx hce hcv hcl => x_pass hex hlk (Or.inr ⟨hpx.1, i, b9, ⟨hi, ei, rfl, by omega⟩, hpx.2⟩) (Nat.le_trans hsz0 hzx) (fun q hq => (hkx q (Nat.lt_of_lt_of_le hq hsz0)).trans (hsm q hq)) hce hcv hcl hWx.2.2.2.2 (by omega) (by omega)) (fun v w1 H1 L1 hp hW hzz hkk hdd => ?_)
      obtain ⟨rfl, rfl, hroom⟩ := hp
      have hsm := sm_step hsz0 hkk hsm
      clear hzz hkk hdd
      generalize H1 = H at hW hsm ⊢
      generalize L1 = locs at hW ⊢
      have hW : Wd Z A s.heap (cw Z hc x ++ bl Z hb0 hk hc hm wg mo n o) _ _ := hW
      refine W.eq (g2 := F0 m 44 ls []) rfl ?_
      refine lv_aload hx hb dX3_extend_44 (lv_at hl 1 rfl) ?_
      refine lv_iload hx hb dX3_extend_46 (lv_at hl 0 rfl) ?_
      refine c_stat (As := [.ref (vb i), .int (nI ((wd i) + b9))]) (rest := []) (wc := []) (wr := cw Z hc x ++ bl Z hb0 hk hc hm wg mo n o) hx hb hml hown hts hK hG rfl hA hl (k_copyOf l Z (vb i) (wd i) (wd i + b9) (rw i) (by omega) (by omega)) hW (hro.here hAe hW hi).2 tb_709 tb_231 tb_13 tb_232 (nA := 2) (by decide +kernel) rfl ⟨by omega, by omega⟩ ⟨by omega, by omega⟩ rfl (Nat.le_of_ble_eq_true rfl) dX3_extend_48 (fun v w1 H1 L1 hp hW hzz hkk hdd => ?_)
      obtain ⟨q, f, rfl, rfl, hf⟩ := hp
      clear hzz hkk hdd
      generalize H1 = H at hW  ⊢
      generalize L1 = locs at hW ⊢
      have hW : Wd Z A s.heap ([ea Z q (wd i + b9) f] ++ (cw Z hc x ++ bl Z hb0 hk hc hm wg mo n o)) _ _ := hW
      refine W.eq (g2 := F0 m 51 ls [.ref q]) rfl ?_
      refine lv_astore (lv' := [(6, .ref q), (5, .int (nI ((wd i) + b9))), (4, .ref (vb i)), (0, .ref hb0), (1, .int xa), (2, .int (nI b9)), (3, .int (nI sg))]) hx hb dX3_extend_51 hl (by decide) rfl (fun ls hl => ?_)
      refine lv_aload hx hb dX3_extend_53 (lv_at hl 0 rfl) ?_
      refine lv_aload hx hb dX3_extend_55 (lv_at hl 2 rfl) ?_
      refine r_len hx hb hK (hro.here hAe hW hi).2 dX3_extend_57 ?_
      refine lv_iload hx hb dX3_extend_58 (lv_at hl 1 rfl) ?_
      refine lv_iload_n hx hb dX3_extend_60 rfl (lv_at hl 6 rfl) ?_
      by_cases hs0 : sg = 0
      · refine n_zeq_t (tgt := 75) hx hb (by omega) dX3_extend_61 (by decide) ?_
        refine lv_iconst (v := nI 0) hx hb dX3_extend_75 (by decide) ?_
        refine c_stat (As := [.ref q, .int (nI (wd i)), .int (nI ((wd i) + b9)), .int (nI 0)]) (rest := []) (wc := [ea Z q (wd i + b9) f]) (wr := cw Z hc x ++ bl Z hb0 hk hc hm wg mo n o) hx hb hml hown hts hK hG rfl hA hl (k_fill l Z q (wd i + b9) (wd i) (wd i + b9) 0 f (by omega) (Nat.le_refl _) (by omega)) hW trivial tb_728 tb_729 tb_13 tb_730 (nA := 4) (by decide +kernel) rfl ⟨by omega, by omega⟩ ⟨by omega, by omega⟩ rfl (Nat.le_of_ble_eq_true rfl) dX3_extend_76 (fun v w1 H1 L1 hp hW hzz hkk hdd => ?_)
        obtain ⟨f2, rfl, rfl, hf2⟩ := hp
        clear hzz hkk hdd
        generalize H1 = H at hW  ⊢
        generalize L1 = locs at hW ⊢
        have hW : Wd Z A s.heap ([ea Z q (wd i + b9) f2] ++ (cw Z hc x ++ bl Z hb0 hk hc hm wg mo n o)) _ _ := hW
        refine W.eq (g2 := F0 m 79 ls []) rfl ?_
        have hW : Wd Z A s.heap (cw Z hc x ++ ([ea Z q (wd i + b9) f2] ++ bl Z hb0 hk hc hm wg mo n o)) _ _ := Wd.rot (w1 := [ea Z q (wd i + b9) f2]) (wc := cw Z hc x) (wr := bl Z hb0 hk hc hm wg mo n o) hW
        refine lv_aload_n hx hb dX3_extend_79 rfl (lv_at hl 3 rfl) ?_
        refine r_new (fs := [.null, .int 0]) hx hb hts hown hK hW hA (ci := 2) rfl in_X2 tyX2 tyX2_ok tb_246 tb_247 tb_16 (fun j hj => by rcases (show j = 0 ∨ j = 1 by omega) with rfl | rfl <;> rfl) (by omega) (by omega) dX3_extend_80 (fun nv H hW => ?_)
        have hW : Wd Z A s.heap (cw Z hc x ++ ([ea Z q (wd i + b9) f2] ++ (bl Z hb0 hk hc hm wg mo n o ++ [eo nv 2 [.null, .int 0]]))) _ _ := hW
        have hW : Wd Z A s.heap (cw Z hc x ++ ([ea Z q (wd i + b9) f2, eo nv 2 [.null, .int 0]] ++ bl Z hb0 hk hc hm wg mo n o)) _ _ := Wd.swapR (w1 := cw Z hc x ++ [ea Z q (wd i + b9) f2]) (wl := bl Z hb0 hk hc hm wg mo n o) (we := [eo nv 2 [.null, .int 0]]) hW
        refine lv_dup hx hb dX3_extend_83 rfl ?_
        refine lv_aload hx hb dX3_extend_84 (lv_at hl 0 rfl) ?_
        refine lv_iconst (v := nI 0) hx hb dX3_extend_86 (by decide) ?_
        have hW : Wd Z A s.heap ([eo nv 2 [.null, .int 0]] ++ (cw Z hc x ++ [ea Z q (wd i + b9) f2] ++ (bl Z hb0 hk hc hm wg mo n o))) _ _ := Wd.rot (w1 := cw Z hc x ++ [ea Z q (wd i + b9) f2]) (wc := [eo nv 2 [.null, .int 0]]) (wr := bl Z hb0 hk hc hm wg mo n o) hW
        refine c_spec (b := nv) (As := [.ref q, .int (nI 0)]) (rest := [.ref nv, .ref hb0]) (wc := [eo nv 2 [.null, .int 0]]) (wr := cw Z hc x ++ ([ea Z q (wd i + b9) f2] ++ bl Z hb0 hk hc hm wg mo n o)) hx hb hml hown hts hK hG rfl hA hl (k_Vector l Z nv q 0 (by decide)) hW trivial tb_248 tb_249 tb_16 tb_250 rfl (nA := 2) (by decide +kernel) rfl ⟨by omega, by omega⟩ ⟨by omega, by omega⟩ rfl (Nat.le_of_ble_eq_true rfl) dX3_extend_87 (fun v w1 H1 L1 hp hW hzz hkk hdd => ?_)
        obtain ⟨rfl, rfl⟩ := hp
        clear hzz hkk hdd
        generalize H1 = H at hW  ⊢
        generalize L1 = locs at hW ⊢
        have hW : Wd Z A s.heap ([eo nv 2 [.ref q, .int (nI 0)]] ++ (cw Z hc x ++ ([ea Z q (wd i + b9) f2] ++ bl Z hb0 hk hc hm wg mo n o))) _ _ := hW
        refine W.eq (g2 := F0 m 90 ls [.ref nv, .ref hb0]) rfl ?_
        have hW : Wd Z A s.heap (cw Z hc x ++ [ea Z q (wd i + b9) f2] ++ ([eo nv 2 [.ref q, .int (nI 0)]] ++ (bl Z hb0 hk hc hm wg mo n o))) _ _ := Wd.rot (w1 := [eo nv 2 [.ref q, .int (nI 0)]]) (wc := cw Z hc x ++ [ea Z q (wd i + b9) f2]) (wr := bl Z hb0 hk hc hm wg mo n o) hW
        have hW : Wd Z A s.heap (cw Z hc x ++ ([ea Z q (wd i + b9) f2, eo nv 2 [.ref q, .int (nI 0)]] ++ bl Z hb0 hk hc hm wg mo n o)) _ _ := hW
        refine lv_iload hx hb dX3_extend_90 (lv_at hl 1 rfl) ?_
        have hW : Wd Z A s.heap (bl Z hb0 hk hc hm wg mo n o ++ (cw Z hc x ++ [ea Z q (wd i + b9) f2, eo nv 2 [.ref q, .int (nI 0)]])) _ _ := Wd.swap2 (w1 := cw Z hc x ++ [ea Z q (wd i + b9) f2, eo nv 2 [.ref q, .int (nI 0)]]) (wc := bl Z hb0 hk hc hm wg mo n o) hW
        refine c_virt (As := [.ref nv, .int (nI ((wd i) + b9))]) (rest := []) (wc := bl Z hb0 hk hc hm wg mo n o) (wr := cw Z hc x ++ [ea Z q (wd i + b9) f2, eo nv 2 [.ref q, .int (nI 0)]]) (nl := 0) hx hb hml hown hts hK hG rfl hA hl (k_keep l Z hb0 hk hc hm mo n wg (wd i + b9) nv o vd hbok.2.1 hbok.2.2.2.2.1 hroom) hW ⟨⟨_, RO.loc hW 6 rfl⟩, fun i hi => ⟨_, RO.pass (hro.2 i hi).1 hAe hW⟩⟩ (hW.at 0 rfl) rfl rfl tb_261 tb_263 ts_2 tb_1 tb_264 (nA := 2) (by decide +kernel) rfl ⟨by omega, by omega⟩ ⟨by omega, by omega⟩ rfl (Nat.le_of_ble_eq_true rfl) dX3_extend_92 (fun v w1 H1 L1 hp hW hzz hkk hdd => ?_)
        obtain ⟨o2, rfl, rfl, hadd⟩ := hp
        clear hzz hkk hdd
        generalize H1 = H at hW  ⊢
        generalize L1 = locs at hW ⊢
        have hW : Wd Z A s.heap (bl Z hb0 hk hc hm (wg + (wd i + b9)) (mo + nI 1) (n + 1) o2 ++ (cw Z hc x ++ [ea Z q (wd i + b9) f2, eo nv 2 [.ref q, .int (nI 0)]])) _ _ := hW
        refine W.eq (g2 := F0 m 95 ls [.int (nI n)]) rfl ?_
        have hW : Wd Z A s.heap (cw Z hc x ++ [ea Z q (wd i + b9) f2, eo nv 2 [.ref q, .int (nI 0)]] ++ bl Z hb0 hk hc hm (wg + (wd i + b9)) (mo + nI 1) (n + 1) o2) _ _ := Wd.swap2 (w1 := bl Z hb0 hk hc hm (wg + (wd i + b9)) (mo + nI 1) (n + 1) o2) (wc := cw Z hc x ++ [ea Z q (wd i + b9) f2, eo nv 2 [.ref q, .int (nI 0)]]) hW
        have hW : Wd Z A s.heap (cw Z hc x ++ [eo nv 2 [.ref q, .int (nI 0)], ea Z q (wd i + b9) f2] ++ bl Z hb0 hk hc hm (wg + (wd i + b9)) (mo + nI 1) (n + 1) o2) _ _ := Wd.subL (w1 := cw Z hc x ++ [ea Z q (wd i + b9) f2, eo nv 2 [.ref q, .int (nI 0)]]) (w2 := cw Z hc x ++ [eo nv 2 [.ref q, .int (nI 0)], ea Z q (wd i + b9) f2]) (wl := bl Z hb0 hk hc hm (wg + (wd i + b9)) (mo + nI 1) (n + 1) o2) hW [0, 1, 2, 3, 4, 6, 5] (by decide) rfl
        refine vx_ret (e_int hx hb hr hlk hAe hW (by omega) (by omega) dX3_extend_95 ?_)
        have hv : ∀ j, j < wd i + b9 → f2 j = if j < wd i then rw i j else if sg = 0 then 0 else rw i (wd i - 1) := fun j hj => by
          rw [hf2 j]
          by_cases q : j < wd i
          · rw [if_neg (by omega), if_pos q, hf j hj, if_pos q]
          · rw [if_pos (by omega), if_neg q, if_pos hs0]
        have hx2 := hbok.1.1
        refine ⟨i, b9, ⟨hi, ei, rfl, by omega⟩, hroom, x, nv, q, f2, o2, rfl, rfl, hx1, fun j hj => ?_, hadd, rfl, hv⟩
        rw [hv j hj]
        by_cases q : j < wd i
        · rw [if_pos q]; exact w4_i j q
        · rw [if_neg q, if_pos hs0]; omega
      · refine n_zeq_f (tgt := 75) hx hb (by omega) (by omega) dX3_extend_61 (by decide) ?_
        refine lv_aload hx hb dX3_extend_64 (lv_at hl 2 rfl) ?_
        refine lv_aload hx hb dX3_extend_66 (lv_at hl 2 rfl) ?_
        refine r_len hx hb hK (hro.here hAe hW hi).2 dX3_extend_68 ?_
        refine lv_iconst (v := nI 1) hx hb dX3_extend_69 (by decide) ?_
        refine n_isub hx hb (by omega) dX3_extend_70 ?_
        refine r_ald (i := ((wd i) - 1)) hx hb hK (hro.here hAe hW hi).2 (by omega) (by omega) dX3_extend_71 ?_
        refine lv_goto (tgt := 76) hx hb dX3_extend_72 (by decide) ?_
        refine c_stat (As := [.ref q, .int (nI (wd i)), .int (nI ((wd i) + b9)), .int (nI ((rw i) ((wd i) - 1)))]) (rest := []) (wc := [ea Z q (wd i + b9) f]) (wr := cw Z hc x ++ bl Z hb0 hk hc hm wg mo n o) hx hb hml hown hts hK hG rfl hA hl (k_fill l Z q (wd i + b9) (wd i) (wd i + b9) (rw i (wd i - 1)) f (by omega) (Nat.le_refl _) (by omega)) hW trivial tb_728 tb_729 tb_13 tb_730 (nA := 4) (by decide +kernel) rfl ⟨by omega, by omega⟩ ⟨by omega, by omega⟩ rfl (Nat.le_of_ble_eq_true rfl) dX3_extend_76 (fun v w1 H1 L1 hp hW hzz hkk hdd => ?_)
        obtain ⟨f2, rfl, rfl, hf2⟩ := hp
        clear hzz hkk hdd
        generalize H1 = H at hW  ⊢
        generalize L1 = locs at hW ⊢
        have hW : Wd Z A s.heap ([ea Z q (wd i + b9) f2] ++ (cw Z hc x ++ bl Z hb0 hk hc hm wg mo n o)) _ _ := hW
        refine W.eq (g2 := F0 m 79 ls []) rfl ?_
        have hW : Wd Z A s.heap (cw Z hc x ++ ([ea Z q (wd i + b9) f2] ++ bl Z hb0 hk hc hm wg mo n o)) _ _ := Wd.rot (w1 := [ea Z q (wd i + b9) f2]) (wc := cw Z hc x) (wr := bl Z hb0 hk hc hm wg mo n o) hW
        refine lv_aload_n hx hb dX3_extend_79 rfl (lv_at hl 3 rfl) ?_
        refine r_new (fs := [.null, .int 0]) hx hb hts hown hK hW hA (ci := 2) rfl in_X2 tyX2 tyX2_ok tb_246 tb_247 tb_16 (fun j hj => by rcases (show j = 0 ∨ j = 1 by omega) with rfl | rfl <;> rfl) (by omega) (by omega) dX3_extend_80 (fun nv H hW => ?_)
        have hW : Wd Z A s.heap (cw Z hc x ++ ([ea Z q (wd i + b9) f2] ++ (bl Z hb0 hk hc hm wg mo n o ++ [eo nv 2 [.null, .int 0]]))) _ _ := hW
        have hW : Wd Z A s.heap (cw Z hc x ++ ([ea Z q (wd i + b9) f2, eo nv 2 [.null, .int 0]] ++ bl Z hb0 hk hc hm wg mo n o)) _ _ := Wd.swapR (w1 := cw Z hc x ++ [ea Z q (wd i + b9) f2]) (wl := bl Z hb0 hk hc hm wg mo n o) (we := [eo nv 2 [.null, .int 0]]) hW
        refine lv_dup hx hb dX3_extend_83 rfl ?_
        refine lv_aload hx hb dX3_extend_84 (lv_at hl 0 rfl) ?_
        refine lv_iconst (v := nI 0) hx hb dX3_extend_86 (by decide) ?_
        have hW : Wd Z A s.heap ([eo nv 2 [.null, .int 0]] ++ (cw Z hc x ++ [ea Z q (wd i + b9) f2] ++ (bl Z hb0 hk hc hm wg mo n o))) _ _ := Wd.rot (w1 := cw Z hc x ++ [ea Z q (wd i + b9) f2]) (wc := [eo nv 2 [.null, .int 0]]) (wr := bl Z hb0 hk hc hm wg mo n o) hW
        refine c_spec (b := nv) (As := [.ref q, .int (nI 0)]) (rest := [.ref nv, .ref hb0]) (wc := [eo nv 2 [.null, .int 0]]) (wr := cw Z hc x ++ ([ea Z q (wd i + b9) f2] ++ bl Z hb0 hk hc hm wg mo n o)) hx hb hml hown hts hK hG rfl hA hl (k_Vector l Z nv q 0 (by decide)) hW trivial tb_248 tb_249 tb_16 tb_250 rfl (nA := 2) (by decide +kernel) rfl ⟨by omega, by omega⟩ ⟨by omega, by omega⟩ rfl (Nat.le_of_ble_eq_true rfl) dX3_extend_87 (fun v w1 H1 L1 hp hW hzz hkk hdd => ?_)
        obtain ⟨rfl, rfl⟩ := hp
        clear hzz hkk hdd
        generalize H1 = H at hW  ⊢
        generalize L1 = locs at hW ⊢
        have hW : Wd Z A s.heap ([eo nv 2 [.ref q, .int (nI 0)]] ++ (cw Z hc x ++ ([ea Z q (wd i + b9) f2] ++ bl Z hb0 hk hc hm wg mo n o))) _ _ := hW
        refine W.eq (g2 := F0 m 90 ls [.ref nv, .ref hb0]) rfl ?_
        have hW : Wd Z A s.heap (cw Z hc x ++ [ea Z q (wd i + b9) f2] ++ ([eo nv 2 [.ref q, .int (nI 0)]] ++ (bl Z hb0 hk hc hm wg mo n o))) _ _ := Wd.rot (w1 := [eo nv 2 [.ref q, .int (nI 0)]]) (wc := cw Z hc x ++ [ea Z q (wd i + b9) f2]) (wr := bl Z hb0 hk hc hm wg mo n o) hW
        have hW : Wd Z A s.heap (cw Z hc x ++ ([ea Z q (wd i + b9) f2, eo nv 2 [.ref q, .int (nI 0)]] ++ bl Z hb0 hk hc hm wg mo n o)) _ _ := hW
        refine lv_iload hx hb dX3_extend_90 (lv_at hl 1 rfl) ?_
        have hW : Wd Z A s.heap (bl Z hb0 hk hc hm wg mo n o ++ (cw Z hc x ++ [ea Z q (wd i + b9) f2, eo nv 2 [.ref q, .int (nI 0)]])) _ _ := Wd.swap2 (w1 := cw Z hc x ++ [ea Z q (wd i + b9) f2, eo nv 2 [.ref q, .int (nI 0)]]) (wc := bl Z hb0 hk hc hm wg mo n o) hW
        refine c_virt (As := [.ref nv, .int (nI ((wd i) + b9))]) (rest := []) (wc := bl Z hb0 hk hc hm wg mo n o) (wr := cw Z hc x ++ [ea Z q (wd i + b9) f2, eo nv 2 [.ref q, .int (nI 0)]]) (nl := 0) hx hb hml hown hts hK hG rfl hA hl (k_keep l Z hb0 hk hc hm mo n wg (wd i + b9) nv o vd hbok.2.1 hbok.2.2.2.2.1 hroom) hW ⟨⟨_, RO.loc hW 6 rfl⟩, fun i hi => ⟨_, RO.pass (hro.2 i hi).1 hAe hW⟩⟩ (hW.at 0 rfl) rfl rfl tb_261 tb_263 ts_2 tb_1 tb_264 (nA := 2) (by decide +kernel) rfl ⟨by omega, by omega⟩ ⟨by omega, by omega⟩ rfl (Nat.le_of_ble_eq_true rfl) dX3_extend_92 (fun v w1 H1 L1 hp hW hzz hkk hdd => ?_)
        obtain ⟨o2, rfl, rfl, hadd⟩ := hp
        clear hzz hkk hdd
        generalize H1 = H at hW  ⊢
        generalize L1 = locs at hW ⊢
        have hW : Wd Z A s.heap (bl Z hb0 hk hc hm (wg + (wd i + b9)) (mo + nI 1) (n + 1) o2 ++ (cw Z hc x ++ [ea Z q (wd i + b9) f2, eo nv 2 [.ref q, .int (nI 0)]])) _ _ := hW
        refine W.eq (g2 := F0 m 95 ls [.int (nI n)]) rfl ?_
        have hW : Wd Z A s.heap (cw Z hc x ++ [ea Z q (wd i + b9) f2, eo nv 2 [.ref q, .int (nI 0)]] ++ bl Z hb0 hk hc hm (wg + (wd i + b9)) (mo + nI 1) (n + 1) o2) _ _ := Wd.swap2 (w1 := bl Z hb0 hk hc hm (wg + (wd i + b9)) (mo + nI 1) (n + 1) o2) (wc := cw Z hc x ++ [ea Z q (wd i + b9) f2, eo nv 2 [.ref q, .int (nI 0)]]) hW
        have hW : Wd Z A s.heap (cw Z hc x ++ [eo nv 2 [.ref q, .int (nI 0)], ea Z q (wd i + b9) f2] ++ bl Z hb0 hk hc hm (wg + (wd i + b9)) (mo + nI 1) (n + 1) o2) _ _ := Wd.subL (w1 := cw Z hc x ++ [ea Z q (wd i + b9) f2, eo nv 2 [.ref q, .int (nI 0)]]) (w2 := cw Z hc x ++ [eo nv 2 [.ref q, .int (nI 0)], ea Z q (wd i + b9) f2]) (wl := bl Z hb0 hk hc hm (wg + (wd i + b9)) (mo + nI 1) (n + 1) o2) hW [0, 1, 2, 3, 4, 6, 5] (by decide) rfl
        refine vx_ret (e_int hx hb hr hlk hAe hW (by omega) (by omega) dX3_extend_95 ?_)
        have hv : ∀ j, j < wd i + b9 → f2 j = if j < wd i then rw i j else if sg = 0 then 0 else rw i (wd i - 1) := fun j hj => by
          rw [hf2 j]
          by_cases q : j < wd i
          · rw [if_neg (by omega), if_pos q, hf j hj, if_pos q]
          · rw [if_pos (by omega), if_neg q, if_neg hs0]
        have hx2 := hbok.1.1
        refine ⟨i, b9, ⟨hi, ei, rfl, by omega⟩, hroom, x, nv, q, f2, o2, rfl, rfl, hx1, fun j hj => ?_, hadd, rfl, hv⟩
        rw [hv j hj]
        by_cases q : j < wd i
        · rw [if_pos q]; exact w4_i j q
        · rw [if_neg q, if_neg hs0]; exact w4_i _ (by omega)
    · exact th_IAE hx hb hst hown hts hG hW hml hl hex hlk (is := 118) (text := "it can't be wider by so many bits") (by decide) dX3_extend_21 dX3_extend_24 dX3_extend_25 dX3_extend_27 dX3_extend_30 (by omega) (by rw [hRl]; exact Nat.le_of_ble_eq_true rfl) (by omega) (by omega) (Or.inl ⟨rfl, fun ⟨a, b, z1, z2, z3, z4⟩ => by have := inj i a hi z1 (ei.symm.trans z2); subst this; rw [z3, i_toInt (by omega)] at q2; omega⟩) hsm (by omega) (by omega)
set_option maxHeartbeats 4000000 in
set_option maxRecDepth 100000 in
/-- VectorBench.concat -/
theorem k_concat (l : Launch) (hst : l.stackTraces = false) (Z : Zt) (hb0 hk hc hm : Nat) (x : CS) (σ : Nat → Bool) (mo : Int32) (n wg : Nat) (o : Option (Nat × Nat × (Nat → Option Nat))) (vd vb stb wd : Nat → Nat) (rw : Nat → Nat → Nat) (xa xb : Int32) (hbok : bok x σ n wg o vd stb wd rw) : MX l yX3_concat cX3_concat 7 (some .int) 11 600 (10) (1100) Z (cw Z hc x ++ bl Z hb0 hk hc hm wg mo n o) (fun H => BRO Z (cw Z hc x ++ bl Z hb0 hk hc hm wg mo n o) hk hc n vd vb stb wd rw H) [.ref hb0, .int xa, .int xb] (fun r w1 => ∃ i j, (i < n ∧ j < n ∧ xa = nI i ∧ xb = nI j ∧ wd i + wd j ≤ 64) ∧ wd i + wd j + wg ≤ 100000 ∧ newQ Z hb0 hk hc hm x σ mo n wg vd (wd i + wd j) (0) (wd i + wd j) 0 (fun y f => y = x ∧ ∀ z, z < wd i + wd j → f z = if z < wd j then rw j z else rw i (z - wd j)) r w1) (fun E => (E = IAE ∧ ¬ ∃ i j, i < n ∧ j < n ∧ xa = nI i ∧ xb = nI j ∧ wd i + wd j ≤ 64) ∨ (E = ISE ∧ ∃ i j, (i < n ∧ j < n ∧ xa = nI i ∧ xb = nI j ∧ wd i + wd j ≤ 64) ∧ ¬ wd i + wd j + wg ≤ 100000)) := by
  refine mx_of (by decide) (Nat.le_of_ble_eq_true rfl) (fun p e s m below meth c ls A hx hb hr hts hown hlk hml hex hK hG hW hA hAe hro hl R hRf hRc hRs hRl => ?_)
  have hl : lv_has ls 7 [(0, .ref hb0), (1, .int xa), (2, .int xb)] := hl
  have hsm : ∀ q : Nat, q < s.heap.size → s.heap[q]? = s.heap[q]? := fun _ _ => rfl
  refine lv_aload_n hx hb dX3_concat_0 rfl (lv_at hl 0 rfl) ?_
  refine lv_iload_n hx hb dX3_concat_1 rfl (lv_at hl 1 rfl) ?_
  have hsz0 := hW.2.2.1
  refine x_virt (As := [.int xa]) (rest := []) (wc := []) (wr := cw Z hc x ++ bl Z hb0 hk hc hm wg mo n o) hx hb hml hown hts hK hG rfl hA hl (k_bitsOf l hst Z hb0 hk hc hm mo n wg o vd vb stb xa hbok.2.1) hW ⟨hW.at 5 rfl, suf_P (wc := cw Z hc x ++ [bo hb0 hk hc hm wg]) hW.1, fun i hi => (hro.here hAe hW hi).1⟩ (hW.at 5 rfl) rfl rfl tb_337 tb_339 ts_6 tb_1 tb_340 (nA := 1) (by decide +kernel) rfl ⟨by omega, by omega⟩ ⟨by omega, by omega⟩ rfl (Nat.le_of_ble_eq_true rfl) dX3_concat_2 (fun E q9 ce H9 L9 hpx hWx hzx hkx hce hcv hcl => x_pass hex hlk (Or.inl ⟨hpx.1, fun ⟨i, j, z⟩ => hpx.2 ⟨i, z.1, z.2.2.1⟩⟩) (Nat.le_trans hsz0 hzx) (fun q hq => (hkx q (Nat.lt_of_lt_of_le hq hsz0)).trans (hsm q hq)) hce hcv hcl hWx.2.2.2.2 (by omega) (by omega)) (fun v w1 H1 L1 hp hW hzz hkk hdd => ?_)
  obtain ⟨rfl, i, hi, ei, rfl⟩ := hp
  have hsm := sm_step hsz0 hkk hsm
  clear hzz hkk hdd
  generalize H1 = H at hW hsm ⊢
  generalize L1 = locs at hW ⊢
  have hW : Wd Z A s.heap (cw Z hc x ++ bl Z hb0 hk hc hm wg mo n o) _ _ := hW
  refine W.eq (g2 := F0 m 5 ls [.ref (vb i)]) rfl ?_
  obtain ⟨w1_i, w2_i, w3_i, w4_i⟩ := hbok.2.2.2.2.2 i hi
  refine lv_astore_n (lv' := [(3, .ref (vb i)), (0, .ref hb0), (1, .int xa), (2, .int xb)]) hx hb dX3_concat_5 rfl hl (by decide) rfl (fun ls hl => ?_)
  refine lv_aload_n hx hb dX3_concat_6 rfl (lv_at hl 1 rfl) ?_
  refine lv_iload_n hx hb dX3_concat_7 rfl (lv_at hl 3 rfl) ?_
  have hsz0 := hW.2.2.1
  refine x_virt (As := [.int xb]) (rest := []) (wc := []) (wr := cw Z hc x ++ bl Z hb0 hk hc hm wg mo n o) hx hb hml hown hts hK hG rfl hA hl (k_bitsOf l hst Z hb0 hk hc hm mo n wg o vd vb stb xb hbok.2.1) hW ⟨hW.at 5 rfl, suf_P (wc := cw Z hc x ++ [bo hb0 hk hc hm wg]) hW.1, fun i hi => (hro.here hAe hW hi).1⟩ (hW.at 5 rfl) rfl rfl tb_337 tb_339 ts_6 tb_1 tb_340 (nA := 1) (by decide +kernel) rfl ⟨by omega, by omega⟩ ⟨by omega, by omega⟩ rfl (Nat.le_of_ble_eq_true rfl) dX3_concat_8 (fun E q9 ce H9 L9 hpx hWx hzx hkx hce hcv hcl => x_pass hex hlk (Or.inl ⟨hpx.1, fun ⟨i, j, z⟩ => hpx.2 ⟨j, z.2.1, z.2.2.2.1⟩⟩) (Nat.le_trans hsz0 hzx) (fun q hq => (hkx q (Nat.lt_of_lt_of_le hq hsz0)).trans (hsm q hq)) hce hcv hcl hWx.2.2.2.2 (by omega) (by omega)) (fun v w1 H1 L1 hp hW hzz hkk hdd => ?_)
  obtain ⟨rfl, j, hj, ej, rfl⟩ := hp
  have hsm := sm_step hsz0 hkk hsm
  clear hzz hkk hdd
  generalize H1 = H at hW hsm ⊢
  generalize L1 = locs at hW ⊢
  have hW : Wd Z A s.heap (cw Z hc x ++ bl Z hb0 hk hc hm wg mo n o) _ _ := hW
  refine W.eq (g2 := F0 m 11 ls [.ref (vb j)]) rfl ?_
  obtain ⟨w1_j, w2_j, w3_j, w4_j⟩ := hbok.2.2.2.2.2 j hj
  have hn5 := hbok.2.2.2.2.1
  have inj : ∀ a b : Nat, a < n → b < n → nI a = nI b → a = b := fun a b ha hb h => (nI_eq (by omega) (by omega)).mp h
  have hxn := hbok.2.2.2.1
  have hwb := hbok.2.2.1
  have hx1 := stp.rf hbok.1
  refine lv_astore (lv' := [(4, .ref (vb j)), (3, .ref (vb i)), (0, .ref hb0), (1, .int xa), (2, .int xb)]) hx hb dX3_concat_11 hl (by decide) rfl (fun ls hl => ?_)
  refine lv_aload_n hx hb dX3_concat_13 rfl (lv_at hl 1 rfl) ?_
  refine r_len hx hb hK (hro.here hAe hW hi).2 dX3_concat_14 ?_
  refine lv_aload hx hb dX3_concat_15 (lv_at hl 0 rfl) ?_
  refine r_len hx hb hK (hro.here hAe hW hj).2 dX3_concat_17 ?_
  refine n_iadd hx hb dX3_concat_18 ?_
  refine lv_istore (lv' := [(5, .int (nI ((wd i) + (wd j)))), (4, .ref (vb j)), (3, .ref (vb i)), (0, .ref hb0), (1, .int xa), (2, .int xb)]) hx hb dX3_concat_19 hl (by decide) rfl (fun ls hl => ?_)
  refine lv_iload hx hb dX3_concat_21 (lv_at hl 0 rfl) ?_
  have hsz0 := hW.2.2.1
  refine x_stat (As := [.int (nI ((wd i) + (wd j)))]) (rest := []) (wc := []) (wr := cw Z hc x ++ bl Z hb0 hk hc hm wg mo n o) hx hb hml hown hts hK hG rfl hA hl (k_needWidth l hst Z (nI (wd i + wd j))) hW trivial tb_131 tb_132 tb_1 tb_133 (nA := 1) (by decide +kernel) rfl ⟨by omega, by omega⟩ ⟨by omega, by omega⟩ rfl (Nat.le_of_ble_eq_true rfl) dX3_concat_23 (fun E q9 ce H9 L9 hpx hWx hzx hkx hce hcv hcl => x_pass hex hlk (Or.inl ⟨hpx.1, fun ⟨a, b, z1, z2, z3, z4, z5⟩ => hpx.2 ⟨wd i + wd j, by omega, by rw [inj i a hi z1 (ei.symm.trans z3), inj j b hj z2 (ej.symm.trans z4)]; exact z5, rfl⟩⟩) (Nat.le_trans hsz0 hzx) (fun q hq => (hkx q (Nat.lt_of_lt_of_le hq hsz0)).trans (hsm q hq)) hce hcv hcl hWx.2.2.2.2 (by omega) (by omega)) (fun v w1 H1 L1 hp hW hzz hkk hdd => ?_)
  obtain ⟨rfl, rfl, hwid⟩ := hp
  have hsm := sm_step hsz0 hkk hsm
  clear hzz hkk hdd
  generalize H1 = H at hW hsm ⊢
  generalize L1 = locs at hW ⊢
  have hW : Wd Z A s.heap (cw Z hc x ++ bl Z hb0 hk hc hm wg mo n o) _ _ := hW
  refine W.eq (g2 := F0 m 26 ls []) rfl ?_
  have hw64 : wd i + wd j ≤ 64 := by rw [wid_iff, i_toInt (by omega)] at hwid; omega
  refine lv_aload_n hx hb dX3_concat_26 rfl (lv_at hl 3 rfl) ?_
  refine lv_iload hx hb dX3_concat_27 (lv_at hl 0 rfl) ?_
  have hsz0 := hW.2.2.1
  refine x_virt (As := [.int (nI ((wd i) + (wd j)))]) (rest := []) (wc := []) (wr := cw Z hc x ++ bl Z hb0 hk hc hm wg mo n o) hx hb hml hown hts hK hG rfl hA hl (k_needRoom l hst Z hb0 hk hc hm mo (lsq Z o) n wg (wd i + wd j) hbok.2.2.1 (by omega) (by have := hbok.2.2.2.2.1; omega)) hW ⟨hW.at 5 rfl, hW.at 6 rfl⟩ (hW.at 5 rfl) rfl rfl tb_201 tb_203 ts_1 tb_1 tb_204 (nA := 1) (by decide +kernel) rfl ⟨by omega, by omega⟩ ⟨by omega, by omega⟩ rfl (Nat.le_of_ble_eq_true rfl) dX3_concat_29 (fun E q9 ce H9 L9 hpx hWx hzx hkx hce hcv hcl => x_pass hex hlk (Or.inr ⟨hpx.1, i, j, ⟨hi, hj, ei, ej, hw64⟩, hpx.2⟩) (Nat.le_trans hsz0 hzx) (fun q hq => (hkx q (Nat.lt_of_lt_of_le hq hsz0)).trans (hsm q hq)) hce hcv hcl hWx.2.2.2.2 (by omega) (by omega)) (fun v w1 H1 L1 hp hW hzz hkk hdd => ?_)
  obtain ⟨rfl, rfl, hroom⟩ := hp
  have hsm := sm_step hsz0 hkk hsm
  clear hzz hkk hdd
  generalize H1 = H at hW hsm ⊢
  generalize L1 = locs at hW ⊢
  have hW : Wd Z A s.heap (cw Z hc x ++ bl Z hb0 hk hc hm wg mo n o) _ _ := hW
  refine W.eq (g2 := F0 m 32 ls []) rfl ?_
  refine lv_aload hx hb dX3_concat_32 (lv_at hl 1 rfl) ?_
  refine lv_iload hx hb dX3_concat_34 (lv_at hl 0 rfl) ?_
  refine c_stat (As := [.ref (vb j), .int (nI ((wd i) + (wd j)))]) (rest := []) (wc := []) (wr := cw Z hc x ++ bl Z hb0 hk hc hm wg mo n o) hx hb hml hown hts hK hG rfl hA hl (k_copyOf l Z (vb j) (wd j) (wd i + wd j) (rw j) (by omega) (by omega)) hW (hro.here hAe hW hj).2 tb_709 tb_231 tb_13 tb_232 (nA := 2) (by decide +kernel) rfl ⟨by omega, by omega⟩ ⟨by omega, by omega⟩ rfl (Nat.le_of_ble_eq_true rfl) dX3_concat_36 (fun v w1 H1 L1 hp hW hzz hkk hdd => ?_)
  obtain ⟨q, f, rfl, rfl, hf⟩ := hp
  clear hzz hkk hdd
  generalize H1 = H at hW  ⊢
  generalize L1 = locs at hW ⊢
  have hW : Wd Z A s.heap ([ea Z q (wd i + wd j) f] ++ (cw Z hc x ++ bl Z hb0 hk hc hm wg mo n o)) _ _ := hW
  refine W.eq (g2 := F0 m 39 ls [.ref q]) rfl ?_
  refine lv_astore (lv' := [(6, .ref q), (5, .int (nI ((wd i) + (wd j)))), (4, .ref (vb j)), (3, .ref (vb i)), (0, .ref hb0), (1, .int xa), (2, .int xb)]) hx hb dX3_concat_39 hl (by decide) rfl (fun ls hl => ?_)
  refine lv_aload_n hx hb dX3_concat_41 rfl (lv_at hl 3 rfl) ?_
  refine lv_iconst (v := nI 0) hx hb dX3_concat_42 (by decide) ?_
  refine lv_aload hx hb dX3_concat_43 (lv_at hl 0 rfl) ?_
  refine lv_aload hx hb dX3_concat_45 (lv_at hl 2 rfl) ?_
  refine r_len hx hb hK (hro.here hAe hW hj).2 dX3_concat_47 ?_
  refine lv_aload_n hx hb dX3_concat_48 rfl (lv_at hl 3 rfl) ?_
  refine r_len hx hb hK (hro.here hAe hW hi).2 dX3_concat_49 ?_
  refine r_copy hx hb hml hl hown hts hK hW tb_710 (f := rw i) (n0 := wd i) (sp := 0) (dp := wd j) (n := wd i) (hro.here hAe hW hi).2 0 rfl (by omega) (by omega) (by omega) (by omega) (by omega) (by rw [hRl]; exact Nat.le_of_ble_eq_true rfl) dX3_concat_50 (fun H locs hW => ?_)
  have hW : Wd Z A s.heap ([ea Z q (wd i + wd j) (va_cpy (rw i) f 0 (wd j) (wd i))] ++ (cw Z hc x ++ bl Z hb0 hk hc hm wg mo n o)) _ _ := hW
  have hW : Wd Z A s.heap (cw Z hc x ++ ([ea Z q (wd i + wd j) (va_cpy (rw i) f 0 (wd j) (wd i))] ++ bl Z hb0 hk hc hm wg mo n o)) _ _ := Wd.rot (w1 := [ea Z q (wd i + wd j) (va_cpy (rw i) f 0 (wd j) (wd i))]) (wc := cw Z hc x) (wr := bl Z hb0 hk hc hm wg mo n o) hW
  refine lv_aload_n hx hb dX3_concat_53 rfl (lv_at hl 4 rfl) ?_
  refine r_new (fs := [.null, .int 0]) hx hb hts hown hK hW hA (ci := 2) rfl in_X2 tyX2 tyX2_ok tb_246 tb_247 tb_16 (fun j hj => by rcases (show j = 0 ∨ j = 1 by omega) with rfl | rfl <;> rfl) (by omega) (by omega) dX3_concat_54 (fun nv H hW => ?_)
  have hW : Wd Z A s.heap (cw Z hc x ++ ([ea Z q (wd i + wd j) (va_cpy (rw i) f 0 (wd j) (wd i))] ++ (bl Z hb0 hk hc hm wg mo n o ++ [eo nv 2 [.null, .int 0]]))) _ _ := hW
  have hW : Wd Z A s.heap (cw Z hc x ++ ([ea Z q (wd i + wd j) (va_cpy (rw i) f 0 (wd j) (wd i)), eo nv 2 [.null, .int 0]] ++ bl Z hb0 hk hc hm wg mo n o)) _ _ := Wd.swapR (w1 := cw Z hc x ++ [ea Z q (wd i + wd j) (va_cpy (rw i) f 0 (wd j) (wd i))]) (wl := bl Z hb0 hk hc hm wg mo n o) (we := [eo nv 2 [.null, .int 0]]) hW
  refine lv_dup hx hb dX3_concat_57 rfl ?_
  refine lv_aload hx hb dX3_concat_58 (lv_at hl 0 rfl) ?_
  refine lv_iconst (v := nI 0) hx hb dX3_concat_60 (by decide) ?_
  have hW : Wd Z A s.heap ([eo nv 2 [.null, .int 0]] ++ (cw Z hc x ++ [ea Z q (wd i + wd j) (va_cpy (rw i) f 0 (wd j) (wd i))] ++ (bl Z hb0 hk hc hm wg mo n o))) _ _ := Wd.rot (w1 := cw Z hc x ++ [ea Z q (wd i + wd j) (va_cpy (rw i) f 0 (wd j) (wd i))]) (wc := [eo nv 2 [.null, .int 0]]) (wr := bl Z hb0 hk hc hm wg mo n o) hW
  refine c_spec (b := nv) (As := [.ref q, .int (nI 0)]) (rest := [.ref nv, .ref hb0]) (wc := [eo nv 2 [.null, .int 0]]) (wr := cw Z hc x ++ ([ea Z q (wd i + wd j) (va_cpy (rw i) f 0 (wd j) (wd i))] ++ bl Z hb0 hk hc hm wg mo n o)) hx hb hml hown hts hK hG rfl hA hl (k_Vector l Z nv q 0 (by decide)) hW trivial tb_248 tb_249 tb_16 tb_250 rfl (nA := 2) (by decide +kernel) rfl ⟨by omega, by omega⟩ ⟨by omega, by omega⟩ rfl (Nat.le_of_ble_eq_true rfl) dX3_concat_61 (fun v w1 H1 L1 hp hW hzz hkk hdd => ?_)
  obtain ⟨rfl, rfl⟩ := hp
  clear hzz hkk hdd
  generalize H1 = H at hW  ⊢
  generalize L1 = locs at hW ⊢
  have hW : Wd Z A s.heap ([eo nv 2 [.ref q, .int (nI 0)]] ++ (cw Z hc x ++ ([ea Z q (wd i + wd j) (va_cpy (rw i) f 0 (wd j) (wd i))] ++ bl Z hb0 hk hc hm wg mo n o))) _ _ := hW
  refine W.eq (g2 := F0 m 64 ls [.ref nv, .ref hb0]) rfl ?_
  have hW : Wd Z A s.heap (cw Z hc x ++ [ea Z q (wd i + wd j) (va_cpy (rw i) f 0 (wd j) (wd i))] ++ ([eo nv 2 [.ref q, .int (nI 0)]] ++ (bl Z hb0 hk hc hm wg mo n o))) _ _ := Wd.rot (w1 := [eo nv 2 [.ref q, .int (nI 0)]]) (wc := cw Z hc x ++ [ea Z q (wd i + wd j) (va_cpy (rw i) f 0 (wd j) (wd i))]) (wr := bl Z hb0 hk hc hm wg mo n o) hW
  have hW : Wd Z A s.heap (cw Z hc x ++ ([ea Z q (wd i + wd j) (va_cpy (rw i) f 0 (wd j) (wd i)), eo nv 2 [.ref q, .int (nI 0)]] ++ bl Z hb0 hk hc hm wg mo n o)) _ _ := hW
  refine lv_iload hx hb dX3_concat_64 (lv_at hl 1 rfl) ?_
  have hW : Wd Z A s.heap (bl Z hb0 hk hc hm wg mo n o ++ (cw Z hc x ++ [ea Z q (wd i + wd j) (va_cpy (rw i) f 0 (wd j) (wd i)), eo nv 2 [.ref q, .int (nI 0)]])) _ _ := Wd.swap2 (w1 := cw Z hc x ++ [ea Z q (wd i + wd j) (va_cpy (rw i) f 0 (wd j) (wd i)), eo nv 2 [.ref q, .int (nI 0)]]) (wc := bl Z hb0 hk hc hm wg mo n o) hW
  refine c_virt (As := [.ref nv, .int (nI ((wd i) + (wd j)))]) (rest := []) (wc := bl Z hb0 hk hc hm wg mo n o) (wr := cw Z hc x ++ [ea Z q (wd i + wd j) (va_cpy (rw i) f 0 (wd j) (wd i)), eo nv 2 [.ref q, .int (nI 0)]]) (nl := 0) hx hb hml hown hts hK hG rfl hA hl (k_keep l Z hb0 hk hc hm mo n wg (wd i + wd j) nv o vd hbok.2.1 hbok.2.2.2.2.1 hroom) hW ⟨⟨_, RO.loc hW 6 rfl⟩, fun i hi => ⟨_, RO.pass (hro.2 i hi).1 hAe hW⟩⟩ (hW.at 0 rfl) rfl rfl tb_261 tb_263 ts_2 tb_1 tb_264 (nA := 2) (by decide +kernel) rfl ⟨by omega, by omega⟩ ⟨by omega, by omega⟩ rfl (Nat.le_of_ble_eq_true rfl) dX3_concat_66 (fun v w1 H1 L1 hp hW hzz hkk hdd => ?_)
  obtain ⟨o2, rfl, rfl, hadd⟩ := hp
  clear hzz hkk hdd
  generalize H1 = H at hW  ⊢
  generalize L1 = locs at hW ⊢
  have hW : Wd Z A s.heap (bl Z hb0 hk hc hm (wg + (wd i + wd j)) (mo + nI 1) (n + 1) o2 ++ (cw Z hc x ++ [ea Z q (wd i + wd j) (va_cpy (rw i) f 0 (wd j) (wd i)), eo nv 2 [.ref q, .int (nI 0)]])) _ _ := hW
  refine W.eq (g2 := F0 m 69 ls [.int (nI n)]) rfl ?_
  have hW : Wd Z A s.heap (cw Z hc x ++ [ea Z q (wd i + wd j) (va_cpy (rw i) f 0 (wd j) (wd i)), eo nv 2 [.ref q, .int (nI 0)]] ++ bl Z hb0 hk hc hm (wg + (wd i + wd j)) (mo + nI 1) (n + 1) o2) _ _ := Wd.swap2 (w1 := bl Z hb0 hk hc hm (wg + (wd i + wd j)) (mo + nI 1) (n + 1) o2) (wc := cw Z hc x ++ [ea Z q (wd i + wd j) (va_cpy (rw i) f 0 (wd j) (wd i)), eo nv 2 [.ref q, .int (nI 0)]]) hW
  have hW : Wd Z A s.heap (cw Z hc x ++ [eo nv 2 [.ref q, .int (nI 0)], ea Z q (wd i + wd j) (va_cpy (rw i) f 0 (wd j) (wd i))] ++ bl Z hb0 hk hc hm (wg + (wd i + wd j)) (mo + nI 1) (n + 1) o2) _ _ := Wd.subL (w1 := cw Z hc x ++ [ea Z q (wd i + wd j) (va_cpy (rw i) f 0 (wd j) (wd i)), eo nv 2 [.ref q, .int (nI 0)]]) (w2 := cw Z hc x ++ [eo nv 2 [.ref q, .int (nI 0)], ea Z q (wd i + wd j) (va_cpy (rw i) f 0 (wd j) (wd i))]) (wl := bl Z hb0 hk hc hm (wg + (wd i + wd j)) (mo + nI 1) (n + 1) o2) hW [0, 1, 2, 3, 4, 6, 5] (by decide) rfl
  refine vx_ret (e_int hx hb hr hlk hAe hW (by omega) (by omega) dX3_concat_69 ?_)
  have hv : ∀ z, z < wd i + wd j → va_cpy (rw i) f 0 (wd j) (wd i) z = if z < wd j then rw j z else rw i (z - wd j) := fun z hz => by
    by_cases q : z < wd j
    · rw [if_pos q, pk_cpy_out (by omega), hf z hz, if_pos q]
    · rw [if_neg q, pk_cpy_in (by omega) (by omega), Nat.zero_add]
  refine ⟨i, j, ⟨hi, hj, ei, ej, hw64⟩, hroom, x, nv, q, _, o2, rfl, rfl, hx1, fun z hz => ?_, hadd, rfl, hv⟩
  rw [hv z hz]
  by_cases q : z < wd j
  · rw [if_pos q]; exact w4_j z q
  · rw [if_neg q]; exact w4_i _ (by omega)
