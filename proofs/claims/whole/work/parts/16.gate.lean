def gateQ (Z : Zt) (hc : Nat) (x : CS) (σ : Nat → Bool) (kd a b : Nat) (v : Option Value) (w1 : va_W) : Prop := ∃ x' : CS, v = some (.int (nI (xn x))) ∧ w1 = cw Z hc x' ∧ gpost x σ kd a b x'
set_option maxHeartbeats 4000000 in
set_option maxRecDepth 100000 in
/-- Circuit.gate -/
theorem k_gate (l : Launch) (Z : Zt) (hc : Nat) (x : CS) (σ : Nat → Bool) (kd a b : Nat) (hx0 : cok x σ) (hk : kd ≤ 3) (ha : a < xn x) (hbb : b < xn x) (hz : kd = 0 → a = 0 ∧ b = 0) (hn : xn x < 400000) : MC l yX0_gate cX0_gate 5 (some .int) 3 150 (4 * (capU (xu x) (xn x + 1) - xu x)) (512 * (capU (xu x) (xn x + 1) - xu x)) Z (cw Z hc x) (fun _ => True) [.ref hc, .int (nI kd), .int (nI a), .int (nI b)] (gateQ Z hc x σ kd a b) := by
  refine mc_of (by decide) (Nat.le_of_ble_eq_true rfl) (fun p e s m below meth c ls A hx hb hr hts hown hlk hml hin hK hG hW hA hAe hro hl R hRf hRc hRs hRl => ?_)
  have hl : lv_has ls 5 [(0, .ref hc), (1, .int (nI kd)), (2, .int (nI a)), (3, .int (nI b))] := hl
  obtain ⟨⟨ak, al, ar, as⟩, u, K, L, Rr, S, n, t⟩ := x
  have hx0b := hx0
  obtain ⟨⟨h1, h2, h3, h3b, h3c⟩, ⟨h4, h5⟩, h6, h7, h8, h9, h10, h11⟩ := hx0b
  dsimp only [xn, xt, xu, xK, xL, xR, xS] at *
  have tail : ∀ (bk bl br bs u1 cap : Nat) (K1 L1 R1 S1 : Nat → Nat) (H : Heap) (locs : List Loc) (cl sl : Nat) (ls : Array Slot), cap = 64 * u1 → n < cap → u1 = capU u (n + 1) → u1 ≤ 20000 → (∀ g, g < n → K1 g = K g ∧ L1 g = L g ∧ R1 g = Rr g ∧ S1 g = S g) → (∀ g, n ≤ g → g < cap → S1 g = 0) → cl ≤ 4 * (capU u (n + 1) - u) → sl ≤ 512 * (capU u (n + 1) - u) → Wd Z A s.heap ([eo hc 0 [.ref bk, .ref bl, .ref br, .ref bs, .int (nI n), .int (nI t)], ea Z bk cap K1, ea Z bl cap L1, ea Z br cap R1, ea Z bs cap S1]) H locs → lv_has ls 5 [(0, .ref hc), (1, .int (nI kd)), (2, .int (nI a)), (3, .int (nI b))] → W p l e R s m ([.ref hc, .int (nI kd), .int (nI a), .int (nI b)] : List Value).toArray below meth c H locs cl sl (MQ below (QC Z (cw Z hc ((ak, al, ar, as), u, K, L, Rr, S, n, t)) s.heap.size (gateQ Z hc ((ak, al, ar, as), u, K, L, Rr, S, n, t) σ kd a b)) ([.ref hc, .int (nI kd), .int (nI a), .int (nI b)] : List Value).toArray s (4 * (capU (u) (n + 1) - u)) (512 * (capU (u) (n + 1) - u)) A) (F0 m 72 ls []) := by
    intro bk bl br bs u1 cap K1 L1 R1 S1 H locs cl sl ls hcap hlt hu1 hub hsame hS0 hcl hsl hW hl
    refine lv_aload_n hx hb dX0_gate_72 rfl (lv_at hl 0 rfl) ?_
    refine r_get hx hb hts hown hK (hW.at 0 rfl) rfl in_X0 0 (by decide) tb_46 (fun _ h => h) rfl dX0_gate_73 ?_
    refine lv_aload_n hx hb dX0_gate_76 rfl (lv_at hl 0 rfl) ?_
    refine r_get hx hb hts hown hK (hW.at 0 rfl) rfl in_X0 4 (by decide) tb_50 (fun _ h => h) rfl dX0_gate_77 ?_
    refine lv_iload_n hx hb dX0_gate_80 rfl (lv_at hl 1 rfl) ?_
    refine r_ast (i := n) (x := kd) hx hb hK hW 1 rfl (by omega) (by omega) dX0_gate_81 (fun H locs hW => ?_)
    have hW : Wd Z A s.heap ([eo hc 0 [.ref bk, .ref bl, .ref br, .ref bs, .int (nI n), .int (nI t)], ea Z bk cap (up K1 n kd), ea Z bl cap L1, ea Z br cap R1, ea Z bs cap S1]) _ _ := hW
    refine lv_aload_n hx hb dX0_gate_82 rfl (lv_at hl 0 rfl) ?_
    refine r_get hx hb hts hown hK (hW.at 0 rfl) rfl in_X0 1 (by decide) tb_47 (fun _ h => h) rfl dX0_gate_83 ?_
    refine lv_aload_n hx hb dX0_gate_86 rfl (lv_at hl 0 rfl) ?_
    refine r_get hx hb hts hown hK (hW.at 0 rfl) rfl in_X0 4 (by decide) tb_50 (fun _ h => h) rfl dX0_gate_87 ?_
    refine lv_iload_n hx hb dX0_gate_90 rfl (lv_at hl 2 rfl) ?_
    refine r_ast (i := n) (x := a) hx hb hK hW 2 rfl (by omega) (by omega) dX0_gate_91 (fun H locs hW => ?_)
    have hW : Wd Z A s.heap ([eo hc 0 [.ref bk, .ref bl, .ref br, .ref bs, .int (nI n), .int (nI t)], ea Z bk cap (up K1 n kd), ea Z bl cap (up L1 n a), ea Z br cap R1, ea Z bs cap S1]) _ _ := hW
    refine lv_aload_n hx hb dX0_gate_92 rfl (lv_at hl 0 rfl) ?_
    refine r_get hx hb hts hown hK (hW.at 0 rfl) rfl in_X0 2 (by decide) tb_48 (fun _ h => h) rfl dX0_gate_93 ?_
    refine lv_aload_n hx hb dX0_gate_96 rfl (lv_at hl 0 rfl) ?_
    refine r_get hx hb hts hown hK (hW.at 0 rfl) rfl in_X0 4 (by decide) tb_50 (fun _ h => h) rfl dX0_gate_97 ?_
    refine lv_iload_n hx hb dX0_gate_100 rfl (lv_at hl 3 rfl) ?_
    refine r_ast (i := n) (x := b) hx hb hK hW 3 rfl (by omega) (by omega) dX0_gate_101 (fun H locs hW => ?_)
    have hW : Wd Z A s.heap ([eo hc 0 [.ref bk, .ref bl, .ref br, .ref bs, .int (nI n), .int (nI t)], ea Z bk cap (up K1 n kd), ea Z bl cap (up L1 n a), ea Z br cap (up R1 n b), ea Z bs cap S1]) _ _ := hW
    refine lv_aload_n hx hb dX0_gate_102 rfl (lv_at hl 0 rfl) ?_
    refine lv_dup hx hb dX0_gate_103 rfl ?_
    refine r_get hx hb hts hown hK (hW.at 0 rfl) rfl in_X0 4 (by decide) tb_50 (fun _ h => h) rfl dX0_gate_104 ?_
    refine lv_iconst (v := nI 1) hx hb dX0_gate_107 (by decide) ?_
    refine n_iadd hx hb dX0_gate_108 ?_
    refine r_put hx hb hts hown hK hW 0 (v := .int (nI (n + 1))) rfl rfl in_X0 tyX0 tyX0_ok nmX0 4 (by decide) tb_50 (fun _ h => h) rfl rfl rfl (Nat.le_of_ble_eq_true rfl) dX0_gate_109 (fun H locs hW => ?_)
    have hW : Wd Z A s.heap ([eo hc 0 [.ref bk, .ref bl, .ref br, .ref bs, .int (nI (n + 1)), .int (nI t)], ea Z bk cap (up K1 n kd), ea Z bl cap (up L1 n a), ea Z br cap (up R1 n b), ea Z bs cap S1]) _ _ := hW
    refine lv_aload_n hx hb dX0_gate_112 rfl (lv_at hl 0 rfl) ?_
    refine r_get hx hb hts hown hK (hW.at 0 rfl) rfl in_X0 4 (by decide) tb_50 (fun _ h => h) rfl dX0_gate_113 ?_
    refine lv_iconst (v := nI 1) hx hb dX0_gate_116 (by decide) ?_
    refine n_isub hx hb (by omega) dX0_gate_117 ?_
    subst hcap
    have hW : Wd Z A s.heap (cw Z hc ((bk, bl, br, bs), u1, up K1 n kd, up L1 n a, up R1 n b, S1, n + 1, t)) _ _ := hW
    refine e_int hx hb hr hlk hAe hW hcl hsl dX0_gate_118 ?_
    refine ⟨((bk, bl, br, bs), u1, up K1 n kd, up L1 n a, up R1 n b, S1, n + 1, t), by rw [Nat.add_sub_cancel], rfl, gpost_of hx0 hk ha hbb hz hn rfl rfl hu1 hub (fun g hg => ?_) (up_s _ _ _) (up_s _ _ _) (up_s _ _ _) (fun g hg => (hsame g hg).2.2.2) hS0⟩
    dsimp only [xn] at hg
    have hne : g ≠ n := by omega
    exact ⟨(up_n _ _ hne).trans (hsame g hg).1, (up_n _ _ hne).trans (hsame g hg).2.1, (up_n _ _ hne).trans (hsame g hg).2.2.1⟩
  have hW : Wd Z A s.heap ([eo hc 0 [.ref ak, .ref al, .ref ar, .ref as, .int (nI n), .int (nI t)], ea Z ak (64 * u) K, ea Z al (64 * u) L, ea Z ar (64 * u) Rr, ea Z as (64 * u) S]) _ _ := hW
  refine lv_aload_n hx hb dX0_gate_0 rfl (lv_at hl 0 rfl) ?_
  refine r_get hx hb hts hown hK (hW.at 0 rfl) rfl in_X0 4 (by decide) tb_50 (fun _ h => h) rfl dX0_gate_1 ?_
  refine lv_aload_n hx hb dX0_gate_4 rfl (lv_at hl 0 rfl) ?_
  refine r_get hx hb hts hown hK (hW.at 0 rfl) rfl in_X0 0 (by decide) tb_46 (fun _ h => h) rfl dX0_gate_5 ?_
  refine r_len hx hb hK (hW.at 1 rfl) dX0_gate_8 ?_
  by_cases hroom : n < 64 * u
  · refine n_lt_t (tgt := 72) hx hb (by omega) (by omega) dX0_gate_9 (by decide) ?_
    exact tail ak al ar as u (64 * u) K L Rr S _ _ _ _ ls rfl hroom (capU_id (by omega)).symm h3c (fun g _ => ⟨rfl, rfl, rfl, rfl⟩) h11 (Nat.zero_le _) (Nat.zero_le _) hW hl
  · have hnu : n = 64 * u := by omega
    have hcu : capU u (n + 1) = 2 * u := by rw [capU_step (by omega) (by omega)]; exact capU_id (by omega)
    rw [hcu] at hRc hRs
    refine n_lt_f (tgt := 72) hx hb (by omega) (by omega) dX0_gate_9 (by decide) ?_
    refine lv_iconst (v := nI 2) hx hb dX0_gate_12 (by decide) ?_
    refine lv_aload_n hx hb dX0_gate_13 rfl (lv_at hl 0 rfl) ?_
    refine r_get hx hb hts hown hK (hW.at 0 rfl) rfl in_X0 4 (by decide) tb_50 (fun _ h => h) rfl dX0_gate_14 ?_
    refine n_imul hx hb dX0_gate_17 ?_
    refine lv_istore (lv' := [(4, .int (nI (2 * n))), (0, .ref hc), (1, .int (nI kd)), (2, .int (nI a)), (3, .int (nI b))]) hx hb dX0_gate_18 hl (by decide) rfl (fun ls hl => ?_)
    refine lv_aload_n hx hb dX0_gate_20 rfl (lv_at hl 1 rfl) ?_
    refine lv_aload_n hx hb dX0_gate_21 rfl (lv_at hl 1 rfl) ?_
    refine r_get hx hb hts hown hK (hW.at 0 rfl) rfl in_X0 0 (by decide) tb_46 (fun _ h => h) rfl dX0_gate_22 ?_
    refine lv_iload hx hb dX0_gate_25 (lv_at hl 0 rfl) ?_
    refine c_stat (As := [.ref ak, .int (nI (2 * n))]) (rest := [.ref hc]) (wc := []) (wr := [eo hc 0 [.ref ak, .ref al, .ref ar, .ref as, .int (nI n), .int (nI t)], ea Z ak (64 * u) K, ea Z al (64 * u) L, ea Z ar (64 * u) Rr, ea Z as (64 * u) S]) hx hb hml hown hts hK hG rfl hA hl (k_copyOf l Z ak (64 * u) (2 * n) K (by omega) (by omega)) hW (hW.at 1 rfl) tb_230 tb_231 tb_13 tb_232 (nA := 2) (by decide +kernel) rfl ⟨by omega, by omega⟩ ⟨by omega, by omega⟩ rfl (Nat.le_of_ble_eq_true rfl) dX0_gate_27 (fun v w1 H1 L1 hp hW hzz hkk hdd => ?_)
    obtain ⟨q1, f1, rfl, rfl, ef1⟩ := hp
    clear hzz hkk hdd
    generalize H1 = H at hW ⊢
    generalize L1 = locs at hW ⊢
    have hW : Wd Z A s.heap ([ea Z q1 (2 * n) f1, eo hc 0 [.ref ak, .ref al, .ref ar, .ref as, .int (nI n), .int (nI t)], ea Z ak (64 * u) K, ea Z al (64 * u) L, ea Z ar (64 * u) Rr, ea Z as (64 * u) S]) _ _ := hW
    refine W.eq (g2 := F0 m 30 ls [.ref q1, .ref hc]) rfl ?_
    refine r_put hx hb hts hown hK hW 1 (v := .ref q1) rfl rfl in_X0 tyX0 tyX0_ok nmX0 0 (by decide) tb_46 (fun _ h => h) rfl rfl rfl (Nat.le_of_ble_eq_true rfl) dX0_gate_30 (fun H locs hW => ?_)
    have hW : Wd Z A s.heap ([ea Z q1 (2 * n) f1, eo hc 0 [.ref q1, .ref al, .ref ar, .ref as, .int (nI n), .int (nI t)], ea Z ak (64 * u) K, ea Z al (64 * u) L, ea Z ar (64 * u) Rr, ea Z as (64 * u) S]) _ _ := hW
    refine lv_aload_n hx hb dX0_gate_33 rfl (lv_at hl 1 rfl) ?_
    refine lv_aload_n hx hb dX0_gate_34 rfl (lv_at hl 1 rfl) ?_
    refine r_get hx hb hts hown hK (hW.at 1 rfl) rfl in_X0 1 (by decide) tb_47 (fun _ h => h) rfl dX0_gate_35 ?_
    refine lv_iload hx hb dX0_gate_38 (lv_at hl 0 rfl) ?_
    refine c_stat (As := [.ref al, .int (nI (2 * n))]) (rest := [.ref hc]) (wc := []) (wr := [ea Z q1 (2 * n) f1, eo hc 0 [.ref q1, .ref al, .ref ar, .ref as, .int (nI n), .int (nI t)], ea Z ak (64 * u) K, ea Z al (64 * u) L, ea Z ar (64 * u) Rr, ea Z as (64 * u) S]) hx hb hml hown hts hK hG rfl hA hl (k_copyOf l Z al (64 * u) (2 * n) L (by omega) (by omega)) hW (hW.at 3 rfl) tb_230 tb_231 tb_13 tb_232 (nA := 2) (by decide +kernel) rfl ⟨by omega, by omega⟩ ⟨by omega, by omega⟩ rfl (Nat.le_of_ble_eq_true rfl) dX0_gate_40 (fun v w1 H1 L1 hp hW hzz hkk hdd => ?_)
    obtain ⟨q2, f2, rfl, rfl, ef2⟩ := hp
    clear hzz hkk hdd
    generalize H1 = H at hW ⊢
    generalize L1 = locs at hW ⊢
    have hW : Wd Z A s.heap ([ea Z q2 (2 * n) f2, ea Z q1 (2 * n) f1, eo hc 0 [.ref q1, .ref al, .ref ar, .ref as, .int (nI n), .int (nI t)], ea Z ak (64 * u) K, ea Z al (64 * u) L, ea Z ar (64 * u) Rr, ea Z as (64 * u) S]) _ _ := hW
    refine W.eq (g2 := F0 m 43 ls [.ref q2, .ref hc]) rfl ?_
    refine r_put hx hb hts hown hK hW 2 (v := .ref q2) rfl rfl in_X0 tyX0 tyX0_ok nmX0 1 (by decide) tb_47 (fun _ h => h) rfl rfl rfl (Nat.le_of_ble_eq_true rfl) dX0_gate_43 (fun H locs hW => ?_)
    have hW : Wd Z A s.heap ([ea Z q2 (2 * n) f2, ea Z q1 (2 * n) f1, eo hc 0 [.ref q1, .ref q2, .ref ar, .ref as, .int (nI n), .int (nI t)], ea Z ak (64 * u) K, ea Z al (64 * u) L, ea Z ar (64 * u) Rr, ea Z as (64 * u) S]) _ _ := hW
    refine lv_aload_n hx hb dX0_gate_46 rfl (lv_at hl 1 rfl) ?_
    refine lv_aload_n hx hb dX0_gate_47 rfl (lv_at hl 1 rfl) ?_
    refine r_get hx hb hts hown hK (hW.at 2 rfl) rfl in_X0 2 (by decide) tb_48 (fun _ h => h) rfl dX0_gate_48 ?_
    refine lv_iload hx hb dX0_gate_51 (lv_at hl 0 rfl) ?_
    refine c_stat (As := [.ref ar, .int (nI (2 * n))]) (rest := [.ref hc]) (wc := []) (wr := [ea Z q2 (2 * n) f2, ea Z q1 (2 * n) f1, eo hc 0 [.ref q1, .ref q2, .ref ar, .ref as, .int (nI n), .int (nI t)], ea Z ak (64 * u) K, ea Z al (64 * u) L, ea Z ar (64 * u) Rr, ea Z as (64 * u) S]) hx hb hml hown hts hK hG rfl hA hl (k_copyOf l Z ar (64 * u) (2 * n) Rr (by omega) (by omega)) hW (hW.at 5 rfl) tb_230 tb_231 tb_13 tb_232 (nA := 2) (by decide +kernel) rfl ⟨by omega, by omega⟩ ⟨by omega, by omega⟩ rfl (Nat.le_of_ble_eq_true rfl) dX0_gate_53 (fun v w1 H1 L1 hp hW hzz hkk hdd => ?_)
    obtain ⟨q3, f3, rfl, rfl, ef3⟩ := hp
    clear hzz hkk hdd
    generalize H1 = H at hW ⊢
    generalize L1 = locs at hW ⊢
    have hW : Wd Z A s.heap ([ea Z q3 (2 * n) f3, ea Z q2 (2 * n) f2, ea Z q1 (2 * n) f1, eo hc 0 [.ref q1, .ref q2, .ref ar, .ref as, .int (nI n), .int (nI t)], ea Z ak (64 * u) K, ea Z al (64 * u) L, ea Z ar (64 * u) Rr, ea Z as (64 * u) S]) _ _ := hW
    refine W.eq (g2 := F0 m 56 ls [.ref q3, .ref hc]) rfl ?_
    refine r_put hx hb hts hown hK hW 3 (v := .ref q3) rfl rfl in_X0 tyX0 tyX0_ok nmX0 2 (by decide) tb_48 (fun _ h => h) rfl rfl rfl (Nat.le_of_ble_eq_true rfl) dX0_gate_56 (fun H locs hW => ?_)
    have hW : Wd Z A s.heap ([ea Z q3 (2 * n) f3, ea Z q2 (2 * n) f2, ea Z q1 (2 * n) f1, eo hc 0 [.ref q1, .ref q2, .ref q3, .ref as, .int (nI n), .int (nI t)], ea Z ak (64 * u) K, ea Z al (64 * u) L, ea Z ar (64 * u) Rr, ea Z as (64 * u) S]) _ _ := hW
    refine lv_aload_n hx hb dX0_gate_59 rfl (lv_at hl 1 rfl) ?_
    refine lv_aload_n hx hb dX0_gate_60 rfl (lv_at hl 1 rfl) ?_
    refine r_get hx hb hts hown hK (hW.at 3 rfl) rfl in_X0 3 (by decide) tb_49 (fun _ h => h) rfl dX0_gate_61 ?_
    refine lv_iload hx hb dX0_gate_64 (lv_at hl 0 rfl) ?_
    refine c_stat (As := [.ref as, .int (nI (2 * n))]) (rest := [.ref hc]) (wc := []) (wr := [ea Z q3 (2 * n) f3, ea Z q2 (2 * n) f2, ea Z q1 (2 * n) f1, eo hc 0 [.ref q1, .ref q2, .ref q3, .ref as, .int (nI n), .int (nI t)], ea Z ak (64 * u) K, ea Z al (64 * u) L, ea Z ar (64 * u) Rr, ea Z as (64 * u) S]) hx hb hml hown hts hK hG rfl hA hl (k_copyOf l Z as (64 * u) (2 * n) S (by omega) (by omega)) hW (hW.at 7 rfl) tb_230 tb_231 tb_13 tb_232 (nA := 2) (by decide +kernel) rfl ⟨by omega, by omega⟩ ⟨by omega, by omega⟩ rfl (Nat.le_of_ble_eq_true rfl) dX0_gate_66 (fun v w1 H1 L1 hp hW hzz hkk hdd => ?_)
    obtain ⟨q4, f4, rfl, rfl, ef4⟩ := hp
    clear hzz hkk hdd
    generalize H1 = H at hW ⊢
    generalize L1 = locs at hW ⊢
    have hW : Wd Z A s.heap ([ea Z q4 (2 * n) f4, ea Z q3 (2 * n) f3, ea Z q2 (2 * n) f2, ea Z q1 (2 * n) f1, eo hc 0 [.ref q1, .ref q2, .ref q3, .ref as, .int (nI n), .int (nI t)], ea Z ak (64 * u) K, ea Z al (64 * u) L, ea Z ar (64 * u) Rr, ea Z as (64 * u) S]) _ _ := hW
    refine W.eq (g2 := F0 m 69 ls [.ref q4, .ref hc]) rfl ?_
    refine r_put hx hb hts hown hK hW 4 (v := .ref q4) rfl rfl in_X0 tyX0 tyX0_ok nmX0 3 (by decide) tb_49 (fun _ h => h) rfl rfl rfl (Nat.le_of_ble_eq_true rfl) dX0_gate_69 (fun H locs hW => ?_)
    have hW : Wd Z A s.heap ([ea Z q4 (2 * n) f4, ea Z q3 (2 * n) f3, ea Z q2 (2 * n) f2, ea Z q1 (2 * n) f1, eo hc 0 [.ref q1, .ref q2, .ref q3, .ref q4, .int (nI n), .int (nI t)], ea Z ak (64 * u) K, ea Z al (64 * u) L, ea Z ar (64 * u) Rr, ea Z as (64 * u) S]) _ _ := hW
    have hle : ∀ g, g < n → g < 2 * n ∧ g < 64 * u := fun g hg => by omega
    refine tail q1 q2 q3 q4 (2 * u) (2 * n) f1 f2 f3 f4 _ _ _ _ ls (by omega) (by omega) hcu.symm (by omega) (fun g hg => ⟨?_, ?_, ?_, ?_⟩) (fun g g1 g2 => ?_) (by rw [hcu]; omega) (by rw [hcu]; omega) (hW.sub [4, 3, 2, 1, 0] (by decide) rfl) (lv_sub hl [1, 2, 3, 4] rfl)
    · rw [ef1 g (hle g hg).1, if_pos (hle g hg).2]
    · rw [ef2 g (hle g hg).1, if_pos (hle g hg).2]
    · rw [ef3 g (hle g hg).1, if_pos (hle g hg).2]
    · rw [ef4 g (hle g hg).1, if_pos (hle g hg).2]
    · rw [ef4 g g2, if_neg (by omega)]
