/-- the circuit x with other states and another settled place -/
abbrev xset (x : CS) (S : Nat → Nat) (t : Nat) : CS := (x.1, xu x, xK x, xL x, xR x, S, xn x, t)
theorem bit_and (a b : Bool) : nI a.toNat &&& nI b.toNat = nI (a && b).toNat := by cases a <;> cases b <;> decide
theorem bit_or (a b : Bool) : nI a.toNat ||| nI b.toNat = nI (a || b).toNat := by cases a <;> cases b <;> decide
theorem bit_xor (a b : Bool) : nI a.toNat ^^^ nI b.toNat = nI (a ^^ b).toNat := by cases a <;> cases b <;> decide
theorem tb_oi2 : Cond.instanceMethod Lib.objectInit ∈ TB := by decide +kernel
theorem tb_oi3 : Cond.code Lib.objectInit ⟨#[0xb1]⟩ 1 none ∈ TB := by decide +kernel
set_option maxHeartbeats 4000000 in
set_option maxRecDepth 100000 in
/-- Circuit.settle -/
theorem k_settle (l : Launch) (Z : Zt) (hc : Nat) (x : CS) (σ : Nat → Bool) (S : Nat → Nat) (t g : Nat) (hx0 : cok x σ) (h2g : 2 ≤ g) (hg : g < xn x) (hS0 : xK x g = 0 → S g = (σ g).toNat) (hSg : ∀ j, j < g → S j = (vl x σ j).toNat) : MC l yX0_settle cX0_settle 4 none 0 0 (0) (0) Z (cw Z hc (xset x S t)) (fun _ => True) [.ref hc, .int (nI g)] (fun v w1 => ∃ S2 : Nat → Nat, v = none ∧ w1 = cw Z hc (xset x S2 t) ∧ (∀ j, j ≠ g → S2 j = S j) ∧ S2 g = (vl x σ g).toNat) := by
  refine mc_of (by decide) (Nat.le_of_ble_eq_true rfl) (fun p e s m below meth c ls A hx hb hr hts hown hlk hml hin hK hG hW hA hAe hro hl R hRf hRc hRs hRl => ?_)
  have hl : lv_has ls 4 [(0, .ref hc), (1, .int (nI g))] := hl
  obtain ⟨⟨h1, h2, h3, h3b, h3c⟩, h4, h6, -⟩ := hx0
  obtain ⟨k3, kl, kr⟩ := h6 g h2g hg
  have eL := hSg _ kl
  have eR := hSg _ kr
  have hW : Wd Z A s.heap ([eo hc 0 [.ref x.1.1, .ref x.1.2.1, .ref x.1.2.2.1, .ref x.1.2.2.2, .int (nI (xn x)), .int (nI t)], ea Z x.1.1 (64 * xu x) (xK x), ea Z x.1.2.1 (64 * xu x) (xL x), ea Z x.1.2.2.1 (64 * xu x) (xR x), ea Z x.1.2.2.2 (64 * xu x) S]) _ _ := hW
  refine lv_aload_n hx hb dX0_settle_0 rfl (lv_at hl 0 rfl) ?_
  refine r_get hx hb hts hown hK (hW.at 0 rfl) rfl in_X0 3 (by decide) tb_49 (fun _ h => h) rfl dX0_settle_1 ?_
  refine lv_aload_n hx hb dX0_settle_4 rfl (lv_at hl 0 rfl) ?_
  refine r_get hx hb hts hown hK (hW.at 0 rfl) rfl in_X0 1 (by decide) tb_47 (fun _ h => h) rfl dX0_settle_5 ?_
  refine lv_iload_n hx hb dX0_settle_8 rfl (lv_at hl 1 rfl) ?_
  refine r_ald (i := g) hx hb hK (hW.at 2 rfl) (by omega) (by omega) dX0_settle_9 ?_
  refine r_ald (i := ((xL x) g)) hx hb hK (hW.at 4 rfl) (by omega) (by omega) dX0_settle_10 ?_
  refine n_eqv (congrArg nI eL) ?_
  refine lv_istore_n (lv' := [(2, .int (nI (vl x σ (xL x g)).toNat)), (0, .ref hc), (1, .int (nI g))]) hx hb dX0_settle_11 rfl hl (by decide) rfl (fun ls hl => ?_)
  refine lv_aload_n hx hb dX0_settle_12 rfl (lv_at hl 1 rfl) ?_
  refine r_get hx hb hts hown hK (hW.at 0 rfl) rfl in_X0 3 (by decide) tb_49 (fun _ h => h) rfl dX0_settle_13 ?_
  refine lv_aload_n hx hb dX0_settle_16 rfl (lv_at hl 1 rfl) ?_
  refine r_get hx hb hts hown hK (hW.at 0 rfl) rfl in_X0 2 (by decide) tb_48 (fun _ h => h) rfl dX0_settle_17 ?_
  refine lv_iload_n hx hb dX0_settle_20 rfl (lv_at hl 2 rfl) ?_
  refine r_ald (i := g) hx hb hK (hW.at 3 rfl) (by omega) (by omega) dX0_settle_21 ?_
  refine r_ald (i := ((xR x) g)) hx hb hK (hW.at 4 rfl) (by omega) (by omega) dX0_settle_22 ?_
  refine n_eqv (congrArg nI eR) ?_
  refine lv_istore_n (lv' := [(3, .int (nI (vl x σ (xR x g)).toNat)), (2, .int (nI (vl x σ (xL x g)).toNat)), (0, .ref hc), (1, .int (nI g))]) hx hb dX0_settle_23 rfl hl (by decide) rfl (fun ls hl => ?_)
  refine lv_aload_n hx hb dX0_settle_24 rfl (lv_at hl 2 rfl) ?_
  refine r_get hx hb hts hown hK (hW.at 0 rfl) rfl in_X0 0 (by decide) tb_46 (fun _ h => h) rfl dX0_settle_25 ?_
  refine lv_iload_n hx hb dX0_settle_28 rfl (lv_at hl 3 rfl) ?_
  refine r_ald (i := g) hx hb hK (hW.at 1 rfl) (by omega) (by omega) dX0_settle_29 ?_
  rcases (show xK x g = 0 ∨ xK x g = 1 ∨ xK x g = 2 ∨ xK x g = 3 by omega) with hkd | hkd | hkd | hkd
  · refine n_eqv (congrArg nI hkd) ?_
    refine lv_tableOut (tgt := 92) hx hb dX0_settle_30 (by decide) (by decide) ?_
    exact e_void hx hb hr hlk hAe hW (by omega) (by omega) dX0_settle_92 ⟨S, rfl, rfl, fun _ _ => rfl, by rw [hS0 hkd, vl, cv_src hkd]⟩
  · refine n_eqv (congrArg nI hkd) ?_
    refine lv_tableIn (off := 26) (tgt := 56) hx hb dX0_settle_30 (by decide) (by decide) (by decide) (by decide) ?_
    refine lv_aload_n hx hb dX0_settle_56 rfl (lv_at hl 2 rfl) ?_
    refine r_get hx hb hts hown hK (hW.at 0 rfl) rfl in_X0 3 (by decide) tb_49 (fun _ h => h) rfl dX0_settle_57 ?_
    refine lv_iload_n hx hb dX0_settle_60 rfl (lv_at hl 3 rfl) ?_
    refine lv_iload_n hx hb dX0_settle_61 rfl (lv_at hl 1 rfl) ?_
    refine lv_iload_n hx hb dX0_settle_62 rfl (lv_at hl 0 rfl) ?_
    refine lv_iand hx hb dX0_settle_63 ?_
    refine n_eqv (bit_and _ _) ?_
    refine r_ast (i := g) (x := ((vl x σ (xL x g) && vl x σ (xR x g)).toNat)) hx hb hK hW 4 rfl (by omega) (by omega) dX0_settle_64 (fun H locs hW => ?_)
    have hW : Wd Z A s.heap ([eo hc 0 [.ref x.1.1, .ref x.1.2.1, .ref x.1.2.2.1, .ref x.1.2.2.2, .int (nI (xn x)), .int (nI t)], ea Z x.1.1 (64 * xu x) (xK x), ea Z x.1.2.1 (64 * xu x) (xL x), ea Z x.1.2.2.1 (64 * xu x) (xR x), ea Z x.1.2.2.2 (64 * xu x) (up S g ((vl x σ (xL x g) && vl x σ (xR x g)).toNat))]) _ _ := hW
    refine lv_goto (tgt := 92) hx hb dX0_settle_65 (by decide) ?_
    exact e_void hx hb hr hlk hAe hW (by omega) (by omega) dX0_settle_92 ⟨up S g (vl x σ (xL x g) && vl x σ (xR x g)).toNat, rfl, rfl, fun j hj => up_n _ _ hj, (up_s _ _ _).trans (by rw [vl.eq_1 x σ g, cv_gate (by rw [hkd]; decide) kl kr, hkd]; rfl)⟩
  · refine n_eqv (congrArg nI hkd) ?_
    refine lv_tableIn (off := 38) (tgt := 68) hx hb dX0_settle_30 (by decide) (by decide) (by decide) (by decide) ?_
    refine lv_aload_n hx hb dX0_settle_68 rfl (lv_at hl 2 rfl) ?_
    refine r_get hx hb hts hown hK (hW.at 0 rfl) rfl in_X0 3 (by decide) tb_49 (fun _ h => h) rfl dX0_settle_69 ?_
    refine lv_iload_n hx hb dX0_settle_72 rfl (lv_at hl 3 rfl) ?_
    refine lv_iload_n hx hb dX0_settle_73 rfl (lv_at hl 1 rfl) ?_
    refine lv_iload_n hx hb dX0_settle_74 rfl (lv_at hl 0 rfl) ?_
    refine lv_ior hx hb dX0_settle_75 ?_
    refine n_eqv (bit_or _ _) ?_
    refine r_ast (i := g) (x := ((vl x σ (xL x g) || vl x σ (xR x g)).toNat)) hx hb hK hW 4 rfl (by omega) (by omega) dX0_settle_76 (fun H locs hW => ?_)
    have hW : Wd Z A s.heap ([eo hc 0 [.ref x.1.1, .ref x.1.2.1, .ref x.1.2.2.1, .ref x.1.2.2.2, .int (nI (xn x)), .int (nI t)], ea Z x.1.1 (64 * xu x) (xK x), ea Z x.1.2.1 (64 * xu x) (xL x), ea Z x.1.2.2.1 (64 * xu x) (xR x), ea Z x.1.2.2.2 (64 * xu x) (up S g ((vl x σ (xL x g) || vl x σ (xR x g)).toNat))]) _ _ := hW
    refine lv_goto (tgt := 92) hx hb dX0_settle_77 (by decide) ?_
    exact e_void hx hb hr hlk hAe hW (by omega) (by omega) dX0_settle_92 ⟨up S g (vl x σ (xL x g) || vl x σ (xR x g)).toNat, rfl, rfl, fun j hj => up_n _ _ hj, (up_s _ _ _).trans (by rw [vl.eq_1 x σ g, cv_gate (by rw [hkd]; decide) kl kr, hkd]; rfl)⟩
  · refine n_eqv (congrArg nI hkd) ?_
    refine lv_tableIn (off := 50) (tgt := 80) hx hb dX0_settle_30 (by decide) (by decide) (by decide) (by decide) ?_
    refine lv_aload_n hx hb dX0_settle_80 rfl (lv_at hl 2 rfl) ?_
    refine r_get hx hb hts hown hK (hW.at 0 rfl) rfl in_X0 3 (by decide) tb_49 (fun _ h => h) rfl dX0_settle_81 ?_
    refine lv_iload_n hx hb dX0_settle_84 rfl (lv_at hl 3 rfl) ?_
    refine lv_iload_n hx hb dX0_settle_85 rfl (lv_at hl 1 rfl) ?_
    refine lv_iload_n hx hb dX0_settle_86 rfl (lv_at hl 0 rfl) ?_
    refine lv_ixor hx hb dX0_settle_87 ?_
    refine n_eqv (bit_xor _ _) ?_
    refine r_ast (i := g) (x := ((vl x σ (xL x g) ^^ vl x σ (xR x g)).toNat)) hx hb hK hW 4 rfl (by omega) (by omega) dX0_settle_88 (fun H locs hW => ?_)
    have hW : Wd Z A s.heap ([eo hc 0 [.ref x.1.1, .ref x.1.2.1, .ref x.1.2.2.1, .ref x.1.2.2.2, .int (nI (xn x)), .int (nI t)], ea Z x.1.1 (64 * xu x) (xK x), ea Z x.1.2.1 (64 * xu x) (xL x), ea Z x.1.2.2.1 (64 * xu x) (xR x), ea Z x.1.2.2.2 (64 * xu x) (up S g ((vl x σ (xL x g) ^^ vl x σ (xR x g)).toNat))]) _ _ := hW
    refine lv_goto (tgt := 92) hx hb dX0_settle_89 (by decide) ?_
    exact e_void hx hb hr hlk hAe hW (by omega) (by omega) dX0_settle_92 ⟨up S g (vl x σ (xL x g) ^^ vl x σ (xR x g)).toNat, rfl, rfl, fun j hj => up_n _ _ hj, (up_s _ _ _).trans (by rw [vl.eq_1 x σ g, cv_gate (by rw [hkd]; decide) kl kr, hkd]; rfl)⟩
set_option maxHeartbeats 4000000 in
set_option maxRecDepth 100000 in
/-- Circuit.read -/
theorem k_read (l : Launch) (Z : Zt) (hc : Nat) (x : CS) (σ : Nat → Bool) (sg : Nat) (hx0 : cok x σ) (hsg : sg < xn x) : MC l yX0_read cX0_read 3 (some .int) 2 60 (0) (0) Z (cw Z hc x) (fun _ => True) [.ref hc, .int (nI sg)] (fun v w1 => ∃ (S2 : Nat → Nat) (t2 : Nat), v = some (.int (nI (vl x σ sg).toNat)) ∧ w1 = cw Z hc (xset x S2 t2) ∧ cok (xset x S2 t2) σ) := by
  refine mc_of (by decide) (Nat.le_of_ble_eq_true rfl) (fun p e s m below meth c ls A hx hb hr hts hown hlk hml hin hK hG hW hA hAe hro hl R hRf hRc hRs hRl => ?_)
  have hl : lv_has ls 3 [(0, .ref hc), (1, .int (nI sg))] := hl
  obtain ⟨⟨h1, h2, h3, h3b, h3c⟩, h4, h6, h7, h8, h9, h10, h11⟩ := id hx0
  have hW : Wd Z A s.heap ([eo hc 0 [.ref x.1.1, .ref x.1.2.1, .ref x.1.2.2.1, .ref x.1.2.2.2, .int (nI (xn x)), .int (nI (xt x))], ea Z x.1.1 (64 * xu x) (xK x), ea Z x.1.2.1 (64 * xu x) (xL x), ea Z x.1.2.2.1 (64 * xu x) (xR x), ea Z x.1.2.2.2 (64 * xu x) (xS x)]) _ _ := hW
  have loop : ∀ (d g : Nat) (S : Nat → Nat) (H : Heap) (locs : List Loc) (ls : Array Slot), g + d = max (xt x) (sg + 1) → xt x ≤ g → (∀ j, j < g → S j = (vl x σ j).toNat) → (∀ j, g ≤ j → S j = xS x j) → Wd Z A s.heap ([eo hc 0 [.ref x.1.1, .ref x.1.2.1, .ref x.1.2.2.1, .ref x.1.2.2.2, .int (nI (xn x)), .int (nI (xt x))], ea Z x.1.1 (64 * xu x) (xK x), ea Z x.1.2.1 (64 * xu x) (xL x), ea Z x.1.2.2.1 (64 * xu x) (xR x), ea Z x.1.2.2.2 (64 * xu x) S]) H locs → lv_has ls 3 [(0, .ref hc), (1, .int (nI sg)), (2, .int (nI g))] → W p l e R s m ([.ref hc, .int (nI sg)] : List Value).toArray below meth c H locs 0 0 (MQ below (QC Z (cw Z hc x) s.heap.size (fun v w1 => ∃ (S2 : Nat → Nat) (t2 : Nat), v = some (.int (nI (vl x σ sg).toNat)) ∧ w1 = cw Z hc (xset x S2 t2) ∧ cok (xset x S2 t2) σ)) ([.ref hc, .int (nI sg)] : List Value).toArray s 0 0 A) (F0 m 5 ls []) := by
    intro d
    induction d with
    | zero =>
      intro g S H locs ls hd htg hlo hhi hW hl
      refine lv_iload_n hx hb dX0_read_5 rfl (lv_at hl 2 rfl) ?_
      refine lv_iload_n hx hb dX0_read_6 rfl (lv_at hl 1 rfl) ?_
      refine n_gt_t (tgt := 21) hx hb (by omega) (by omega) dX0_read_7 (by decide) ?_
      refine lv_aload_n hx hb dX0_read_21 rfl (lv_at hl 0 rfl) ?_
      refine lv_aload_n hx hb dX0_read_22 rfl (lv_at hl 0 rfl) ?_
      refine r_get hx hb hts hown hK (hW.at 0 rfl) rfl in_X0 5 (by decide) tb_51 (fun _ h => h) rfl dX0_read_23 ?_
      refine lv_iload_n hx hb dX0_read_26 rfl (lv_at hl 1 rfl) ?_
      refine lv_iconst (v := nI 1) hx hb dX0_read_27 (by decide) ?_
      refine n_iadd hx hb dX0_read_28 ?_
      refine n_max hx hb hml hl hown hts tb_765 (by omega) (by rw [hRl]; exact Nat.le_of_ble_eq_true rfl) (by omega) (by omega) (x := xt x) (y := sg + 1) (by omega) (by omega) dX0_read_29 ?_
      rw [show max (xt x) (sg + 1) = g by omega]
      refine r_put hx hb hts hown hK hW 0 (v := .int (nI g)) rfl rfl in_X0 tyX0 tyX0_ok nmX0 5 (by decide) tb_51 (fun _ h => h) rfl rfl rfl (Nat.le_of_ble_eq_true rfl) dX0_read_32 (fun H locs hW => ?_)
      have hW : Wd Z A s.heap ([eo hc 0 [.ref x.1.1, .ref x.1.2.1, .ref x.1.2.2.1, .ref x.1.2.2.2, .int (nI (xn x)), .int (nI g)], ea Z x.1.1 (64 * xu x) (xK x), ea Z x.1.2.1 (64 * xu x) (xL x), ea Z x.1.2.2.1 (64 * xu x) (xR x), ea Z x.1.2.2.2 (64 * xu x) S]) _ _ := hW
      refine lv_aload_n hx hb dX0_read_35 rfl (lv_at hl 0 rfl) ?_
      refine r_get hx hb hts hown hK (hW.at 0 rfl) rfl in_X0 3 (by decide) tb_49 (fun _ h => h) rfl dX0_read_36 ?_
      refine lv_iload_n hx hb dX0_read_39 rfl (lv_at hl 1 rfl) ?_
      refine r_ald (i := sg) hx hb hK (hW.at 4 rfl) (by omega) (by omega) dX0_read_40 ?_
      refine n_eqv (congrArg nI (hlo sg (by omega))) ?_
      have hW : Wd Z A s.heap (cw Z hc (xset x S g)) _ _ := hW
      refine e_int hx hb hr hlk hAe hW (by omega) (by omega) dX0_read_41 ⟨S, g, rfl, rfl, ⟨by show 2 ≤ g; omega, by show g ≤ xn x; omega, h3, h3b, h3c⟩, h4, h6, h7, h8, fun j hj hk => ?_, hlo, fun j h1 h2 => ?_⟩
      · by_cases q : j < g
        · rw [show xS (xset x S g) j = (vl x σ j).toNat from hlo j q, vl, cv_src hk]
        · rw [show xS (xset x S g) j = xS x j from hhi j (by omega)]; exact h9 j hj hk
      · have h1' : xn x ≤ j := h1
        rw [show xS (xset x S g) j = xS x j from hhi j (by omega)]; exact h11 j h1 h2
    | succ d ih =>
      intro g S H locs ls hd htg hlo hhi hW hl
      refine lv_iload_n hx hb dX0_read_5 rfl (lv_at hl 2 rfl) ?_
      refine lv_iload_n hx hb dX0_read_6 rfl (lv_at hl 1 rfl) ?_
      refine n_gt_f (tgt := 21) hx hb (by omega) (by omega) dX0_read_7 (by decide) ?_
      refine lv_aload_n hx hb dX0_read_10 rfl (lv_at hl 0 rfl) ?_
      refine lv_iload_n hx hb dX0_read_11 rfl (lv_at hl 2 rfl) ?_
      have hW : Wd Z A s.heap (cw Z hc (xset x S (xt x)) ++ []) _ _ := hW
      refine c_virt (As := [.int (nI g)]) (rest := []) (wc := cw Z hc (xset x S (xt x))) (wr := []) (nl := 0) hx hb hml hown hts hK hG rfl hA hl (k_settle l Z hc x σ S (xt x) g hx0 (by omega) (by omega) (fun hk => by rw [hhi g (Nat.le_refl _)]; exact h9 g (by omega) hk) hlo) hW trivial (hW.at 0 rfl) rfl rfl tb_761 tb_763 ts_9 tb_3 tb_764 (nA := 1) (by decide +kernel) rfl ⟨by omega, by omega⟩ ⟨by omega, by omega⟩ rfl (Nat.le_of_ble_eq_true rfl) dX0_read_12 (fun v w1 H1 L1 hp hW hzz hkk hdd => ?_)
      obtain ⟨S2, rfl, rfl, e1, e2⟩ := hp
      clear hzz hkk hdd
      generalize H1 = H at hW  ⊢
      generalize L1 = locs at hW ⊢
      have hW : Wd Z A s.heap (cw Z hc (xset x S2 (xt x))) _ _ := hW
      refine W.eq (g2 := F0 m 15 ls []) rfl ?_
      have hW : Wd Z A s.heap ([eo hc 0 [.ref x.1.1, .ref x.1.2.1, .ref x.1.2.2.1, .ref x.1.2.2.2, .int (nI (xn x)), .int (nI (xt x))], ea Z x.1.1 (64 * xu x) (xK x), ea Z x.1.2.1 (64 * xu x) (xL x), ea Z x.1.2.2.1 (64 * xu x) (xR x), ea Z x.1.2.2.2 (64 * xu x) S2]) _ _ := hW
      refine lv_iinc (v := nI (g + 1)) (lv' := [(2, .int (nI (g + 1))), (0, .ref hc), (1, .int (nI sg))]) hx hb dX0_read_15 hl (k := 2) rfl (inc1 _) (by decide) rfl (fun ls hl => ?_)
      refine lv_goto (tgt := 5) hx hb dX0_read_18 (by decide) ?_
      refine ih (g + 1) S2 _ _ ls (by omega) (by omega) (fun j hj => ?_) (fun j hj => ?_) hW (lv_sub hl [1, 2, 0] rfl)
      · by_cases q : j = g
        · subst q; exact e2
        · rw [e1 j q]; exact hlo j (by omega)
      · rw [e1 j (by omega)]; exact hhi j (by omega)
  refine lv_aload_n hx hb dX0_read_0 rfl (lv_at hl 0 rfl) ?_
  refine r_get hx hb hts hown hK (hW.at 0 rfl) rfl in_X0 5 (by decide) tb_51 (fun _ h => h) rfl dX0_read_1 ?_
  refine lv_istore_n (lv' := [(2, .int (nI (xt x))), (0, .ref hc), (1, .int (nI sg))]) hx hb dX0_read_4 rfl hl (by decide) rfl (fun ls hl => ?_)
  exact loop (max (xt x) (sg + 1) - xt x) (xt x) (xS x) _ _ ls (by omega) (Nat.le_refl _) h10 (fun _ _ => rfl) hW (lv_sub hl [1, 2, 0] rfl)
set_option maxHeartbeats 4000000 in
set_option maxRecDepth 100000 in
/-- Circuit.put -/
theorem k_put (l : Launch) (Z : Zt) (hc : Nat) (x : CS) (σ : Nat → Bool) (sg : Nat) (b : Bool) (hx0 : cok x σ) (hsg2 : 2 ≤ sg) (hsg : sg < xn x) (hsrc : xK x sg = 0) : MC l yX0_put cX0_put 4 (some .int) 2 60 (0) (0) Z (cw Z hc x) (fun _ => True) [.ref hc, .int (nI sg), .int (nI b.toNat)] (fun v w1 => ∃ (S2 : Nat → Nat) (t2 : Nat), v = some (.int (nI (σ sg).toNat)) ∧ w1 = cw Z hc (xset x S2 t2) ∧ cok (xset x S2 t2) (up σ sg b)) := by
  refine mc_of (by decide) (Nat.le_of_ble_eq_true rfl) (fun p e s m below meth c ls A hx hb hr hts hown hlk hml hin hK hG hW hA hAe hro hl R hRf hRc hRs hRl => ?_)
  have hl : lv_has ls 4 [(0, .ref hc), (1, .int (nI sg)), (2, .int (nI b.toNat))] := hl
  obtain ⟨⟨h1, h2, h3, h3b, h3c⟩, h4, h6, h7, h8, h9, h10, h11⟩ := id hx0
  have eS := h9 sg hsg hsrc
  have hbb : b.toNat ≤ 1 := by cases b <;> simp
  have hss : (σ sg).toNat ≤ 1 := by cases σ sg <;> simp
  have hW : Wd Z A s.heap ([eo hc 0 [.ref x.1.1, .ref x.1.2.1, .ref x.1.2.2.1, .ref x.1.2.2.2, .int (nI (xn x)), .int (nI (xt x))], ea Z x.1.1 (64 * xu x) (xK x), ea Z x.1.2.1 (64 * xu x) (xL x), ea Z x.1.2.2.1 (64 * xu x) (xR x), ea Z x.1.2.2.2 (64 * xu x) (xS x)]) _ _ := hW
  refine lv_aload_n hx hb dX0_put_0 rfl (lv_at hl 0 rfl) ?_
  refine r_get hx hb hts hown hK (hW.at 0 rfl) rfl in_X0 3 (by decide) tb_49 (fun _ h => h) rfl dX0_put_1 ?_
  refine lv_iload_n hx hb dX0_put_4 rfl (lv_at hl 1 rfl) ?_
  refine r_ald (i := sg) hx hb hK (hW.at 4 rfl) (by omega) (by omega) dX0_put_5 ?_
  refine n_eqv (congrArg nI eS) ?_
  refine lv_istore_n (lv' := [(3, .int (nI (σ sg).toNat)), (0, .ref hc), (1, .int (nI sg)), (2, .int (nI b.toNat))]) hx hb dX0_put_6 rfl hl (by decide) rfl (fun ls hl => ?_)
  refine lv_iload_n hx hb dX0_put_7 rfl (lv_at hl 0 rfl) ?_
  refine lv_iload_n hx hb dX0_put_8 rfl (lv_at hl 3 rfl) ?_
  by_cases hbs : (σ sg).toNat = b.toNat
  · refine n_eq_t (tgt := 33) hx hb (by omega) dX0_put_9 (by decide) ?_
    refine lv_iload_n hx hb dX0_put_33 rfl (lv_at hl 0 rfl) ?_
    have hσ : up σ sg b = σ := by
      funext j
      by_cases q : j = sg
      · subst q; rw [up_s]; revert hbs; cases b <;> cases σ j <;> simp
      · exact up_n _ _ q
    have hW : Wd Z A s.heap (cw Z hc (xset x (xS x) (xt x))) _ _ := hW
    exact e_int hx hb hr hlk hAe hW (by omega) (by omega) dX0_put_34 ⟨xS x, xt x, rfl, rfl, by rw [hσ]; exact hx0⟩
  · refine n_eq_f (tgt := 33) hx hb (by omega) (by omega) (by omega) dX0_put_9 (by decide) ?_
    refine lv_aload_n hx hb dX0_put_12 rfl (lv_at hl 1 rfl) ?_
    refine r_get hx hb hts hown hK (hW.at 0 rfl) rfl in_X0 3 (by decide) tb_49 (fun _ h => h) rfl dX0_put_13 ?_
    refine lv_iload_n hx hb dX0_put_16 rfl (lv_at hl 2 rfl) ?_
    refine lv_iload_n hx hb dX0_put_17 rfl (lv_at hl 3 rfl) ?_
    refine r_ast (i := sg) (x := b.toNat) hx hb hK hW 4 rfl (by omega) (by omega) dX0_put_18 (fun H locs hW => ?_)
    have hW : Wd Z A s.heap ([eo hc 0 [.ref x.1.1, .ref x.1.2.1, .ref x.1.2.2.1, .ref x.1.2.2.2, .int (nI (xn x)), .int (nI (xt x))], ea Z x.1.1 (64 * xu x) (xK x), ea Z x.1.2.1 (64 * xu x) (xL x), ea Z x.1.2.2.1 (64 * xu x) (xR x), ea Z x.1.2.2.2 (64 * xu x) (up (xS x) sg b.toNat)]) _ _ := hW
    refine lv_aload_n hx hb dX0_put_19 rfl (lv_at hl 1 rfl) ?_
    refine lv_aload_n hx hb dX0_put_20 rfl (lv_at hl 1 rfl) ?_
    refine r_get hx hb hts hown hK (hW.at 0 rfl) rfl in_X0 5 (by decide) tb_51 (fun _ h => h) rfl dX0_put_21 ?_
    refine lv_iload_n hx hb dX0_put_24 rfl (lv_at hl 2 rfl) ?_
    refine lv_iconst (v := nI 1) hx hb dX0_put_25 (by decide) ?_
    refine n_iadd hx hb dX0_put_26 ?_
    refine n_min hx hb hml hl hown hts tb_749 (by omega) (by rw [hRl]; exact Nat.le_of_ble_eq_true rfl) (by omega) (by omega) (x := xt x) (y := sg + 1) (by omega) (by omega) dX0_put_27 ?_
    refine r_put hx hb hts hown hK hW 0 (v := .int (nI (min (xt x) (sg + 1)))) rfl rfl in_X0 tyX0 tyX0_ok nmX0 5 (by decide) tb_51 (fun _ h => h) rfl rfl rfl (Nat.le_of_ble_eq_true rfl) dX0_put_30 (fun H locs hW => ?_)
    have hW : Wd Z A s.heap ([eo hc 0 [.ref x.1.1, .ref x.1.2.1, .ref x.1.2.2.1, .ref x.1.2.2.2, .int (nI (xn x)), .int (nI (min (xt x) (sg + 1)))], ea Z x.1.1 (64 * xu x) (xK x), ea Z x.1.2.1 (64 * xu x) (xL x), ea Z x.1.2.2.1 (64 * xu x) (xR x), ea Z x.1.2.2.2 (64 * xu x) (up (xS x) sg b.toNat)]) _ _ := hW
    refine lv_iload_n hx hb dX0_put_33 rfl (lv_at hl 0 rfl) ?_
    have hW : Wd Z A s.heap (cw Z hc (xset x (up (xS x) sg b.toNat) (min (xt x) (sg + 1)))) _ _ := hW
    refine e_int hx hb hr hlk hAe hW (by omega) (by omega) dX0_put_34 ⟨_, _, rfl, rfl, ⟨by show 2 ≤ min (xt x) (sg + 1); omega, by show min (xt x) (sg + 1) ≤ xn x; omega, h3, h3b, h3c⟩, h4, h6, ⟨(up_n _ _ (by omega)).trans h7.1, (up_n _ _ (by omega)).trans h7.2⟩, fun j hj => ?_, fun j hj hk => ?_, fun j hj => ?_, fun j j1 j2 => ?_⟩
    · have hj' : xn x ≤ j := hj
      rw [up_n _ _ (by omega)]; exact h8 j hj
    · show up (xS x) sg b.toNat j = (up σ sg b j).toNat
      by_cases q : j = sg
      · subst q; rw [up_s, up_s]
      · rw [up_n _ _ q, up_n _ _ q]; exact h9 j hj hk
    · have hj' : j < min (xt x) (sg + 1) := hj
      show up (xS x) sg b.toNat j = (vl x (up σ sg b) j).toNat
      by_cases q : j = sg
      · subst q; rw [up_s, vl, cv_src hsrc, up_s]
      · rw [up_n _ _ q, h10 j (by omega)]
        congr 1
        exact cv_low j (fun i hi => (up_n _ _ (by omega)).symm)
    · have hj' : xn x ≤ j := j1
      rw [show xS (xset x (up (xS x) sg b.toNat) (min (xt x) (sg + 1))) j = xS x j from up_n _ _ (by omega)]
      exact h11 j j1 j2
set_option maxHeartbeats 4000000 in
set_option maxRecDepth 100000 in
/-- Circuit() -/
theorem k_Circuit (l : Launch) (Z : Zt) (hc : Nat)  : MC l yX0_init cX0_init 1 none 1 40 (4) (256) Z ([eo hc 0 [.null, .null, .null, .null, .int 0, .int 0]]) (fun _ => True) [.ref hc] (fun v w1 => ∃ x : CS, v = none ∧ w1 = cw Z hc x ∧ cok x (fun g => decide (g = 1)) ∧ xn x = 2 ∧ xu x = 1) := by
  refine mc_of (by decide) (Nat.le_of_ble_eq_true rfl) (fun p e s m below meth c ls A hx hb hr hts hown hlk hml hin hK hG hW hA hAe hro hl R hRf hRc hRs hRl => ?_)
  have hl : lv_has ls 1 [(0, .ref hc)] := hl
  refine lv_aload_n hx hb dX0_init_0 rfl (lv_at hl 0 rfl) ?_
  refine W.objInit hx hb hown (hts _ tb_45) (hts _ tb_oi2) (hts _ tb_oi3) rfl (hl.1.trans hml.symm) rfl dX0_init_1 (by omega) (by rw [hRl]; exact Nat.le_of_ble_eq_true rfl) ?_
  refine W.eq (g2 := F0 m 4 ls []) rfl ?_
  refine lv_aload_n hx hb dX0_init_4 rfl (lv_at hl 0 rfl) ?_
  refine lv_bipush (v := nI 64) hx hb dX0_init_5 (by decide) ?_
  refine r_newa (n := 64) hx hb hts tb_65 hK hW hA (by omega) (by omega) (by omega) dX0_init_7 (fun q0 H hW hsz_q0 hq_q0 => ?_)
  have hW : Wd Z A s.heap ([eo hc 0 [.null, .null, .null, .null, .int 0, .int 0], ea Z q0 64 (fun _ => 0)]) _ _ := hW
  refine r_put hx hb hts hown hK hW 0 (v := .ref q0) rfl rfl in_X0 tyX0 tyX0_ok nmX0 0 (by decide) tb_46 (fun _ h => h) rfl rfl rfl (Nat.le_of_ble_eq_true rfl) dX0_init_9 (fun H locs hW => ?_)
  have hW : Wd Z A s.heap ([eo hc 0 [.ref q0, .null, .null, .null, .int 0, .int 0], ea Z q0 64 (fun _ => 0)]) _ _ := hW
  refine lv_aload_n hx hb dX0_init_12 rfl (lv_at hl 0 rfl) ?_
  refine lv_bipush (v := nI 64) hx hb dX0_init_13 (by decide) ?_
  refine r_newa (n := 64) hx hb hts tb_65 hK hW hA (by omega) (by omega) (by omega) dX0_init_15 (fun q1 H hW hsz_q1 hq_q1 => ?_)
  have hW : Wd Z A s.heap ([eo hc 0 [.ref q0, .null, .null, .null, .int 0, .int 0], ea Z q0 64 (fun _ => 0), ea Z q1 64 (fun _ => 0)]) _ _ := hW
  refine r_put hx hb hts hown hK hW 0 (v := .ref q1) rfl rfl in_X0 tyX0 tyX0_ok nmX0 1 (by decide) tb_47 (fun _ h => h) rfl rfl rfl (Nat.le_of_ble_eq_true rfl) dX0_init_17 (fun H locs hW => ?_)
  have hW : Wd Z A s.heap ([eo hc 0 [.ref q0, .ref q1, .null, .null, .int 0, .int 0], ea Z q0 64 (fun _ => 0), ea Z q1 64 (fun _ => 0)]) _ _ := hW
  refine lv_aload_n hx hb dX0_init_20 rfl (lv_at hl 0 rfl) ?_
  refine lv_bipush (v := nI 64) hx hb dX0_init_21 (by decide) ?_
  refine r_newa (n := 64) hx hb hts tb_65 hK hW hA (by omega) (by omega) (by omega) dX0_init_23 (fun q2 H hW hsz_q2 hq_q2 => ?_)
  have hW : Wd Z A s.heap ([eo hc 0 [.ref q0, .ref q1, .null, .null, .int 0, .int 0], ea Z q0 64 (fun _ => 0), ea Z q1 64 (fun _ => 0), ea Z q2 64 (fun _ => 0)]) _ _ := hW
  refine r_put hx hb hts hown hK hW 0 (v := .ref q2) rfl rfl in_X0 tyX0 tyX0_ok nmX0 2 (by decide) tb_48 (fun _ h => h) rfl rfl rfl (Nat.le_of_ble_eq_true rfl) dX0_init_25 (fun H locs hW => ?_)
  have hW : Wd Z A s.heap ([eo hc 0 [.ref q0, .ref q1, .ref q2, .null, .int 0, .int 0], ea Z q0 64 (fun _ => 0), ea Z q1 64 (fun _ => 0), ea Z q2 64 (fun _ => 0)]) _ _ := hW
  refine lv_aload_n hx hb dX0_init_28 rfl (lv_at hl 0 rfl) ?_
  refine lv_bipush (v := nI 64) hx hb dX0_init_29 (by decide) ?_
  refine r_newa (n := 64) hx hb hts tb_65 hK hW hA (by omega) (by omega) (by omega) dX0_init_31 (fun q3 H hW hsz_q3 hq_q3 => ?_)
  have hW : Wd Z A s.heap ([eo hc 0 [.ref q0, .ref q1, .ref q2, .null, .int 0, .int 0], ea Z q0 64 (fun _ => 0), ea Z q1 64 (fun _ => 0), ea Z q2 64 (fun _ => 0), ea Z q3 64 (fun _ => 0)]) _ _ := hW
  refine r_put hx hb hts hown hK hW 0 (v := .ref q3) rfl rfl in_X0 tyX0 tyX0_ok nmX0 3 (by decide) tb_49 (fun _ h => h) rfl rfl rfl (Nat.le_of_ble_eq_true rfl) dX0_init_33 (fun H locs hW => ?_)
  have hW : Wd Z A s.heap ([eo hc 0 [.ref q0, .ref q1, .ref q2, .ref q3, .int 0, .int 0], ea Z q0 64 (fun _ => 0), ea Z q1 64 (fun _ => 0), ea Z q2 64 (fun _ => 0), ea Z q3 64 (fun _ => 0)]) _ _ := hW
  refine lv_aload_n hx hb dX0_init_36 rfl (lv_at hl 0 rfl) ?_
  refine r_get hx hb hts hown hK (hW.at 0 rfl) rfl in_X0 3 (by decide) tb_49 (fun _ h => h) rfl dX0_init_37 ?_
  refine lv_iconst (v := nI 1) hx hb dX0_init_40 (by decide) ?_
  refine lv_iconst (v := nI 1) hx hb dX0_init_41 (by decide) ?_
  refine r_ast (i := 1) (x := 1) hx hb hK hW 4 rfl (by omega) (by omega) dX0_init_42 (fun H locs hW => ?_)
  have hW : Wd Z A s.heap ([eo hc 0 [.ref q0, .ref q1, .ref q2, .ref q3, .int 0, .int 0], ea Z q0 64 (fun _ => 0), ea Z q1 64 (fun _ => 0), ea Z q2 64 (fun _ => 0), ea Z q3 64 (up (fun _ => 0) 1 1)]) _ _ := hW
  refine lv_aload_n hx hb dX0_init_43 rfl (lv_at hl 0 rfl) ?_
  refine lv_iconst (v := nI 2) hx hb dX0_init_44 (by decide) ?_
  refine r_put hx hb hts hown hK hW 0 (v := .int (nI 2)) rfl rfl in_X0 tyX0 tyX0_ok nmX0 4 (by decide) tb_50 (fun _ h => h) rfl rfl rfl (Nat.le_of_ble_eq_true rfl) dX0_init_45 (fun H locs hW => ?_)
  have hW : Wd Z A s.heap ([eo hc 0 [.ref q0, .ref q1, .ref q2, .ref q3, .int (nI 2), .int 0], ea Z q0 64 (fun _ => 0), ea Z q1 64 (fun _ => 0), ea Z q2 64 (fun _ => 0), ea Z q3 64 (up (fun _ => 0) 1 1)]) _ _ := hW
  refine lv_aload_n hx hb dX0_init_48 rfl (lv_at hl 0 rfl) ?_
  refine lv_aload_n hx hb dX0_init_49 rfl (lv_at hl 0 rfl) ?_
  refine r_get hx hb hts hown hK (hW.at 0 rfl) rfl in_X0 4 (by decide) tb_50 (fun _ h => h) rfl dX0_init_50 ?_
  refine r_put hx hb hts hown hK hW 0 (v := .int (nI 2)) rfl rfl in_X0 tyX0 tyX0_ok nmX0 5 (by decide) tb_51 (fun _ h => h) rfl rfl rfl (Nat.le_of_ble_eq_true rfl) dX0_init_53 (fun H locs hW => ?_)
  have hW : Wd Z A s.heap ([eo hc 0 [.ref q0, .ref q1, .ref q2, .ref q3, .int (nI 2), .int (nI 2)], ea Z q0 64 (fun _ => 0), ea Z q1 64 (fun _ => 0), ea Z q2 64 (fun _ => 0), ea Z q3 64 (up (fun _ => 0) 1 1)]) _ _ := hW
  have hW : Wd Z A s.heap (cw Z hc ((q0, q1, q2, q3), 1, fun _ => 0, fun _ => 0, fun _ => 0, up (fun _ => 0) 1 1, 2, 2)) _ _ := hW.sub [0, 1, 2, 3, 4] (by decide) rfl
  refine e_void hx hb hr hlk hAe hW (by omega) (by omega) dX0_init_56 ⟨_, rfl, rfl, ⟨⟨Nat.le_of_ble_eq_true rfl, Nat.le_of_ble_eq_true rfl, Nat.le_of_ble_eq_true rfl, Nat.le_of_ble_eq_true rfl, Nat.le_of_ble_eq_true rfl⟩, ⟨rfl, rfl⟩, fun g g2 gn => ?_, ⟨rfl, rfl⟩, fun g hg => ?_, fun g hg _ => ?_, fun g hg => ?_, fun g g1 g2 => ?_⟩, rfl, rfl⟩
  · have : g < 2 := gn
    omega
  · have h2 : 2 ≤ g := hg
    exact decide_eq_false (by omega)
  · have h2 : g < 2 := hg
    rcases (show g = 0 ∨ g = 1 by omega) with h | h <;> subst h <;> rfl
  · have h2 : g < 2 := hg
    rw [vl, cv_src rfl]
    rcases (show g = 0 ∨ g = 1 by omega) with h | h <;> subst h <;> rfl
  · have h2 : 2 ≤ g := g1
    show up (fun _ => 0) 1 1 g = 0
    exact up_n _ _ (by omega)
