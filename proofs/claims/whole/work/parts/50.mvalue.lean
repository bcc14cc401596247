theorem and_mask {r : Int64} {w : Nat} (hw : w ≤ 64) : r &&& lN (2 ^ w - 1) = lN (uN r % 2 ^ w) := by
  have h := two_le hw
  have h0 := Nat.two_pow_pos w
  apply uN_inj
  rw [uN_mask hw, uN_lN' (Nat.lt_of_lt_of_le (Nat.mod_lt _ h0) h)]
set_option maxHeartbeats 4000000 in
set_option maxRecDepth 100000 in
theorem k_reckonAll (l : Launch) (Z : Zt) (hm : Nat) (ad : MA) (cd n wg : Nat) (K F S T D V : Nat → Nat) (t : Nat → Nat) (hn : n ≤ 4000) (hwf : ∀ i, i < n → wfv K F S T D i) (hV : ∀ i, i < n → V i < 2 ^ D i) (ht : ∀ i, i < n → t i < 2 ^ D i ∧ (K i ≤ 1 → V i = t i) ∧ (2 ≤ K i → t i = NV K F S T D t i)) : MC l yX4_reckonAll cX4_reckonAll 2 none 5 260 (0) (0) Z (mw Z hm ad cd n wg K F S T D V) (fun _ => True) [.ref hm] (fun r w1 => r = none ∧ ∃ V2, w1 = mw Z hm ad cd n wg K F S T D V2 ∧ ∀ i, i < n → V2 i = t i) := by
  refine mc_of (by decide) (Nat.le_of_ble_eq_true rfl) (fun p e s m below meth c ls A hx hb hr hts hown hlk hml hin hK hG hW hA hAe hro hl R hRf hRc hRs hRl => ?_)
  have hl : lv_has ls 2 [(0, .ref hm)] := hl
  have hW : Wd Z A s.heap ([eo hm 4 [.int (nI cd), .int (nI n), .int (nI wg), .ref ad.1, .ref ad.2.1, .ref ad.2.2.1, .ref ad.2.2.2.1, .ref ad.2.2.2.2.1, .ref ad.2.2.2.2.2], ey Z ad.1 4000 K, ea Z ad.2.1 4000 F, ea Z ad.2.2.1 4000 S, ea Z ad.2.2.2.1 4000 T, ea Z ad.2.2.2.2.1 4000 D, el Z ad.2.2.2.2.2 4000 V]) _ _ := hW
  have loop : ∀ (d v : Nat) (U : Nat → Nat) (H : Heap) (locs : List Loc) (ls : Array Slot), v + d = n → (∀ i, i < v → U i = t i) → (∀ i, v ≤ i → U i = V i) → Wd Z A s.heap ([eo hm 4 [.int (nI cd), .int (nI n), .int (nI wg), .ref ad.1, .ref ad.2.1, .ref ad.2.2.1, .ref ad.2.2.2.1, .ref ad.2.2.2.2.1, .ref ad.2.2.2.2.2], ey Z ad.1 4000 K, ea Z ad.2.1 4000 F, ea Z ad.2.2.1 4000 S, ea Z ad.2.2.2.1 4000 T, ea Z ad.2.2.2.2.1 4000 D, el Z ad.2.2.2.2.2 4000 U]) H locs → lv_has ls 2 [(0, .ref hm), (1, .int (nI v))] → W p l e R s m ([.ref hm] : List Value).toArray below meth c H locs 0 0 (MQ below (QC Z (mw Z hm ad cd n wg K F S T D V) s.heap.size (fun r w1 => r = none ∧ ∃ V2, w1 = mw Z hm ad cd n wg K F S T D V2 ∧ ∀ i, i < n → V2 i = t i)) ([.ref hm] : List Value).toArray s 0 0 A) (F0 m 2 ls []) := by
    intro d
    induction d with
    | zero =>
      intro v U H locs ls hd hlo hhi hW hl
      refine lv_iload_n hx hb dX4_reckonAll_2 rfl (lv_at hl 1 rfl) ?_
      refine lv_aload_n hx hb dX4_reckonAll_3 rfl (lv_at hl 0 rfl) ?_
      refine r_get hx hb hts hown hK (hW.at 0 rfl) rfl in_X4 1 (by decide) tb_780 (fun _ h => h) rfl dX4_reckonAll_4 ?_
      refine n_ge_t (tgt := 37) hx hb (by omega) (by omega) dX4_reckonAll_7 (by decide) ?_
      exact e_void hx hb hr hlk hAe hW (by omega) (by omega) dX4_reckonAll_37 ⟨rfl, U, rfl, fun i hi => hlo i (by omega)⟩
    | succ d ih =>
      intro v U H locs ls hd hlo hhi hW hl
      have hUl : ∀ i, i < n → U i < 2 ^ D i := fun i hi => by
        by_cases h : i < v
        · rw [hlo i h]; exact (ht i hi).1
        · rw [hhi i (by omega)]; exact hV i hi
      have hvn : v < n := by omega
      have hw64 := (hwf v hvn).2.1
      have hNV : NV K F S T D U v = t v := by
        rw [NV_congr (U := t) (hwf v hvn) (fun h => by rw [hhi v (Nat.le_refl _)]; exact (ht v hvn).2.1 h) (fun i hi => hlo i hi)]
        by_cases h : K v ≤ 1
        · unfold NV NR
          rw [if_pos (by omega)]
        · exact ((ht v hvn).2.2 (by omega)).symm
      refine lv_iload_n hx hb dX4_reckonAll_2 rfl (lv_at hl 1 rfl) ?_
      refine lv_aload_n hx hb dX4_reckonAll_3 rfl (lv_at hl 0 rfl) ?_
      refine r_get hx hb hts hown hK (hW.at 0 rfl) rfl in_X4 1 (by decide) tb_780 (fun _ h => h) rfl dX4_reckonAll_4 ?_
      refine n_ge_f (tgt := 37) hx hb (by omega) (by omega) dX4_reckonAll_7 (by decide) ?_
      refine lv_aload_n hx hb dX4_reckonAll_10 rfl (lv_at hl 0 rfl) ?_
      refine r_get hx hb hts hown hK (hW.at 0 rfl) rfl in_X4 8 (by decide) tb_787 (fun _ h => h) rfl dX4_reckonAll_11 ?_
      refine lv_iload_n hx hb dX4_reckonAll_14 rfl (lv_at hl 1 rfl) ?_
      refine lv_aload_n hx hb dX4_reckonAll_15 rfl (lv_at hl 0 rfl) ?_
      refine lv_iload_n hx hb dX4_reckonAll_16 rfl (lv_at hl 1 rfl) ?_
      refine c_virt (As := [.int (nI v)]) (rest := [.int (nI v), .ref ad.2.2.2.2.2]) (wc := [eo hm 4 [.int (nI cd), .int (nI n), .int (nI wg), .ref ad.1, .ref ad.2.1, .ref ad.2.2.1, .ref ad.2.2.2.1, .ref ad.2.2.2.2.1, .ref ad.2.2.2.2.2], ey Z ad.1 4000 K, ea Z ad.2.1 4000 F, ea Z ad.2.2.1 4000 S, ea Z ad.2.2.2.1 4000 T, ea Z ad.2.2.2.2.1 4000 D, el Z ad.2.2.2.2.2 4000 U]) (wr := []) (nl := 0) hx hb hml hown hts hK hG rfl hA hl (k_reckon l Z hm ad cd n wg K F S T D U v hvn hn hwf hUl) hW trivial (hW.at 0 rfl) rfl rfl tb_880 tb_882 ts_14 tb_7 tb_883 (nA := 1) (by decide +kernel) rfl ⟨by omega, by omega⟩ ⟨by omega, by omega⟩ rfl (Nat.le_of_ble_eq_true rfl) dX4_reckonAll_17 (fun v w1 H1 L1 hp hW hzz hkk hdd => ?_)
      obtain ⟨r, rfl, rfl, hr2⟩ := hp
      clear hzz hkk hdd
      generalize H1 = H at hW  ⊢
      generalize L1 = locs at hW ⊢
      have hW : Wd Z A s.heap ([eo hm 4 [.int (nI cd), .int (nI n), .int (nI wg), .ref ad.1, .ref ad.2.1, .ref ad.2.2.1, .ref ad.2.2.2.1, .ref ad.2.2.2.2.1, .ref ad.2.2.2.2.2], ey Z ad.1 4000 K, ea Z ad.2.1 4000 F, ea Z ad.2.2.1 4000 S, ea Z ad.2.2.2.1 4000 T, ea Z ad.2.2.2.2.1 4000 D, el Z ad.2.2.2.2.2 4000 U]) _ _ := hW
      refine W.eq (g2 := F0 m 20 ls [.long r, .int (nI v), .ref ad.2.2.2.2.2]) rfl ?_
      refine lv_aload_n hx hb dX4_reckonAll_20 rfl (lv_at hl 0 rfl) ?_
      refine r_get hx hb hts hown hK (hW.at 0 rfl) rfl in_X4 7 (by decide) tb_786 (fun _ h => h) rfl dX4_reckonAll_21 ?_
      refine lv_iload_n hx hb dX4_reckonAll_24 rfl (lv_at hl 1 rfl) ?_
      refine r_ald (i := v) hx hb hK (hW.at 5 rfl) (by omega) (by omega) dX4_reckonAll_25 ?_
      refine c_stat (As := [.int (nI (D v))]) (rest := [.long r, .int (nI v), .ref ad.2.2.2.2.2]) (wc := []) (wr := [eo hm 4 [.int (nI cd), .int (nI n), .int (nI wg), .ref ad.1, .ref ad.2.1, .ref ad.2.2.1, .ref ad.2.2.2.1, .ref ad.2.2.2.2.1, .ref ad.2.2.2.2.2], ey Z ad.1 4000 K, ea Z ad.2.1 4000 F, ea Z ad.2.2.1 4000 S, ea Z ad.2.2.2.1 4000 T, ea Z ad.2.2.2.2.1 4000 D, el Z ad.2.2.2.2.2 4000 U]) hx hb hml hown hts hK hG rfl hA hl (k_mask l Z (D v) hw64) hW trivial tb_825 tb_826 tb_7 tb_827 (nA := 1) (by decide +kernel) rfl ⟨by omega, by omega⟩ ⟨by omega, by omega⟩ rfl (Nat.le_of_ble_eq_true rfl) dX4_reckonAll_26 (fun v w1 H1 L1 hp hW hzz hkk hdd => ?_)
      obtain ⟨rfl, rfl⟩ := hp
      clear hzz hkk hdd
      generalize H1 = H at hW  ⊢
      generalize L1 = locs at hW ⊢
      have hW : Wd Z A s.heap ([eo hm 4 [.int (nI cd), .int (nI n), .int (nI wg), .ref ad.1, .ref ad.2.1, .ref ad.2.2.1, .ref ad.2.2.2.1, .ref ad.2.2.2.2.1, .ref ad.2.2.2.2.2], ey Z ad.1 4000 K, ea Z ad.2.1 4000 F, ea Z ad.2.2.1 4000 S, ea Z ad.2.2.2.1 4000 T, ea Z ad.2.2.2.2.1 4000 D, el Z ad.2.2.2.2.2 4000 U]) _ _ := hW
      refine W.eq (g2 := F0 m 29 ls [.long (lN (2 ^ D v - 1)), .long r, .int (nI v), .ref ad.2.2.2.2.2]) rfl ?_
      refine lv_land hx hb dX4_reckonAll_29 ?_
      rw [and_mask hw64, hr2, hNV]
      refine r_last (i := v) (x := (t v)) hx hb hK hW 6 rfl (by omega) (by omega) dX4_reckonAll_30 (fun H locs hW => ?_)
      have hW : Wd Z A s.heap ([eo hm 4 [.int (nI cd), .int (nI n), .int (nI wg), .ref ad.1, .ref ad.2.1, .ref ad.2.2.1, .ref ad.2.2.2.1, .ref ad.2.2.2.2.1, .ref ad.2.2.2.2.2], ey Z ad.1 4000 K, ea Z ad.2.1 4000 F, ea Z ad.2.2.1 4000 S, ea Z ad.2.2.2.1 4000 T, ea Z ad.2.2.2.2.1 4000 D, el Z ad.2.2.2.2.2 4000 (up U v (t v))]) _ _ := hW
      refine lv_iinc (v := nI (v + 1)) (lv' := [(1, .int (nI (v + 1))), (0, .ref hm)]) hx hb dX4_reckonAll_31 hl (k := 1) rfl (inc1 _) (by decide) rfl (fun ls hl => ?_)
      refine lv_goto (tgt := 2) hx hb dX4_reckonAll_34 (by decide) ?_
      exact ih (v + 1) (up U v (t v)) _ _ ls (by omega) (fun i hi => by
        by_cases h : i = v
        · rw [h, up_s]
        · rw [up_n _ _ h]; exact hlo i (by omega)) (fun i hi => by rw [up_n _ _ (by omega)]; exact hhi i (by omega)) hW (lv_sub hl [1, 0] rfl)
  refine lv_iconst (v := nI 0) hx hb dX4_reckonAll_0 (by decide) ?_
  refine lv_istore_n (lv' := [(1, .int (nI 0)), (0, .ref hm)]) hx hb dX4_reckonAll_1 rfl hl (by decide) rfl (fun ls hl => ?_)
  exact loop n 0 V _ _ ls (by omega) (fun i hi => by omega) (fun i hi => rfl) hW (lv_sub hl [1, 0] rfl)
set_option maxHeartbeats 4000000 in
set_option maxRecDepth 100000 in
theorem k_mset1 (l : Launch) (Z : Zt) (hm : Nat) (ad : MA) (cd n wg : Nat) (K F S T D V : Nat → Nat) (i : Nat) (to : Int64) (hi : i < n) (hn : n ≤ 4000) (hki : K i = 0) (hw64 : D i ≤ 64) : MC l yX4_set cX4_set 6 (some .long) 1 60 (0) (0) Z (mw Z hm ad cd n wg K F S T D V) (fun _ => True) [.ref hm, .int (nI i), .long to] (fun r w1 => r = some (.long (lN (V i))) ∧ w1 = mw Z hm ad 0 n wg K F S T D (up V i (uN to % 2 ^ D i))) := by
  refine mc_of (by decide) (Nat.le_of_ble_eq_true rfl) (fun p e s m below meth c ls A hx hb hr hts hown hlk hml hin hK hG hW hA hAe hro hl R hRf hRc hRs hRl => ?_)
  have hl : lv_has ls 6 [(0, .ref hm), (1, .int (nI i)), (2, .long to)] := hl
  have hW : Wd Z A s.heap ([eo hm 4 [.int (nI cd), .int (nI n), .int (nI wg), .ref ad.1, .ref ad.2.1, .ref ad.2.2.1, .ref ad.2.2.2.1, .ref ad.2.2.2.2.1, .ref ad.2.2.2.2.2], ey Z ad.1 4000 K, ea Z ad.2.1 4000 F, ea Z ad.2.2.1 4000 S, ea Z ad.2.2.2.1 4000 T, ea Z ad.2.2.2.2.1 4000 D, el Z ad.2.2.2.2.2 4000 V]) _ _ := hW
  refine lv_aload_n hx hb dX4_set_0 rfl (lv_at hl 0 rfl) ?_
  refine lv_aload_n hx hb dX4_set_1 rfl (lv_at hl 0 rfl) ?_
  refine lv_iload_n hx hb dX4_set_2 rfl (lv_at hl 1 rfl) ?_
  refine c_virt (As := [.int (nI i)]) (rest := [.ref hm]) (wc := [eo hm 4 [.int (nI cd), .int (nI n), .int (nI wg), .ref ad.1, .ref ad.2.1, .ref ad.2.2.1, .ref ad.2.2.2.1, .ref ad.2.2.2.2.1, .ref ad.2.2.2.2.2], ey Z ad.1 4000 K, ea Z ad.2.1 4000 F, ea Z ad.2.2.1 4000 S, ea Z ad.2.2.2.1 4000 T, ea Z ad.2.2.2.2.1 4000 D, el Z ad.2.2.2.2.2 4000 V]) (wr := []) (nl := 0) hx hb hml hown hts hK hG rfl hA hl (k_is1 l Z hm ad cd n wg K F S T D V i hi hn) hW trivial (hW.at 0 rfl) rfl rfl tb_833 tb_835 ts_11 tb_7 tb_836 (nA := 1) (by decide +kernel) rfl ⟨by omega, by omega⟩ ⟨by omega, by omega⟩ rfl (Nat.le_of_ble_eq_true rfl) dX4_set_3 (fun v w1 H1 L1 hp hW hzz hkk hdd => ?_)
  obtain ⟨rfl, rfl⟩ := hp
  clear hzz hkk hdd
  generalize H1 = H at hW  ⊢
  generalize L1 = locs at hW ⊢
  have hW : Wd Z A s.heap ([eo hm 4 [.int (nI cd), .int (nI n), .int (nI wg), .ref ad.1, .ref ad.2.1, .ref ad.2.2.1, .ref ad.2.2.2.1, .ref ad.2.2.2.2.1, .ref ad.2.2.2.2.2], ey Z ad.1 4000 K, ea Z ad.2.1 4000 F, ea Z ad.2.2.1 4000 S, ea Z ad.2.2.2.1 4000 T, ea Z ad.2.2.2.2.1 4000 D, el Z ad.2.2.2.2.2 4000 V]) _ _ := hW
  refine W.eq (g2 := F0 m 6 ls [.int (nI 1), .ref hm]) rfl ?_
  refine n_zeq_f (tgt := 22) hx hb (by decide) (by omega) dX4_set_6 (by decide) ?_
  refine lv_aload_n hx hb dX4_set_9 rfl (lv_at hl 0 rfl) ?_
  refine r_get hx hb hts hown hK (hW.at 0 rfl) rfl in_X4 3 (by decide) tb_782 (fun _ h => h) rfl dX4_set_10 ?_
  refine lv_iload_n hx hb dX4_set_13 rfl (lv_at hl 1 rfl) ?_
  refine r_bald (i := i) hx hb hK (hW.at 1 rfl) (by omega) (by omega) dX4_set_14 ?_
  refine n_zne_f (tgt := 22) hx hb hki dX4_set_15 (by decide) ?_
  refine lv_iconst (v := nI 0) hx hb dX4_set_18 (by decide) ?_
  refine lv_goto (tgt := 23) hx hb dX4_set_19 (by decide) ?_
  refine r_put hx hb hts hown hK hW 0 (v := .int (nI 0)) rfl rfl in_X4 tyX4 tyX4_ok nmX4 0 (by decide) tb_779 (fun _ h => h) rfl rfl rfl (Nat.le_of_ble_eq_true rfl) dX4_set_23 (fun H locs hW => ?_)
  have hW : Wd Z A s.heap ([eo hm 4 [.int (nI 0), .int (nI n), .int (nI wg), .ref ad.1, .ref ad.2.1, .ref ad.2.2.1, .ref ad.2.2.2.1, .ref ad.2.2.2.2.1, .ref ad.2.2.2.2.2], ey Z ad.1 4000 K, ea Z ad.2.1 4000 F, ea Z ad.2.2.1 4000 S, ea Z ad.2.2.2.1 4000 T, ea Z ad.2.2.2.2.1 4000 D, el Z ad.2.2.2.2.2 4000 V]) _ _ := hW
  refine lv_aload_n hx hb dX4_set_26 rfl (lv_at hl 0 rfl) ?_
  refine r_get hx hb hts hown hK (hW.at 0 rfl) rfl in_X4 0 (by decide) tb_779 (fun _ h => h) rfl dX4_set_27 ?_
  refine n_zle_t (tgt := 35) hx hb (by omega) (by omega) dX4_set_30 (by decide) ?_
  refine lv_aload_n hx hb dX4_set_35 rfl (lv_at hl 0 rfl) ?_
  refine r_get hx hb hts hown hK (hW.at 0 rfl) rfl in_X4 8 (by decide) tb_787 (fun _ h => h) rfl dX4_set_36 ?_
  refine lv_iload_n hx hb dX4_set_39 rfl (lv_at hl 1 rfl) ?_
  refine r_lald (i := i) hx hb hK (hW.at 6 rfl) (by omega) (by omega) dX4_set_40 ?_
  refine lv_lstore (lv' := [(4, .long (lN (V i))), (0, .ref hm), (1, .int (nI i)), (2, .long to)]) hx hb dX4_set_41 hl (by decide) rfl (fun ls hl => ?_)
  refine lv_aload_n hx hb dX4_set_43 rfl (lv_at hl 1 rfl) ?_
  refine r_get hx hb hts hown hK (hW.at 0 rfl) rfl in_X4 8 (by decide) tb_787 (fun _ h => h) rfl dX4_set_44 ?_
  refine lv_iload_n hx hb dX4_set_47 rfl (lv_at hl 2 rfl) ?_
  refine lv_lload_n hx hb dX4_set_48 rfl (lv_at hl 3 rfl) ?_
  refine lv_aload_n hx hb dX4_set_49 rfl (lv_at hl 1 rfl) ?_
  refine r_get hx hb hts hown hK (hW.at 0 rfl) rfl in_X4 7 (by decide) tb_786 (fun _ h => h) rfl dX4_set_50 ?_
  refine lv_iload_n hx hb dX4_set_53 rfl (lv_at hl 2 rfl) ?_
  refine r_ald (i := i) hx hb hK (hW.at 5 rfl) (by omega) (by omega) dX4_set_54 ?_
  refine c_stat (As := [.int (nI (D i))]) (rest := [.long to, .int (nI i), .ref ad.2.2.2.2.2]) (wc := []) (wr := [eo hm 4 [.int (nI 0), .int (nI n), .int (nI wg), .ref ad.1, .ref ad.2.1, .ref ad.2.2.1, .ref ad.2.2.2.1, .ref ad.2.2.2.2.1, .ref ad.2.2.2.2.2], ey Z ad.1 4000 K, ea Z ad.2.1 4000 F, ea Z ad.2.2.1 4000 S, ea Z ad.2.2.2.1 4000 T, ea Z ad.2.2.2.2.1 4000 D, el Z ad.2.2.2.2.2 4000 V]) hx hb hml hown hts hK hG rfl hA hl (k_mask l Z (D i) hw64) hW trivial tb_825 tb_826 tb_7 tb_827 (nA := 1) (by decide +kernel) rfl ⟨by omega, by omega⟩ ⟨by omega, by omega⟩ rfl (Nat.le_of_ble_eq_true rfl) dX4_set_55 (fun v w1 H1 L1 hp hW hzz hkk hdd => ?_)
  obtain ⟨rfl, rfl⟩ := hp
  clear hzz hkk hdd
  generalize H1 = H at hW  ⊢
  generalize L1 = locs at hW ⊢
  have hW : Wd Z A s.heap ([eo hm 4 [.int (nI 0), .int (nI n), .int (nI wg), .ref ad.1, .ref ad.2.1, .ref ad.2.2.1, .ref ad.2.2.2.1, .ref ad.2.2.2.2.1, .ref ad.2.2.2.2.2], ey Z ad.1 4000 K, ea Z ad.2.1 4000 F, ea Z ad.2.2.1 4000 S, ea Z ad.2.2.2.1 4000 T, ea Z ad.2.2.2.2.1 4000 D, el Z ad.2.2.2.2.2 4000 V]) _ _ := hW
  refine W.eq (g2 := F0 m 58 ls [.long (lN (2 ^ D i - 1)), .long to, .int (nI i), .ref ad.2.2.2.2.2]) rfl ?_
  refine lv_land hx hb dX4_set_58 ?_
  rw [and_mask hw64]
  refine r_last (i := i) (x := (uN to % 2 ^ D i)) hx hb hK hW 6 rfl (by omega) (by omega) dX4_set_59 (fun H locs hW => ?_)
  have hW : Wd Z A s.heap ([eo hm 4 [.int (nI 0), .int (nI n), .int (nI wg), .ref ad.1, .ref ad.2.1, .ref ad.2.2.1, .ref ad.2.2.2.1, .ref ad.2.2.2.2.1, .ref ad.2.2.2.2.2], ey Z ad.1 4000 K, ea Z ad.2.1 4000 F, ea Z ad.2.2.1 4000 S, ea Z ad.2.2.2.1 4000 T, ea Z ad.2.2.2.2.1 4000 D, el Z ad.2.2.2.2.2 4000 (up V i (uN to % 2 ^ D i))]) _ _ := hW
  refine lv_lload hx hb dX4_set_60 (lv_at hl 0 rfl) ?_
  exact e_long hx hb hr hlk hAe hW (by omega) (by omega) dX4_set_62 ⟨rfl, rfl⟩
set_option maxHeartbeats 4000000 in
set_option maxRecDepth 100000 in
theorem k_mset0 (l : Launch) (Z : Zt) (hm : Nat) (ad : MA) (cd n wg : Nat) (K F S T D V : Nat → Nat) (xv : Int32) (to : Int64) (hn : n ≤ 4000) (hki : ¬ ∃ i, i < n ∧ xv = nI i ∧ K i = 0) (hK8 : ∀ i, i < n → K i < 128) : MC l yX4_set cX4_set 6 (some .long) 1 60 (0) (0) Z (mw Z hm ad cd n wg K F S T D V) (fun _ => True) [.ref hm, .int xv, .long to] (fun r w1 => (∃ r0 : Int64, r = some (.long r0)) ∧ w1 = mw Z hm ad 1 n wg K F S T D V) := by
  refine mc_of (by decide) (Nat.le_of_ble_eq_true rfl) (fun p e s m below meth c ls A hx hb hr hts hown hlk hml hin hK hG hW hA hAe hro hl R hRf hRc hRs hRl => ?_)
  have hl : lv_has ls 6 [(0, .ref hm), (1, .int xv), (2, .long to)] := hl
  have hW : Wd Z A s.heap ([eo hm 4 [.int (nI cd), .int (nI n), .int (nI wg), .ref ad.1, .ref ad.2.1, .ref ad.2.2.1, .ref ad.2.2.2.1, .ref ad.2.2.2.2.1, .ref ad.2.2.2.2.2], ey Z ad.1 4000 K, ea Z ad.2.1 4000 F, ea Z ad.2.2.1 4000 S, ea Z ad.2.2.2.1 4000 T, ea Z ad.2.2.2.2.1 4000 D, el Z ad.2.2.2.2.2 4000 V]) _ _ := hW
  refine lv_aload_n hx hb dX4_set_0 rfl (lv_at hl 0 rfl) ?_
  refine lv_aload_n hx hb dX4_set_1 rfl (lv_at hl 0 rfl) ?_
  refine lv_iload_n hx hb dX4_set_2 rfl (lv_at hl 1 rfl) ?_
  by_cases ha : vix xv n
  · obtain ⟨i, hi, rfl⟩ := ha
    refine c_virt (As := [.int (nI i)]) (rest := [.ref hm]) (wc := [eo hm 4 [.int (nI cd), .int (nI n), .int (nI wg), .ref ad.1, .ref ad.2.1, .ref ad.2.2.1, .ref ad.2.2.2.1, .ref ad.2.2.2.2.1, .ref ad.2.2.2.2.2], ey Z ad.1 4000 K, ea Z ad.2.1 4000 F, ea Z ad.2.2.1 4000 S, ea Z ad.2.2.2.1 4000 T, ea Z ad.2.2.2.2.1 4000 D, el Z ad.2.2.2.2.2 4000 V]) (wr := []) (nl := 0) hx hb hml hown hts hK hG rfl hA hl (k_is1 l Z hm ad cd n wg K F S T D V i hi hn) hW trivial (hW.at 0 rfl) rfl rfl tb_833 tb_835 ts_11 tb_7 tb_836 (nA := 1) (by decide +kernel) rfl ⟨by omega, by omega⟩ ⟨by omega, by omega⟩ rfl (Nat.le_of_ble_eq_true rfl) dX4_set_3 (fun v w1 H1 L1 hp hW hzz hkk hdd => ?_)
    obtain ⟨rfl, rfl⟩ := hp
    clear hzz hkk hdd
    generalize H1 = H at hW  ⊢
    generalize L1 = locs at hW ⊢
    have hW : Wd Z A s.heap ([eo hm 4 [.int (nI cd), .int (nI n), .int (nI wg), .ref ad.1, .ref ad.2.1, .ref ad.2.2.1, .ref ad.2.2.2.1, .ref ad.2.2.2.2.1, .ref ad.2.2.2.2.2], ey Z ad.1 4000 K, ea Z ad.2.1 4000 F, ea Z ad.2.2.1 4000 S, ea Z ad.2.2.2.1 4000 T, ea Z ad.2.2.2.2.1 4000 D, el Z ad.2.2.2.2.2 4000 V]) _ _ := hW
    refine W.eq (g2 := F0 m 6 ls [.int (nI 1), .ref hm]) rfl ?_
    refine n_zeq_f (tgt := 22) hx hb (by decide) (by omega) dX4_set_6 (by decide) ?_
    refine lv_aload_n hx hb dX4_set_9 rfl (lv_at hl 0 rfl) ?_
    refine r_get hx hb hts hown hK (hW.at 0 rfl) rfl in_X4 3 (by decide) tb_782 (fun _ h => h) rfl dX4_set_10 ?_
    refine lv_iload_n hx hb dX4_set_13 rfl (lv_at hl 1 rfl) ?_
    refine r_bald (i := i) hx hb hK (hW.at 1 rfl) (by omega) (by omega) dX4_set_14 ?_
    have h8 := hK8 i hi
    have hne : K i ≠ 0 := fun q => hki ⟨i, hi, rfl, q⟩
    refine n_zne_t (tgt := 22) hx hb hne (by omega) dX4_set_15 (by decide) ?_
    refine lv_iconst (v := nI 1) hx hb dX4_set_22 (by decide) ?_
    refine r_put hx hb hts hown hK hW 0 (v := .int (nI 1)) rfl rfl in_X4 tyX4 tyX4_ok nmX4 0 (by decide) tb_779 (fun _ h => h) rfl rfl rfl (Nat.le_of_ble_eq_true rfl) dX4_set_23 (fun H locs hW => ?_)
    have hW : Wd Z A s.heap ([eo hm 4 [.int (nI 1), .int (nI n), .int (nI wg), .ref ad.1, .ref ad.2.1, .ref ad.2.2.1, .ref ad.2.2.2.1, .ref ad.2.2.2.2.1, .ref ad.2.2.2.2.2], ey Z ad.1 4000 K, ea Z ad.2.1 4000 F, ea Z ad.2.2.1 4000 S, ea Z ad.2.2.2.1 4000 T, ea Z ad.2.2.2.2.1 4000 D, el Z ad.2.2.2.2.2 4000 V]) _ _ := hW
    refine lv_aload_n hx hb dX4_set_26 rfl (lv_at hl 0 rfl) ?_
    refine r_get hx hb hts hown hK (hW.at 0 rfl) rfl in_X4 0 (by decide) tb_779 (fun _ h => h) rfl dX4_set_27 ?_
    refine n_zle_f (tgt := 35) hx hb (by omega) (by omega) dX4_set_30 (by decide) ?_
    refine lv_lconst (v := 0) hx hb dX4_set_33 (by decide) ?_
    exact e_long hx hb hr hlk hAe hW (by omega) (by omega) dX4_set_34 ⟨⟨_, rfl⟩, rfl⟩
  · refine c_virt (As := [.int xv]) (rest := [.ref hm]) (wc := [eo hm 4 [.int (nI cd), .int (nI n), .int (nI wg), .ref ad.1, .ref ad.2.1, .ref ad.2.2.1, .ref ad.2.2.2.1, .ref ad.2.2.2.2.1, .ref ad.2.2.2.2.2], ey Z ad.1 4000 K, ea Z ad.2.1 4000 F, ea Z ad.2.2.1 4000 S, ea Z ad.2.2.2.1 4000 T, ea Z ad.2.2.2.2.1 4000 D, el Z ad.2.2.2.2.2 4000 V]) (wr := []) (nl := 0) hx hb hml hown hts hK hG rfl hA hl (k_is0 l Z hm ad cd n wg K F S T D V xv ha hn) hW trivial (hW.at 0 rfl) rfl rfl tb_833 tb_835 ts_11 tb_7 tb_836 (nA := 1) (by decide +kernel) rfl ⟨by omega, by omega⟩ ⟨by omega, by omega⟩ rfl (Nat.le_of_ble_eq_true rfl) dX4_set_3 (fun v w1 H1 L1 hp hW hzz hkk hdd => ?_)
    obtain ⟨rfl, rfl⟩ := hp
    clear hzz hkk hdd
    generalize H1 = H at hW  ⊢
    generalize L1 = locs at hW ⊢
    have hW : Wd Z A s.heap ([eo hm 4 [.int (nI cd), .int (nI n), .int (nI wg), .ref ad.1, .ref ad.2.1, .ref ad.2.2.1, .ref ad.2.2.2.1, .ref ad.2.2.2.2.1, .ref ad.2.2.2.2.2], ey Z ad.1 4000 K, ea Z ad.2.1 4000 F, ea Z ad.2.2.1 4000 S, ea Z ad.2.2.2.1 4000 T, ea Z ad.2.2.2.2.1 4000 D, el Z ad.2.2.2.2.2 4000 V]) _ _ := hW
    refine W.eq (g2 := F0 m 6 ls [.int (nI 0), .ref hm]) rfl ?_
    refine n_zeq_t (tgt := 22) hx hb rfl dX4_set_6 (by decide) ?_
    refine lv_iconst (v := nI 1) hx hb dX4_set_22 (by decide) ?_
    refine r_put hx hb hts hown hK hW 0 (v := .int (nI 1)) rfl rfl in_X4 tyX4 tyX4_ok nmX4 0 (by decide) tb_779 (fun _ h => h) rfl rfl rfl (Nat.le_of_ble_eq_true rfl) dX4_set_23 (fun H locs hW => ?_)
    have hW : Wd Z A s.heap ([eo hm 4 [.int (nI 1), .int (nI n), .int (nI wg), .ref ad.1, .ref ad.2.1, .ref ad.2.2.1, .ref ad.2.2.2.1, .ref ad.2.2.2.2.1, .ref ad.2.2.2.2.2], ey Z ad.1 4000 K, ea Z ad.2.1 4000 F, ea Z ad.2.2.1 4000 S, ea Z ad.2.2.2.1 4000 T, ea Z ad.2.2.2.2.1 4000 D, el Z ad.2.2.2.2.2 4000 V]) _ _ := hW
    refine lv_aload_n hx hb dX4_set_26 rfl (lv_at hl 0 rfl) ?_
    refine r_get hx hb hts hown hK (hW.at 0 rfl) rfl in_X4 0 (by decide) tb_779 (fun _ h => h) rfl dX4_set_27 ?_
    refine n_zle_f (tgt := 35) hx hb (by omega) (by omega) dX4_set_30 (by decide) ?_
    refine lv_lconst (v := 0) hx hb dX4_set_33 (by decide) ?_
    exact e_long hx hb hr hlk hAe hW (by omega) (by omega) dX4_set_34 ⟨⟨_, rfl⟩, rfl⟩
set_option maxHeartbeats 4000000 in
set_option maxRecDepth 100000 in
theorem k_mvalue1 (l : Launch) (Z : Zt) (hm : Nat) (ad : MA) (cd n wg : Nat) (K F S T D V : Nat → Nat) (i : Nat) (t : Nat → Nat) (hi : i < n) (hn : n ≤ 4000) (hwf : ∀ i, i < n → wfv K F S T D i) (hV : ∀ i, i < n → V i < 2 ^ D i) (ht : ∀ i, i < n → t i < 2 ^ D i ∧ (K i ≤ 1 → V i = t i) ∧ (2 ≤ K i → t i = NV K F S T D t i)) : MC l yX4_value cX4_value 2 (some .long) 6 300 (0) (0) Z (mw Z hm ad cd n wg K F S T D V) (fun _ => True) [.ref hm, .int (nI i)] (fun r w1 => r = some (.long (lN (t i))) ∧ ∃ V2, w1 = mw Z hm ad 0 n wg K F S T D V2 ∧ ∀ j, j < n → V2 j = t j) := by
  refine mc_of (by decide) (Nat.le_of_ble_eq_true rfl) (fun p e s m below meth c ls A hx hb hr hts hown hlk hml hin hK hG hW hA hAe hro hl R hRf hRc hRs hRl => ?_)
  have hl : lv_has ls 2 [(0, .ref hm), (1, .int (nI i))] := hl
  have hW : Wd Z A s.heap ([eo hm 4 [.int (nI cd), .int (nI n), .int (nI wg), .ref ad.1, .ref ad.2.1, .ref ad.2.2.1, .ref ad.2.2.2.1, .ref ad.2.2.2.2.1, .ref ad.2.2.2.2.2], ey Z ad.1 4000 K, ea Z ad.2.1 4000 F, ea Z ad.2.2.1 4000 S, ea Z ad.2.2.2.1 4000 T, ea Z ad.2.2.2.2.1 4000 D, el Z ad.2.2.2.2.2 4000 V]) _ _ := hW
  refine lv_aload_n hx hb dX4_value_0 rfl (lv_at hl 0 rfl) ?_
  refine lv_aload_n hx hb dX4_value_1 rfl (lv_at hl 0 rfl) ?_
  refine lv_iload_n hx hb dX4_value_2 rfl (lv_at hl 1 rfl) ?_
  refine c_virt (As := [.int (nI i)]) (rest := [.ref hm]) (wc := [eo hm 4 [.int (nI cd), .int (nI n), .int (nI wg), .ref ad.1, .ref ad.2.1, .ref ad.2.2.1, .ref ad.2.2.2.1, .ref ad.2.2.2.2.1, .ref ad.2.2.2.2.2], ey Z ad.1 4000 K, ea Z ad.2.1 4000 F, ea Z ad.2.2.1 4000 S, ea Z ad.2.2.2.1 4000 T, ea Z ad.2.2.2.2.1 4000 D, el Z ad.2.2.2.2.2 4000 V]) (wr := []) (nl := 0) hx hb hml hown hts hK hG rfl hA hl (k_is1 l Z hm ad cd n wg K F S T D V i hi hn) hW trivial (hW.at 0 rfl) rfl rfl tb_833 tb_835 ts_11 tb_7 tb_836 (nA := 1) (by decide +kernel) rfl ⟨by omega, by omega⟩ ⟨by omega, by omega⟩ rfl (Nat.le_of_ble_eq_true rfl) dX4_value_3 (fun v w1 H1 L1 hp hW hzz hkk hdd => ?_)
  obtain ⟨rfl, rfl⟩ := hp
  clear hzz hkk hdd
  generalize H1 = H at hW  ⊢
  generalize L1 = locs at hW ⊢
  have hW : Wd Z A s.heap ([eo hm 4 [.int (nI cd), .int (nI n), .int (nI wg), .ref ad.1, .ref ad.2.1, .ref ad.2.2.1, .ref ad.2.2.2.1, .ref ad.2.2.2.2.1, .ref ad.2.2.2.2.2], ey Z ad.1 4000 K, ea Z ad.2.1 4000 F, ea Z ad.2.2.1 4000 S, ea Z ad.2.2.2.1 4000 T, ea Z ad.2.2.2.2.1 4000 D, el Z ad.2.2.2.2.2 4000 V]) _ _ := hW
  refine W.eq (g2 := F0 m 6 ls [.int (nI 1), .ref hm]) rfl ?_
  refine n_zeq_f (tgt := 13) hx hb (by decide) (by omega) dX4_value_6 (by decide) ?_
  refine lv_iconst (v := nI 0) hx hb dX4_value_9 (by decide) ?_
  refine lv_goto (tgt := 14) hx hb dX4_value_10 (by decide) ?_
  refine r_put hx hb hts hown hK hW 0 (v := .int (nI 0)) rfl rfl in_X4 tyX4 tyX4_ok nmX4 0 (by decide) tb_779 (fun _ h => h) rfl rfl rfl (Nat.le_of_ble_eq_true rfl) dX4_value_14 (fun H locs hW => ?_)
  have hW : Wd Z A s.heap ([eo hm 4 [.int (nI 0), .int (nI n), .int (nI wg), .ref ad.1, .ref ad.2.1, .ref ad.2.2.1, .ref ad.2.2.2.1, .ref ad.2.2.2.2.1, .ref ad.2.2.2.2.2], ey Z ad.1 4000 K, ea Z ad.2.1 4000 F, ea Z ad.2.2.1 4000 S, ea Z ad.2.2.2.1 4000 T, ea Z ad.2.2.2.2.1 4000 D, el Z ad.2.2.2.2.2 4000 V]) _ _ := hW
  refine lv_aload_n hx hb dX4_value_17 rfl (lv_at hl 0 rfl) ?_
  refine r_get hx hb hts hown hK (hW.at 0 rfl) rfl in_X4 0 (by decide) tb_779 (fun _ h => h) rfl dX4_value_18 ?_
  refine n_zle_t (tgt := 26) hx hb (by omega) (by omega) dX4_value_21 (by decide) ?_
  refine lv_aload_n hx hb dX4_value_26 rfl (lv_at hl 0 rfl) ?_
  refine c_virt (As := []) (rest := []) (wc := [eo hm 4 [.int (nI 0), .int (nI n), .int (nI wg), .ref ad.1, .ref ad.2.1, .ref ad.2.2.1, .ref ad.2.2.2.1, .ref ad.2.2.2.2.1, .ref ad.2.2.2.2.2], ey Z ad.1 4000 K, ea Z ad.2.1 4000 F, ea Z ad.2.2.1 4000 S, ea Z ad.2.2.2.1 4000 T, ea Z ad.2.2.2.2.1 4000 D, el Z ad.2.2.2.2.2 4000 V]) (wr := []) (nl := 0) hx hb hml hown hts hK hG rfl hA hl (k_reckonAll l Z hm ad 0 n wg K F S T D V t hn hwf hV ht) hW trivial (hW.at 0 rfl) rfl rfl tb_876 tb_878 ts_13 tb_7 tb_879 (nA := 0) (by decide +kernel) rfl ⟨by omega, by omega⟩ ⟨by omega, by omega⟩ rfl (Nat.le_of_ble_eq_true rfl) dX4_value_27 (fun v w1 H1 L1 hp hW hzz hkk hdd => ?_)
  obtain ⟨rfl, V2, rfl, hV2⟩ := hp
  clear hzz hkk hdd
  generalize H1 = H at hW  ⊢
  generalize L1 = locs at hW ⊢
  have hW : Wd Z A s.heap ([eo hm 4 [.int (nI 0), .int (nI n), .int (nI wg), .ref ad.1, .ref ad.2.1, .ref ad.2.2.1, .ref ad.2.2.2.1, .ref ad.2.2.2.2.1, .ref ad.2.2.2.2.2], ey Z ad.1 4000 K, ea Z ad.2.1 4000 F, ea Z ad.2.2.1 4000 S, ea Z ad.2.2.2.1 4000 T, ea Z ad.2.2.2.2.1 4000 D, el Z ad.2.2.2.2.2 4000 V2]) _ _ := hW
  refine W.eq (g2 := F0 m 30 ls []) rfl ?_
  refine lv_aload_n hx hb dX4_value_30 rfl (lv_at hl 0 rfl) ?_
  refine r_get hx hb hts hown hK (hW.at 0 rfl) rfl in_X4 8 (by decide) tb_787 (fun _ h => h) rfl dX4_value_31 ?_
  refine lv_iload_n hx hb dX4_value_34 rfl (lv_at hl 1 rfl) ?_
  refine r_lald (i := i) hx hb hK (hW.at 6 rfl) (by omega) (by omega) dX4_value_35 ?_
  rw [hV2 i hi]
  exact e_long hx hb hr hlk hAe hW (by omega) (by omega) dX4_value_36 ⟨rfl, V2, rfl, hV2⟩
set_option maxHeartbeats 4000000 in
set_option maxRecDepth 100000 in
theorem k_mvalue0 (l : Launch) (Z : Zt) (hm : Nat) (ad : MA) (cd n wg : Nat) (K F S T D V : Nat → Nat) (xv : Int32) (hn : n ≤ 4000) (hi : ¬ vix xv n) : MC l yX4_value cX4_value 2 (some .long) 6 300 (0) (0) Z (mw Z hm ad cd n wg K F S T D V) (fun _ => True) [.ref hm, .int xv] (fun r w1 => (∃ r0 : Int64, r = some (.long r0)) ∧ w1 = mw Z hm ad 1 n wg K F S T D V) := by
  refine mc_of (by decide) (Nat.le_of_ble_eq_true rfl) (fun p e s m below meth c ls A hx hb hr hts hown hlk hml hin hK hG hW hA hAe hro hl R hRf hRc hRs hRl => ?_)
  have hl : lv_has ls 2 [(0, .ref hm), (1, .int xv)] := hl
  have hW : Wd Z A s.heap ([eo hm 4 [.int (nI cd), .int (nI n), .int (nI wg), .ref ad.1, .ref ad.2.1, .ref ad.2.2.1, .ref ad.2.2.2.1, .ref ad.2.2.2.2.1, .ref ad.2.2.2.2.2], ey Z ad.1 4000 K, ea Z ad.2.1 4000 F, ea Z ad.2.2.1 4000 S, ea Z ad.2.2.2.1 4000 T, ea Z ad.2.2.2.2.1 4000 D, el Z ad.2.2.2.2.2 4000 V]) _ _ := hW
  refine lv_aload_n hx hb dX4_value_0 rfl (lv_at hl 0 rfl) ?_
  refine lv_aload_n hx hb dX4_value_1 rfl (lv_at hl 0 rfl) ?_
  refine lv_iload_n hx hb dX4_value_2 rfl (lv_at hl 1 rfl) ?_
  refine c_virt (As := [.int xv]) (rest := [.ref hm]) (wc := [eo hm 4 [.int (nI cd), .int (nI n), .int (nI wg), .ref ad.1, .ref ad.2.1, .ref ad.2.2.1, .ref ad.2.2.2.1, .ref ad.2.2.2.2.1, .ref ad.2.2.2.2.2], ey Z ad.1 4000 K, ea Z ad.2.1 4000 F, ea Z ad.2.2.1 4000 S, ea Z ad.2.2.2.1 4000 T, ea Z ad.2.2.2.2.1 4000 D, el Z ad.2.2.2.2.2 4000 V]) (wr := []) (nl := 0) hx hb hml hown hts hK hG rfl hA hl (k_is0 l Z hm ad cd n wg K F S T D V xv hi hn) hW trivial (hW.at 0 rfl) rfl rfl tb_833 tb_835 ts_11 tb_7 tb_836 (nA := 1) (by decide +kernel) rfl ⟨by omega, by omega⟩ ⟨by omega, by omega⟩ rfl (Nat.le_of_ble_eq_true rfl) dX4_value_3 (fun v w1 H1 L1 hp hW hzz hkk hdd => ?_)
  obtain ⟨rfl, rfl⟩ := hp
  clear hzz hkk hdd
  generalize H1 = H at hW  ⊢
  generalize L1 = locs at hW ⊢
  have hW : Wd Z A s.heap ([eo hm 4 [.int (nI cd), .int (nI n), .int (nI wg), .ref ad.1, .ref ad.2.1, .ref ad.2.2.1, .ref ad.2.2.2.1, .ref ad.2.2.2.2.1, .ref ad.2.2.2.2.2], ey Z ad.1 4000 K, ea Z ad.2.1 4000 F, ea Z ad.2.2.1 4000 S, ea Z ad.2.2.2.1 4000 T, ea Z ad.2.2.2.2.1 4000 D, el Z ad.2.2.2.2.2 4000 V]) _ _ := hW
  refine W.eq (g2 := F0 m 6 ls [.int (nI 0), .ref hm]) rfl ?_
  refine n_zeq_t (tgt := 13) hx hb rfl dX4_value_6 (by decide) ?_
  refine lv_iconst (v := nI 1) hx hb dX4_value_13 (by decide) ?_
  refine r_put hx hb hts hown hK hW 0 (v := .int (nI 1)) rfl rfl in_X4 tyX4 tyX4_ok nmX4 0 (by decide) tb_779 (fun _ h => h) rfl rfl rfl (Nat.le_of_ble_eq_true rfl) dX4_value_14 (fun H locs hW => ?_)
  have hW : Wd Z A s.heap ([eo hm 4 [.int (nI 1), .int (nI n), .int (nI wg), .ref ad.1, .ref ad.2.1, .ref ad.2.2.1, .ref ad.2.2.2.1, .ref ad.2.2.2.2.1, .ref ad.2.2.2.2.2], ey Z ad.1 4000 K, ea Z ad.2.1 4000 F, ea Z ad.2.2.1 4000 S, ea Z ad.2.2.2.1 4000 T, ea Z ad.2.2.2.2.1 4000 D, el Z ad.2.2.2.2.2 4000 V]) _ _ := hW
  refine lv_aload_n hx hb dX4_value_17 rfl (lv_at hl 0 rfl) ?_
  refine r_get hx hb hts hown hK (hW.at 0 rfl) rfl in_X4 0 (by decide) tb_779 (fun _ h => h) rfl dX4_value_18 ?_
  refine n_zle_f (tgt := 26) hx hb (by omega) (by omega) dX4_value_21 (by decide) ?_
  refine lv_lconst (v := 0) hx hb dX4_value_24 (by decide) ?_
  exact e_long hx hb hr hlk hAe hW (by omega) (by omega) dX4_value_25 ⟨⟨_, rfl⟩, rfl⟩
set_option maxHeartbeats 4000000 in
set_option maxRecDepth 100000 in
theorem k_mwidth1 (l : Launch) (Z : Zt) (hm : Nat) (ad : MA) (cd n wg : Nat) (K F S T D V : Nat → Nat) (i : Nat) (hi : i < n) (hn : n ≤ 4000) : MC l yX4_width cX4_width 2 (some .int) 1 60 (0) (0) Z (mw Z hm ad cd n wg K F S T D V) (fun _ => True) [.ref hm, .int (nI i)] (fun r w1 => r = some (.int (nI (D i))) ∧ w1 = mw Z hm ad 0 n wg K F S T D V) := by
  refine mc_of (by decide) (Nat.le_of_ble_eq_true rfl) (fun p e s m below meth c ls A hx hb hr hts hown hlk hml hin hK hG hW hA hAe hro hl R hRf hRc hRs hRl => ?_)
  have hl : lv_has ls 2 [(0, .ref hm), (1, .int (nI i))] := hl
  have hW : Wd Z A s.heap ([eo hm 4 [.int (nI cd), .int (nI n), .int (nI wg), .ref ad.1, .ref ad.2.1, .ref ad.2.2.1, .ref ad.2.2.2.1, .ref ad.2.2.2.2.1, .ref ad.2.2.2.2.2], ey Z ad.1 4000 K, ea Z ad.2.1 4000 F, ea Z ad.2.2.1 4000 S, ea Z ad.2.2.2.1 4000 T, ea Z ad.2.2.2.2.1 4000 D, el Z ad.2.2.2.2.2 4000 V]) _ _ := hW
  refine lv_aload_n hx hb dX4_width_0 rfl (lv_at hl 0 rfl) ?_
  refine lv_aload_n hx hb dX4_width_1 rfl (lv_at hl 0 rfl) ?_
  refine lv_iload_n hx hb dX4_width_2 rfl (lv_at hl 1 rfl) ?_
  refine c_virt (As := [.int (nI i)]) (rest := [.ref hm]) (wc := [eo hm 4 [.int (nI cd), .int (nI n), .int (nI wg), .ref ad.1, .ref ad.2.1, .ref ad.2.2.1, .ref ad.2.2.2.1, .ref ad.2.2.2.2.1, .ref ad.2.2.2.2.2], ey Z ad.1 4000 K, ea Z ad.2.1 4000 F, ea Z ad.2.2.1 4000 S, ea Z ad.2.2.2.1 4000 T, ea Z ad.2.2.2.2.1 4000 D, el Z ad.2.2.2.2.2 4000 V]) (wr := []) (nl := 0) hx hb hml hown hts hK hG rfl hA hl (k_is1 l Z hm ad cd n wg K F S T D V i hi hn) hW trivial (hW.at 0 rfl) rfl rfl tb_833 tb_835 ts_11 tb_7 tb_836 (nA := 1) (by decide +kernel) rfl ⟨by omega, by omega⟩ ⟨by omega, by omega⟩ rfl (Nat.le_of_ble_eq_true rfl) dX4_width_3 (fun v w1 H1 L1 hp hW hzz hkk hdd => ?_)
  obtain ⟨rfl, rfl⟩ := hp
  clear hzz hkk hdd
  generalize H1 = H at hW  ⊢
  generalize L1 = locs at hW ⊢
  have hW : Wd Z A s.heap ([eo hm 4 [.int (nI cd), .int (nI n), .int (nI wg), .ref ad.1, .ref ad.2.1, .ref ad.2.2.1, .ref ad.2.2.2.1, .ref ad.2.2.2.2.1, .ref ad.2.2.2.2.2], ey Z ad.1 4000 K, ea Z ad.2.1 4000 F, ea Z ad.2.2.1 4000 S, ea Z ad.2.2.2.1 4000 T, ea Z ad.2.2.2.2.1 4000 D, el Z ad.2.2.2.2.2 4000 V]) _ _ := hW
  refine W.eq (g2 := F0 m 6 ls [.int (nI 1), .ref hm]) rfl ?_
  refine n_zeq_f (tgt := 13) hx hb (by decide) (by omega) dX4_width_6 (by decide) ?_
  refine lv_iconst (v := nI 0) hx hb dX4_width_9 (by decide) ?_
  refine lv_goto (tgt := 14) hx hb dX4_width_10 (by decide) ?_
  refine r_put hx hb hts hown hK hW 0 (v := .int (nI 0)) rfl rfl in_X4 tyX4 tyX4_ok nmX4 0 (by decide) tb_779 (fun _ h => h) rfl rfl rfl (Nat.le_of_ble_eq_true rfl) dX4_width_14 (fun H locs hW => ?_)
  have hW : Wd Z A s.heap ([eo hm 4 [.int (nI 0), .int (nI n), .int (nI wg), .ref ad.1, .ref ad.2.1, .ref ad.2.2.1, .ref ad.2.2.2.1, .ref ad.2.2.2.2.1, .ref ad.2.2.2.2.2], ey Z ad.1 4000 K, ea Z ad.2.1 4000 F, ea Z ad.2.2.1 4000 S, ea Z ad.2.2.2.1 4000 T, ea Z ad.2.2.2.2.1 4000 D, el Z ad.2.2.2.2.2 4000 V]) _ _ := hW
  refine lv_aload_n hx hb dX4_width_17 rfl (lv_at hl 0 rfl) ?_
  refine r_get hx hb hts hown hK (hW.at 0 rfl) rfl in_X4 0 (by decide) tb_779 (fun _ h => h) rfl dX4_width_18 ?_
  refine n_zle_t (tgt := 28) hx hb (by omega) (by omega) dX4_width_21 (by decide) ?_
  refine lv_aload_n hx hb dX4_width_28 rfl (lv_at hl 0 rfl) ?_
  refine r_get hx hb hts hown hK (hW.at 0 rfl) rfl in_X4 7 (by decide) tb_786 (fun _ h => h) rfl dX4_width_29 ?_
  refine lv_iload_n hx hb dX4_width_32 rfl (lv_at hl 1 rfl) ?_
  refine r_ald (i := i) hx hb hK (hW.at 5 rfl) (by omega) (by omega) dX4_width_33 ?_
  exact e_int hx hb hr hlk hAe hW (by omega) (by omega) dX4_width_34 ⟨rfl, rfl⟩
set_option maxHeartbeats 4000000 in
set_option maxRecDepth 100000 in
theorem k_mwidth0 (l : Launch) (Z : Zt) (hm : Nat) (ad : MA) (cd n wg : Nat) (K F S T D V : Nat → Nat) (xv : Int32) (hn : n ≤ 4000) (hi : ¬ vix xv n) : MC l yX4_width cX4_width 2 (some .int) 1 60 (0) (0) Z (mw Z hm ad cd n wg K F S T D V) (fun _ => True) [.ref hm, .int xv] (fun r w1 => (∃ r0 : Int32, r = some (.int r0)) ∧ w1 = mw Z hm ad 1 n wg K F S T D V) := by
  refine mc_of (by decide) (Nat.le_of_ble_eq_true rfl) (fun p e s m below meth c ls A hx hb hr hts hown hlk hml hin hK hG hW hA hAe hro hl R hRf hRc hRs hRl => ?_)
  have hl : lv_has ls 2 [(0, .ref hm), (1, .int xv)] := hl
  have hW : Wd Z A s.heap ([eo hm 4 [.int (nI cd), .int (nI n), .int (nI wg), .ref ad.1, .ref ad.2.1, .ref ad.2.2.1, .ref ad.2.2.2.1, .ref ad.2.2.2.2.1, .ref ad.2.2.2.2.2], ey Z ad.1 4000 K, ea Z ad.2.1 4000 F, ea Z ad.2.2.1 4000 S, ea Z ad.2.2.2.1 4000 T, ea Z ad.2.2.2.2.1 4000 D, el Z ad.2.2.2.2.2 4000 V]) _ _ := hW
  refine lv_aload_n hx hb dX4_width_0 rfl (lv_at hl 0 rfl) ?_
  refine lv_aload_n hx hb dX4_width_1 rfl (lv_at hl 0 rfl) ?_
  refine lv_iload_n hx hb dX4_width_2 rfl (lv_at hl 1 rfl) ?_
  refine c_virt (As := [.int xv]) (rest := [.ref hm]) (wc := [eo hm 4 [.int (nI cd), .int (nI n), .int (nI wg), .ref ad.1, .ref ad.2.1, .ref ad.2.2.1, .ref ad.2.2.2.1, .ref ad.2.2.2.2.1, .ref ad.2.2.2.2.2], ey Z ad.1 4000 K, ea Z ad.2.1 4000 F, ea Z ad.2.2.1 4000 S, ea Z ad.2.2.2.1 4000 T, ea Z ad.2.2.2.2.1 4000 D, el Z ad.2.2.2.2.2 4000 V]) (wr := []) (nl := 0) hx hb hml hown hts hK hG rfl hA hl (k_is0 l Z hm ad cd n wg K F S T D V xv hi hn) hW trivial (hW.at 0 rfl) rfl rfl tb_833 tb_835 ts_11 tb_7 tb_836 (nA := 1) (by decide +kernel) rfl ⟨by omega, by omega⟩ ⟨by omega, by omega⟩ rfl (Nat.le_of_ble_eq_true rfl) dX4_width_3 (fun v w1 H1 L1 hp hW hzz hkk hdd => ?_)
  obtain ⟨rfl, rfl⟩ := hp
  clear hzz hkk hdd
  generalize H1 = H at hW  ⊢
  generalize L1 = locs at hW ⊢
  have hW : Wd Z A s.heap ([eo hm 4 [.int (nI cd), .int (nI n), .int (nI wg), .ref ad.1, .ref ad.2.1, .ref ad.2.2.1, .ref ad.2.2.2.1, .ref ad.2.2.2.2.1, .ref ad.2.2.2.2.2], ey Z ad.1 4000 K, ea Z ad.2.1 4000 F, ea Z ad.2.2.1 4000 S, ea Z ad.2.2.2.1 4000 T, ea Z ad.2.2.2.2.1 4000 D, el Z ad.2.2.2.2.2 4000 V]) _ _ := hW
  refine W.eq (g2 := F0 m 6 ls [.int (nI 0), .ref hm]) rfl ?_
  refine n_zeq_t (tgt := 13) hx hb rfl dX4_width_6 (by decide) ?_
  refine lv_iconst (v := nI 1) hx hb dX4_width_13 (by decide) ?_
  refine r_put hx hb hts hown hK hW 0 (v := .int (nI 1)) rfl rfl in_X4 tyX4 tyX4_ok nmX4 0 (by decide) tb_779 (fun _ h => h) rfl rfl rfl (Nat.le_of_ble_eq_true rfl) dX4_width_14 (fun H locs hW => ?_)
  have hW : Wd Z A s.heap ([eo hm 4 [.int (nI 1), .int (nI n), .int (nI wg), .ref ad.1, .ref ad.2.1, .ref ad.2.2.1, .ref ad.2.2.2.1, .ref ad.2.2.2.2.1, .ref ad.2.2.2.2.2], ey Z ad.1 4000 K, ea Z ad.2.1 4000 F, ea Z ad.2.2.1 4000 S, ea Z ad.2.2.2.1 4000 T, ea Z ad.2.2.2.2.1 4000 D, el Z ad.2.2.2.2.2 4000 V]) _ _ := hW
  refine lv_aload_n hx hb dX4_width_17 rfl (lv_at hl 0 rfl) ?_
  refine r_get hx hb hts hown hK (hW.at 0 rfl) rfl in_X4 0 (by decide) tb_779 (fun _ h => h) rfl dX4_width_18 ?_
  refine n_zle_f (tgt := 28) hx hb (by omega) (by omega) dX4_width_21 (by decide) ?_
  refine lv_iconst (v := nI 0) hx hb dX4_width_24 (by decide) ?_
  refine lv_goto (tgt := 34) hx hb dX4_width_25 (by decide) ?_
  exact e_int hx hb hr hlk hAe hW (by omega) (by omega) dX4_width_34 ⟨⟨_, rfl⟩, rfl⟩
