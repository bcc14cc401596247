section Zl
variable {p : Program} {l : Launch} {e : Env} {R : Room} {s : State} {m : MethodId} {args : Array Value} {below : List Frame} {meth : Method} {c : Code} {H : Heap} {locs : List Loc} {cells slots : Nat} {Q : State → Prop}
variable {cc : ByteArray} {pc : Nat} {ls : Array Slot} {rest : List Value}
theorem n_zle_t (hx : p.tables.exec = Jvm.exec) (hb : c.code = cc) {x : Nat} {off : Int} {tgt : Nat} (h : x = 0) (hxb : x < 2 ^ 31) (hdg : decode cc pc = .ok (.ifCond .le off, 3)) (ht : (pc : Int) + off = (tgt : Int)) (kk : W p l e R s m args below meth c H locs cells slots Q (F0 m tgt ls rest)) : W p l e R s m args below meth c H locs cells slots Q (F0 m pc ls (.int (nI x) :: rest)) :=
  lv_if_le hx hb hdg ht (fun _ => kk) (fun q => absurd (by rw [h]; decide) q)
theorem n_zle_f (hx : p.tables.exec = Jvm.exec) (hb : c.code = cc) {x : Nat} {off : Int} {tgt : Nat} (h : 0 < x) (hxb : x < 2 ^ 31) (hdg : decode cc pc = .ok (.ifCond .le off, 3)) (ht : (pc : Int) + off = (tgt : Int)) (kk : W p l e R s m args below meth c H locs cells slots Q (F0 m (pc + 3) ls rest)) : W p l e R s m args below meth c H locs cells slots Q (F0 m pc ls (.int (nI x) :: rest)) :=
  lv_if_le hx hb hdg ht (fun q => absurd ((i_le (nI x) (n := 0) (by decide)).mp q) (by rw [i_toInt hxb]; omega)) (fun _ => kk)
end Zl
theorem tb_782 : (Cond.fieldLink RX4 7 "VectorBenchModel" "kind" "[B") ∈ TB := TB_of 782 (by decide +kernel) (by decide +kernel)
set_option maxHeartbeats 4000000 in
set_option maxRecDepth 100000 in
theorem k_thrown (l : Launch) (Z : Zt) (hm : Nat) (ad : MA) (cd n wg : Nat) (K F S T D V : Nat → Nat)   : MC l yX4_thrown cX4_thrown 1 (some .int) 0 0 (0) (0) Z (mw Z hm ad cd n wg K F S T D V) (fun _ => True) [.ref hm] (fun r w1 => r = some (.int (nI cd)) ∧ w1 = mw Z hm ad cd n wg K F S T D V) := by
  refine mc_of (by decide) (Nat.le_of_ble_eq_true rfl) (fun p e s m below meth c ls A hx hb hr hts hown hlk hml hin hK hG hW hA hAe hro hl R hRf hRc hRs hRl => ?_)
  have hl : lv_has ls 1 [(0, .ref hm)] := hl
  have hW : Wd Z A s.heap ([eo hm 4 [.int (nI cd), .int (nI n), .int (nI wg), .ref ad.1, .ref ad.2.1, .ref ad.2.2.1, .ref ad.2.2.2.1, .ref ad.2.2.2.2.1, .ref ad.2.2.2.2.2], ey Z ad.1 4000 K, ea Z ad.2.1 4000 F, ea Z ad.2.2.1 4000 S, ea Z ad.2.2.2.1 4000 T, ea Z ad.2.2.2.2.1 4000 D, el Z ad.2.2.2.2.2 4000 V]) _ _ := hW
  refine lv_aload_n hx hb dX4_thrown_0 rfl (lv_at hl 0 rfl) ?_
  refine r_get hx hb hts hown hK (hW.at 0 rfl) rfl in_X4 0 (by decide) tb_779 (fun _ h => h) rfl dX4_thrown_1 ?_
  exact e_int hx hb hr hlk hAe hW (by omega) (by omega) dX4_thrown_4 ⟨rfl, rfl⟩
set_option maxHeartbeats 4000000 in
set_option maxRecDepth 100000 in
theorem k_mweight (l : Launch) (Z : Zt) (hm : Nat) (ad : MA) (cd n wg : Nat) (K F S T D V : Nat → Nat)   : MC l yX4_weight cX4_weight 1 (some .int) 0 0 (0) (0) Z (mw Z hm ad cd n wg K F S T D V) (fun _ => True) [.ref hm] (fun r w1 => r = some (.int (nI wg)) ∧ w1 = mw Z hm ad 0 n wg K F S T D V) := by
  refine mc_of (by decide) (Nat.le_of_ble_eq_true rfl) (fun p e s m below meth c ls A hx hb hr hts hown hlk hml hin hK hG hW hA hAe hro hl R hRf hRc hRs hRl => ?_)
  have hl : lv_has ls 1 [(0, .ref hm)] := hl
  have hW : Wd Z A s.heap ([eo hm 4 [.int (nI cd), .int (nI n), .int (nI wg), .ref ad.1, .ref ad.2.1, .ref ad.2.2.1, .ref ad.2.2.2.1, .ref ad.2.2.2.2.1, .ref ad.2.2.2.2.2], ey Z ad.1 4000 K, ea Z ad.2.1 4000 F, ea Z ad.2.2.1 4000 S, ea Z ad.2.2.2.1 4000 T, ea Z ad.2.2.2.2.1 4000 D, el Z ad.2.2.2.2.2 4000 V]) _ _ := hW
  refine lv_aload_n hx hb dX4_weight_0 rfl (lv_at hl 0 rfl) ?_
  refine lv_iconst (v := nI 0) hx hb dX4_weight_1 (by decide) ?_
  refine r_put hx hb hts hown hK hW 0 (v := .int (nI 0)) rfl rfl in_X4 tyX4 tyX4_ok nmX4 0 (by decide) tb_779 (fun _ h => h) rfl rfl rfl (Nat.le_of_ble_eq_true rfl) dX4_weight_2 (fun H locs hW => ?_)
  have hW : Wd Z A s.heap ([eo hm 4 [.int (nI 0), .int (nI n), .int (nI wg), .ref ad.1, .ref ad.2.1, .ref ad.2.2.1, .ref ad.2.2.2.1, .ref ad.2.2.2.2.1, .ref ad.2.2.2.2.2], ey Z ad.1 4000 K, ea Z ad.2.1 4000 F, ea Z ad.2.2.1 4000 S, ea Z ad.2.2.2.1 4000 T, ea Z ad.2.2.2.2.1 4000 D, el Z ad.2.2.2.2.2 4000 V]) _ _ := hW
  refine lv_aload_n hx hb dX4_weight_5 rfl (lv_at hl 0 rfl) ?_
  refine r_get hx hb hts hown hK (hW.at 0 rfl) rfl in_X4 2 (by decide) tb_781 (fun _ h => h) rfl dX4_weight_6 ?_
  exact e_int hx hb hr hlk hAe hW (by omega) (by omega) dX4_weight_9 ⟨rfl, rfl⟩
set_option maxHeartbeats 4000000 in
set_option maxRecDepth 100000 in
theorem k_mvectors (l : Launch) (Z : Zt) (hm : Nat) (ad : MA) (cd n wg : Nat) (K F S T D V : Nat → Nat)   : MC l yX4_vectors cX4_vectors 1 (some .int) 0 0 (0) (0) Z (mw Z hm ad cd n wg K F S T D V) (fun _ => True) [.ref hm] (fun r w1 => r = some (.int (nI n)) ∧ w1 = mw Z hm ad 0 n wg K F S T D V) := by
  refine mc_of (by decide) (Nat.le_of_ble_eq_true rfl) (fun p e s m below meth c ls A hx hb hr hts hown hlk hml hin hK hG hW hA hAe hro hl R hRf hRc hRs hRl => ?_)
  have hl : lv_has ls 1 [(0, .ref hm)] := hl
  have hW : Wd Z A s.heap ([eo hm 4 [.int (nI cd), .int (nI n), .int (nI wg), .ref ad.1, .ref ad.2.1, .ref ad.2.2.1, .ref ad.2.2.2.1, .ref ad.2.2.2.2.1, .ref ad.2.2.2.2.2], ey Z ad.1 4000 K, ea Z ad.2.1 4000 F, ea Z ad.2.2.1 4000 S, ea Z ad.2.2.2.1 4000 T, ea Z ad.2.2.2.2.1 4000 D, el Z ad.2.2.2.2.2 4000 V]) _ _ := hW
  refine lv_aload_n hx hb dX4_vectors_0 rfl (lv_at hl 0 rfl) ?_
  refine lv_iconst (v := nI 0) hx hb dX4_vectors_1 (by decide) ?_
  refine r_put hx hb hts hown hK hW 0 (v := .int (nI 0)) rfl rfl in_X4 tyX4 tyX4_ok nmX4 0 (by decide) tb_779 (fun _ h => h) rfl rfl rfl (Nat.le_of_ble_eq_true rfl) dX4_vectors_2 (fun H locs hW => ?_)
  have hW : Wd Z A s.heap ([eo hm 4 [.int (nI 0), .int (nI n), .int (nI wg), .ref ad.1, .ref ad.2.1, .ref ad.2.2.1, .ref ad.2.2.2.1, .ref ad.2.2.2.2.1, .ref ad.2.2.2.2.2], ey Z ad.1 4000 K, ea Z ad.2.1 4000 F, ea Z ad.2.2.1 4000 S, ea Z ad.2.2.2.1 4000 T, ea Z ad.2.2.2.2.1 4000 D, el Z ad.2.2.2.2.2 4000 V]) _ _ := hW
  refine lv_aload_n hx hb dX4_vectors_5 rfl (lv_at hl 0 rfl) ?_
  refine r_get hx hb hts hown hK (hW.at 0 rfl) rfl in_X4 1 (by decide) tb_780 (fun _ h => h) rfl dX4_vectors_6 ?_
  exact e_int hx hb hr hlk hAe hW (by omega) (by omega) dX4_vectors_9 ⟨rfl, rfl⟩
set_option maxHeartbeats 4000000 in
set_option maxRecDepth 100000 in
theorem k_is1 (l : Launch) (Z : Zt) (hm : Nat) (ad : MA) (cd n wg : Nat) (K F S T D V : Nat → Nat) (i : Nat) (hi : i < n) (hn : n ≤ 4000) : MC l yX4_is cX4_is 2 (some .boolean) 0 0 (0) (0) Z (mw Z hm ad cd n wg K F S T D V) (fun _ => True) [.ref hm, .int (nI i)] (fun r w1 => r = some (.int (nI 1)) ∧ w1 = mw Z hm ad cd n wg K F S T D V) := by
  refine mc_of (by decide) (Nat.le_of_ble_eq_true rfl) (fun p e s m below meth c ls A hx hb hr hts hown hlk hml hin hK hG hW hA hAe hro hl R hRf hRc hRs hRl => ?_)
  have hl : lv_has ls 2 [(0, .ref hm), (1, .int (nI i))] := hl
  have hW : Wd Z A s.heap ([eo hm 4 [.int (nI cd), .int (nI n), .int (nI wg), .ref ad.1, .ref ad.2.1, .ref ad.2.2.1, .ref ad.2.2.2.1, .ref ad.2.2.2.2.1, .ref ad.2.2.2.2.2], ey Z ad.1 4000 K, ea Z ad.2.1 4000 F, ea Z ad.2.2.1 4000 S, ea Z ad.2.2.2.1 4000 T, ea Z ad.2.2.2.2.1 4000 D, el Z ad.2.2.2.2.2 4000 V]) _ _ := hW
  refine lv_iload_n hx hb dX4_is_0 rfl (lv_at hl 1 rfl) ?_
  refine n_zlt_f (tgt := 16) hx hb (by omega) dX4_is_1 (by decide) ?_
  refine lv_iload_n hx hb dX4_is_4 rfl (lv_at hl 1 rfl) ?_
  refine lv_aload_n hx hb dX4_is_5 rfl (lv_at hl 0 rfl) ?_
  refine r_get hx hb hts hown hK (hW.at 0 rfl) rfl in_X4 1 (by decide) tb_780 (fun _ h => h) rfl dX4_is_6 ?_
  refine n_ge_f (tgt := 16) hx hb (by omega) (by omega) dX4_is_9 (by decide) ?_
  refine lv_iconst (v := nI 1) hx hb dX4_is_12 (by decide) ?_
  refine lv_goto (tgt := 17) hx hb dX4_is_13 (by decide) ?_
  exact e_bool hx hb hr hlk hAe hW (by omega) (by omega) rfl dX4_is_17 ⟨rfl, rfl⟩
set_option maxHeartbeats 4000000 in
set_option maxRecDepth 100000 in
theorem k_is0 (l : Launch) (Z : Zt) (hm : Nat) (ad : MA) (cd n wg : Nat) (K F S T D V : Nat → Nat) (xv : Int32) (hi : ¬ vix xv n) (hn : n ≤ 4000) : MC l yX4_is cX4_is 2 (some .boolean) 0 0 (0) (0) Z (mw Z hm ad cd n wg K F S T D V) (fun _ => True) [.ref hm, .int xv] (fun r w1 => r = some (.int (nI 0)) ∧ w1 = mw Z hm ad cd n wg K F S T D V) := by
  refine mc_of (by decide) (Nat.le_of_ble_eq_true rfl) (fun p e s m below meth c ls A hx hb hr hts hown hlk hml hin hK hG hW hA hAe hro hl R hRf hRc hRs hRl => ?_)
  have hl : lv_has ls 2 [(0, .ref hm), (1, .int xv)] := hl
  have hW : Wd Z A s.heap ([eo hm 4 [.int (nI cd), .int (nI n), .int (nI wg), .ref ad.1, .ref ad.2.1, .ref ad.2.2.1, .ref ad.2.2.2.1, .ref ad.2.2.2.2.1, .ref ad.2.2.2.2.2], ey Z ad.1 4000 K, ea Z ad.2.1 4000 F, ea Z ad.2.2.1 4000 S, ea Z ad.2.2.2.1 4000 T, ea Z ad.2.2.2.2.1 4000 D, el Z ad.2.2.2.2.2 4000 V]) _ _ := hW
  rw [vix_iff _ (by omega)] at hi
  refine lv_iload_n hx hb dX4_is_0 rfl (lv_at hl 1 rfl) ?_
  refine lv_if_lt (tgt := 16) hx hb dX4_is_1 (by decide) (fun q1 => ?_) (fun q1 => ?_)
  all_goals rw [i_neg] at q1
  · refine lv_iconst (v := nI 0) hx hb dX4_is_16 (by decide) ?_
    exact e_bool hx hb hr hlk hAe hW (by omega) (by omega) rfl dX4_is_17 ⟨rfl, rfl⟩
  · refine lv_iload_n hx hb dX4_is_4 rfl (lv_at hl 1 rfl) ?_
    refine lv_aload_n hx hb dX4_is_5 rfl (lv_at hl 0 rfl) ?_
    refine r_get hx hb hts hown hK (hW.at 0 rfl) rfl in_X4 1 (by decide) tb_780 (fun _ h => h) rfl dX4_is_6 ?_
    refine lv_icmp_ge (tgt := 16) hx hb dX4_is_9 (by decide) (fun q2 => ?_) (fun q2 => absurd ((i_ge xv (by omega)).mpr (by omega)) q2)
    refine lv_iconst (v := nI 0) hx hb dX4_is_16 (by decide) ?_
    exact e_bool hx hb hr hlk hAe hW (by omega) (by omega) rfl dX4_is_17 ⟨rfl, rfl⟩
set_option maxHeartbeats 4000000 in
set_option maxRecDepth 100000 in
theorem k_like1 (l : Launch) (Z : Zt) (hm : Nat) (ad : MA) (cd n wg : Nat) (K F S T D V : Nat → Nat) (i j : Nat) (hi : i < n) (hj : j < n) (hij : D i = D j) (hn : n ≤ 4000) : MC l yX4_areAlike cX4_areAlike 3 (some .boolean) 1 60 (0) (0) Z (mw Z hm ad cd n wg K F S T D V) (fun _ => True) [.ref hm, .int (nI i), .int (nI j)] (fun r w1 => r = some (.int (nI 1)) ∧ w1 = mw Z hm ad cd n wg K F S T D V) := by
  refine mc_of (by decide) (Nat.le_of_ble_eq_true rfl) (fun p e s m below meth c ls A hx hb hr hts hown hlk hml hin hK hG hW hA hAe hro hl R hRf hRc hRs hRl => ?_)
  have hl : lv_has ls 3 [(0, .ref hm), (1, .int (nI i)), (2, .int (nI j))] := hl
  have hW : Wd Z A s.heap ([eo hm 4 [.int (nI cd), .int (nI n), .int (nI wg), .ref ad.1, .ref ad.2.1, .ref ad.2.2.1, .ref ad.2.2.2.1, .ref ad.2.2.2.2.1, .ref ad.2.2.2.2.2], ey Z ad.1 4000 K, ea Z ad.2.1 4000 F, ea Z ad.2.2.1 4000 S, ea Z ad.2.2.2.1 4000 T, ea Z ad.2.2.2.2.1 4000 D, el Z ad.2.2.2.2.2 4000 V]) _ _ := hW
  refine lv_aload_n hx hb dX4_areAlike_0 rfl (lv_at hl 0 rfl) ?_
  refine lv_iload_n hx hb dX4_areAlike_1 rfl (lv_at hl 1 rfl) ?_
  refine c_virt (As := [.int (nI i)]) (rest := []) (wc := [eo hm 4 [.int (nI cd), .int (nI n), .int (nI wg), .ref ad.1, .ref ad.2.1, .ref ad.2.2.1, .ref ad.2.2.2.1, .ref ad.2.2.2.2.1, .ref ad.2.2.2.2.2], ey Z ad.1 4000 K, ea Z ad.2.1 4000 F, ea Z ad.2.2.1 4000 S, ea Z ad.2.2.2.1 4000 T, ea Z ad.2.2.2.2.1 4000 D, el Z ad.2.2.2.2.2 4000 V]) (wr := []) (nl := 0) hx hb hml hown hts hK hG rfl hA hl (k_is1 l Z hm ad cd n wg K F S T D V i hi hn) hW trivial (hW.at 0 rfl) rfl rfl tb_833 tb_835 ts_11 tb_7 tb_836 (nA := 1) (by decide +kernel) rfl ⟨by omega, by omega⟩ ⟨by omega, by omega⟩ rfl (Nat.le_of_ble_eq_true rfl) dX4_areAlike_2 (fun v w1 H1 L1 hp hW hzz hkk hdd => ?_)
  obtain ⟨rfl, rfl⟩ := hp
  clear hzz hkk hdd
  generalize H1 = H at hW  ⊢
  generalize L1 = locs at hW ⊢
  have hW : Wd Z A s.heap ([eo hm 4 [.int (nI cd), .int (nI n), .int (nI wg), .ref ad.1, .ref ad.2.1, .ref ad.2.2.1, .ref ad.2.2.2.1, .ref ad.2.2.2.2.1, .ref ad.2.2.2.2.2], ey Z ad.1 4000 K, ea Z ad.2.1 4000 F, ea Z ad.2.2.1 4000 S, ea Z ad.2.2.2.1 4000 T, ea Z ad.2.2.2.2.1 4000 D, el Z ad.2.2.2.2.2 4000 V]) _ _ := hW
  refine W.eq (g2 := F0 m 5 ls [.int (nI 1)]) rfl ?_
  refine n_zeq_f (tgt := 35) hx hb (by decide) (by omega) dX4_areAlike_5 (by decide) ?_
  refine lv_aload_n hx hb dX4_areAlike_8 rfl (lv_at hl 0 rfl) ?_
  refine lv_iload_n hx hb dX4_areAlike_9 rfl (lv_at hl 2 rfl) ?_
  refine c_virt (As := [.int (nI j)]) (rest := []) (wc := [eo hm 4 [.int (nI cd), .int (nI n), .int (nI wg), .ref ad.1, .ref ad.2.1, .ref ad.2.2.1, .ref ad.2.2.2.1, .ref ad.2.2.2.2.1, .ref ad.2.2.2.2.2], ey Z ad.1 4000 K, ea Z ad.2.1 4000 F, ea Z ad.2.2.1 4000 S, ea Z ad.2.2.2.1 4000 T, ea Z ad.2.2.2.2.1 4000 D, el Z ad.2.2.2.2.2 4000 V]) (wr := []) (nl := 0) hx hb hml hown hts hK hG rfl hA hl (k_is1 l Z hm ad cd n wg K F S T D V j hj hn) hW trivial (hW.at 0 rfl) rfl rfl tb_833 tb_835 ts_11 tb_7 tb_836 (nA := 1) (by decide +kernel) rfl ⟨by omega, by omega⟩ ⟨by omega, by omega⟩ rfl (Nat.le_of_ble_eq_true rfl) dX4_areAlike_10 (fun v w1 H1 L1 hp hW hzz hkk hdd => ?_)
  obtain ⟨rfl, rfl⟩ := hp
  clear hzz hkk hdd
  generalize H1 = H at hW  ⊢
  generalize L1 = locs at hW ⊢
  have hW : Wd Z A s.heap ([eo hm 4 [.int (nI cd), .int (nI n), .int (nI wg), .ref ad.1, .ref ad.2.1, .ref ad.2.2.1, .ref ad.2.2.2.1, .ref ad.2.2.2.2.1, .ref ad.2.2.2.2.2], ey Z ad.1 4000 K, ea Z ad.2.1 4000 F, ea Z ad.2.2.1 4000 S, ea Z ad.2.2.2.1 4000 T, ea Z ad.2.2.2.2.1 4000 D, el Z ad.2.2.2.2.2 4000 V]) _ _ := hW
  refine W.eq (g2 := F0 m 13 ls [.int (nI 1)]) rfl ?_
  refine n_zeq_f (tgt := 35) hx hb (by decide) (by omega) dX4_areAlike_13 (by decide) ?_
  refine lv_aload_n hx hb dX4_areAlike_16 rfl (lv_at hl 0 rfl) ?_
  refine r_get hx hb hts hown hK (hW.at 0 rfl) rfl in_X4 7 (by decide) tb_786 (fun _ h => h) rfl dX4_areAlike_17 ?_
  refine lv_iload_n hx hb dX4_areAlike_20 rfl (lv_at hl 1 rfl) ?_
  refine r_ald (i := i) hx hb hK (hW.at 5 rfl) (by omega) (by omega) dX4_areAlike_21 ?_
  refine lv_aload_n hx hb dX4_areAlike_22 rfl (lv_at hl 0 rfl) ?_
  refine r_get hx hb hts hown hK (hW.at 0 rfl) rfl in_X4 7 (by decide) tb_786 (fun _ h => h) rfl dX4_areAlike_23 ?_
  refine lv_iload_n hx hb dX4_areAlike_26 rfl (lv_at hl 2 rfl) ?_
  refine r_ald (i := j) hx hb hK (hW.at 5 rfl) (by omega) (by omega) dX4_areAlike_27 ?_
  refine n_ne_f (tgt := 35) hx hb (by omega) dX4_areAlike_28 (by decide) ?_
  refine lv_iconst (v := nI 1) hx hb dX4_areAlike_31 (by decide) ?_
  refine lv_goto (tgt := 36) hx hb dX4_areAlike_32 (by decide) ?_
  exact e_bool hx hb hr hlk hAe hW (by omega) (by omega) rfl dX4_areAlike_36 ⟨rfl, rfl⟩
set_option maxHeartbeats 4000000 in
set_option maxRecDepth 100000 in
theorem k_like0 (l : Launch) (Z : Zt) (hm : Nat) (ad : MA) (cd n wg : Nat) (K F S T D V : Nat → Nat) (xa xb : Int32) (hg : ¬ ∃ i j, i < n ∧ j < n ∧ xa = nI i ∧ xb = nI j ∧ D i = D j) (hn : n ≤ 4000) (hD : ∀ i, i < n → D i ≤ 64) : MC l yX4_areAlike cX4_areAlike 3 (some .boolean) 1 60 (0) (0) Z (mw Z hm ad cd n wg K F S T D V) (fun _ => True) [.ref hm, .int xa, .int xb] (fun r w1 => r = some (.int (nI 0)) ∧ w1 = mw Z hm ad cd n wg K F S T D V) := by
  refine mc_of (by decide) (Nat.le_of_ble_eq_true rfl) (fun p e s m below meth c ls A hx hb hr hts hown hlk hml hin hK hG hW hA hAe hro hl R hRf hRc hRs hRl => ?_)
  have hl : lv_has ls 3 [(0, .ref hm), (1, .int xa), (2, .int xb)] := hl
  have hW : Wd Z A s.heap ([eo hm 4 [.int (nI cd), .int (nI n), .int (nI wg), .ref ad.1, .ref ad.2.1, .ref ad.2.2.1, .ref ad.2.2.2.1, .ref ad.2.2.2.2.1, .ref ad.2.2.2.2.2], ey Z ad.1 4000 K, ea Z ad.2.1 4000 F, ea Z ad.2.2.1 4000 S, ea Z ad.2.2.2.1 4000 T, ea Z ad.2.2.2.2.1 4000 D, el Z ad.2.2.2.2.2 4000 V]) _ _ := hW
  refine lv_aload_n hx hb dX4_areAlike_0 rfl (lv_at hl 0 rfl) ?_
  refine lv_iload_n hx hb dX4_areAlike_1 rfl (lv_at hl 1 rfl) ?_
  by_cases ha : vix xa n
  · obtain ⟨i, hi, rfl⟩ := ha
    refine c_virt (As := [.int (nI i)]) (rest := []) (wc := [eo hm 4 [.int (nI cd), .int (nI n), .int (nI wg), .ref ad.1, .ref ad.2.1, .ref ad.2.2.1, .ref ad.2.2.2.1, .ref ad.2.2.2.2.1, .ref ad.2.2.2.2.2], ey Z ad.1 4000 K, ea Z ad.2.1 4000 F, ea Z ad.2.2.1 4000 S, ea Z ad.2.2.2.1 4000 T, ea Z ad.2.2.2.2.1 4000 D, el Z ad.2.2.2.2.2 4000 V]) (wr := []) (nl := 0) hx hb hml hown hts hK hG rfl hA hl (k_is1 l Z hm ad cd n wg K F S T D V i hi hn) hW trivial (hW.at 0 rfl) rfl rfl tb_833 tb_835 ts_11 tb_7 tb_836 (nA := 1) (by decide +kernel) rfl ⟨by omega, by omega⟩ ⟨by omega, by omega⟩ rfl (Nat.le_of_ble_eq_true rfl) dX4_areAlike_2 (fun v w1 H1 L1 hp hW hzz hkk hdd => ?_)
    obtain ⟨rfl, rfl⟩ := hp
    clear hzz hkk hdd
    generalize H1 = H at hW  ⊢
    generalize L1 = locs at hW ⊢
    have hW : Wd Z A s.heap ([eo hm 4 [.int (nI cd), .int (nI n), .int (nI wg), .ref ad.1, .ref ad.2.1, .ref ad.2.2.1, .ref ad.2.2.2.1, .ref ad.2.2.2.2.1, .ref ad.2.2.2.2.2], ey Z ad.1 4000 K, ea Z ad.2.1 4000 F, ea Z ad.2.2.1 4000 S, ea Z ad.2.2.2.1 4000 T, ea Z ad.2.2.2.2.1 4000 D, el Z ad.2.2.2.2.2 4000 V]) _ _ := hW
    refine W.eq (g2 := F0 m 5 ls [.int (nI 1)]) rfl ?_
    refine n_zeq_f (tgt := 35) hx hb (by decide) (by omega) dX4_areAlike_5 (by decide) ?_
    refine lv_aload_n hx hb dX4_areAlike_8 rfl (lv_at hl 0 rfl) ?_
    refine lv_iload_n hx hb dX4_areAlike_9 rfl (lv_at hl 2 rfl) ?_
    by_cases hb2 : vix xb n
    · obtain ⟨j, hj, rfl⟩ := hb2
      refine c_virt (As := [.int (nI j)]) (rest := []) (wc := [eo hm 4 [.int (nI cd), .int (nI n), .int (nI wg), .ref ad.1, .ref ad.2.1, .ref ad.2.2.1, .ref ad.2.2.2.1, .ref ad.2.2.2.2.1, .ref ad.2.2.2.2.2], ey Z ad.1 4000 K, ea Z ad.2.1 4000 F, ea Z ad.2.2.1 4000 S, ea Z ad.2.2.2.1 4000 T, ea Z ad.2.2.2.2.1 4000 D, el Z ad.2.2.2.2.2 4000 V]) (wr := []) (nl := 0) hx hb hml hown hts hK hG rfl hA hl (k_is1 l Z hm ad cd n wg K F S T D V j hj hn) hW trivial (hW.at 0 rfl) rfl rfl tb_833 tb_835 ts_11 tb_7 tb_836 (nA := 1) (by decide +kernel) rfl ⟨by omega, by omega⟩ ⟨by omega, by omega⟩ rfl (Nat.le_of_ble_eq_true rfl) dX4_areAlike_10 (fun v w1 H1 L1 hp hW hzz hkk hdd => ?_)
      obtain ⟨rfl, rfl⟩ := hp
      clear hzz hkk hdd
      generalize H1 = H at hW  ⊢
      generalize L1 = locs at hW ⊢
      have hW : Wd Z A s.heap ([eo hm 4 [.int (nI cd), .int (nI n), .int (nI wg), .ref ad.1, .ref ad.2.1, .ref ad.2.2.1, .ref ad.2.2.2.1, .ref ad.2.2.2.2.1, .ref ad.2.2.2.2.2], ey Z ad.1 4000 K, ea Z ad.2.1 4000 F, ea Z ad.2.2.1 4000 S, ea Z ad.2.2.2.1 4000 T, ea Z ad.2.2.2.2.1 4000 D, el Z ad.2.2.2.2.2 4000 V]) _ _ := hW
      refine W.eq (g2 := F0 m 13 ls [.int (nI 1)]) rfl ?_
      refine n_zeq_f (tgt := 35) hx hb (by decide) (by omega) dX4_areAlike_13 (by decide) ?_
      refine lv_aload_n hx hb dX4_areAlike_16 rfl (lv_at hl 0 rfl) ?_
      refine r_get hx hb hts hown hK (hW.at 0 rfl) rfl in_X4 7 (by decide) tb_786 (fun _ h => h) rfl dX4_areAlike_17 ?_
      refine lv_iload_n hx hb dX4_areAlike_20 rfl (lv_at hl 1 rfl) ?_
      refine r_ald (i := i) hx hb hK (hW.at 5 rfl) (by omega) (by omega) dX4_areAlike_21 ?_
      refine lv_aload_n hx hb dX4_areAlike_22 rfl (lv_at hl 0 rfl) ?_
      refine r_get hx hb hts hown hK (hW.at 0 rfl) rfl in_X4 7 (by decide) tb_786 (fun _ h => h) rfl dX4_areAlike_23 ?_
      refine lv_iload_n hx hb dX4_areAlike_26 rfl (lv_at hl 2 rfl) ?_
      refine r_ald (i := j) hx hb hK (hW.at 5 rfl) (by omega) (by omega) dX4_areAlike_27 ?_
      have h1 := hD i hi
      have h2 := hD j hj
      have hne : D i ≠ D j := fun q => hg ⟨i, j, hi, hj, rfl, rfl, q⟩
      refine n_ne_t (tgt := 35) hx hb hne (by omega) (by omega) dX4_areAlike_28 (by decide) ?_
      refine lv_iconst (v := nI 0) hx hb dX4_areAlike_35 (by decide) ?_
      exact e_bool hx hb hr hlk hAe hW (by omega) (by omega) rfl dX4_areAlike_36 ⟨rfl, rfl⟩
    · refine c_virt (As := [.int xb]) (rest := []) (wc := [eo hm 4 [.int (nI cd), .int (nI n), .int (nI wg), .ref ad.1, .ref ad.2.1, .ref ad.2.2.1, .ref ad.2.2.2.1, .ref ad.2.2.2.2.1, .ref ad.2.2.2.2.2], ey Z ad.1 4000 K, ea Z ad.2.1 4000 F, ea Z ad.2.2.1 4000 S, ea Z ad.2.2.2.1 4000 T, ea Z ad.2.2.2.2.1 4000 D, el Z ad.2.2.2.2.2 4000 V]) (wr := []) (nl := 0) hx hb hml hown hts hK hG rfl hA hl (k_is0 l Z hm ad cd n wg K F S T D V xb hb2 hn) hW trivial (hW.at 0 rfl) rfl rfl tb_833 tb_835 ts_11 tb_7 tb_836 (nA := 1) (by decide +kernel) rfl ⟨by omega, by omega⟩ ⟨by omega, by omega⟩ rfl (Nat.le_of_ble_eq_true rfl) dX4_areAlike_10 (fun v w1 H1 L1 hp hW hzz hkk hdd => ?_)
      obtain ⟨rfl, rfl⟩ := hp
      clear hzz hkk hdd
      generalize H1 = H at hW  ⊢
      generalize L1 = locs at hW ⊢
      have hW : Wd Z A s.heap ([eo hm 4 [.int (nI cd), .int (nI n), .int (nI wg), .ref ad.1, .ref ad.2.1, .ref ad.2.2.1, .ref ad.2.2.2.1, .ref ad.2.2.2.2.1, .ref ad.2.2.2.2.2], ey Z ad.1 4000 K, ea Z ad.2.1 4000 F, ea Z ad.2.2.1 4000 S, ea Z ad.2.2.2.1 4000 T, ea Z ad.2.2.2.2.1 4000 D, el Z ad.2.2.2.2.2 4000 V]) _ _ := hW
      refine W.eq (g2 := F0 m 13 ls [.int (nI 0)]) rfl ?_
      refine n_zeq_t (tgt := 35) hx hb rfl dX4_areAlike_13 (by decide) ?_
      refine lv_iconst (v := nI 0) hx hb dX4_areAlike_35 (by decide) ?_
      exact e_bool hx hb hr hlk hAe hW (by omega) (by omega) rfl dX4_areAlike_36 ⟨rfl, rfl⟩
  · refine c_virt (As := [.int xa]) (rest := []) (wc := [eo hm 4 [.int (nI cd), .int (nI n), .int (nI wg), .ref ad.1, .ref ad.2.1, .ref ad.2.2.1, .ref ad.2.2.2.1, .ref ad.2.2.2.2.1, .ref ad.2.2.2.2.2], ey Z ad.1 4000 K, ea Z ad.2.1 4000 F, ea Z ad.2.2.1 4000 S, ea Z ad.2.2.2.1 4000 T, ea Z ad.2.2.2.2.1 4000 D, el Z ad.2.2.2.2.2 4000 V]) (wr := []) (nl := 0) hx hb hml hown hts hK hG rfl hA hl (k_is0 l Z hm ad cd n wg K F S T D V xa ha hn) hW trivial (hW.at 0 rfl) rfl rfl tb_833 tb_835 ts_11 tb_7 tb_836 (nA := 1) (by decide +kernel) rfl ⟨by omega, by omega⟩ ⟨by omega, by omega⟩ rfl (Nat.le_of_ble_eq_true rfl) dX4_areAlike_2 (fun v w1 H1 L1 hp hW hzz hkk hdd => ?_)
    obtain ⟨rfl, rfl⟩ := hp
    clear hzz hkk hdd
    generalize H1 = H at hW  ⊢
    generalize L1 = locs at hW ⊢
    have hW : Wd Z A s.heap ([eo hm 4 [.int (nI cd), .int (nI n), .int (nI wg), .ref ad.1, .ref ad.2.1, .ref ad.2.2.1, .ref ad.2.2.2.1, .ref ad.2.2.2.2.1, .ref ad.2.2.2.2.2], ey Z ad.1 4000 K, ea Z ad.2.1 4000 F, ea Z ad.2.2.1 4000 S, ea Z ad.2.2.2.1 4000 T, ea Z ad.2.2.2.2.1 4000 D, el Z ad.2.2.2.2.2 4000 V]) _ _ := hW
    refine W.eq (g2 := F0 m 5 ls [.int (nI 0)]) rfl ?_
    refine n_zeq_t (tgt := 35) hx hb rfl dX4_areAlike_5 (by decide) ?_
    refine lv_iconst (v := nI 0) hx hb dX4_areAlike_35 (by decide) ?_
    exact e_bool hx hb hr hlk hAe hW (by omega) (by omega) rfl dX4_areAlike_36 ⟨rfl, rfl⟩
set_option maxHeartbeats 4000000 in
set_option maxRecDepth 100000 in
theorem k_madd0 (l : Launch) (Z : Zt) (hm : Nat) (ad : MA) (cd n wg : Nat) (K F S T D V : Nat → Nat) (xh xk xa xb xc xw : Int32)  : MC l yX4_add cX4_add 8 (some .int) 0 0 (0) (0) Z (mw Z hm ad cd n wg K F S T D V) (fun _ => True) [.ref hm, .int (nI 0), .int xh, .int xk, .int xa, .int xb, .int xc, .int xw] (fun r w1 => r = some (.int (nI 0)) ∧ w1 = mw Z hm ad 1 n wg K F S T D V) := by
  refine mc_of (by decide) (Nat.le_of_ble_eq_true rfl) (fun p e s m below meth c ls A hx hb hr hts hown hlk hml hin hK hG hW hA hAe hro hl R hRf hRc hRs hRl => ?_)
  have hl : lv_has ls 8 [(0, .ref hm), (1, .int (nI 0)), (2, .int xh), (3, .int xk), (4, .int xa), (5, .int xb), (6, .int xc), (7, .int xw)] := hl
  have hW : Wd Z A s.heap ([eo hm 4 [.int (nI cd), .int (nI n), .int (nI wg), .ref ad.1, .ref ad.2.1, .ref ad.2.2.1, .ref ad.2.2.2.1, .ref ad.2.2.2.2.1, .ref ad.2.2.2.2.2], ey Z ad.1 4000 K, ea Z ad.2.1 4000 F, ea Z ad.2.2.1 4000 S, ea Z ad.2.2.2.1 4000 T, ea Z ad.2.2.2.2.1 4000 D, el Z ad.2.2.2.2.2 4000 V]) _ _ := hW
  refine lv_aload_n hx hb dX4_add_0 rfl (lv_at hl 0 rfl) ?_
  refine lv_iload_n hx hb dX4_add_1 rfl (lv_at hl 1 rfl) ?_
  refine n_zne_f (tgt := 9) hx hb rfl dX4_add_2 (by decide) ?_
  refine lv_iconst (v := nI 1) hx hb dX4_add_5 (by decide) ?_
  refine lv_goto (tgt := 35) hx hb dX4_add_6 (by decide) ?_
  refine r_put hx hb hts hown hK hW 0 (v := .int (nI 1)) rfl rfl in_X4 tyX4 tyX4_ok nmX4 0 (by decide) tb_779 (fun _ h => h) rfl rfl rfl (Nat.le_of_ble_eq_true rfl) dX4_add_35 (fun H locs hW => ?_)
  have hW : Wd Z A s.heap ([eo hm 4 [.int (nI 1), .int (nI n), .int (nI wg), .ref ad.1, .ref ad.2.1, .ref ad.2.2.1, .ref ad.2.2.2.1, .ref ad.2.2.2.2.1, .ref ad.2.2.2.2.2], ey Z ad.1 4000 K, ea Z ad.2.1 4000 F, ea Z ad.2.2.1 4000 S, ea Z ad.2.2.2.1 4000 T, ea Z ad.2.2.2.2.1 4000 D, el Z ad.2.2.2.2.2 4000 V]) _ _ := hW
  refine lv_aload_n hx hb dX4_add_38 rfl (lv_at hl 0 rfl) ?_
  refine r_get hx hb hts hown hK (hW.at 0 rfl) rfl in_X4 0 (by decide) tb_779 (fun _ h => h) rfl dX4_add_39 ?_
  refine n_zle_f (tgt := 47) hx hb (by omega) (by omega) dX4_add_42 (by decide) ?_
  refine lv_iconst (v := nI 0) hx hb dX4_add_45 (by decide) ?_
  exact e_int hx hb hr hlk hAe hW (by omega) (by omega) dX4_add_46 ⟨rfl, rfl⟩
set_option maxHeartbeats 4000000 in
set_option maxRecDepth 100000 in
theorem k_madd2 (l : Launch) (Z : Zt) (hm : Nat) (ad : MA) (cd n wg : Nat) (K F S T D V : Nat → Nat) (g : Nat) (xk xa xb xc xw : Int32) (hn : n < 4000) (hg : ¬ wg + g ≤ 100000) (hb2 : wg + g < 2 ^ 31) : MC l yX4_add cX4_add 8 (some .int) 0 0 (0) (0) Z (mw Z hm ad cd n wg K F S T D V) (fun _ => True) [.ref hm, .int (nI 1), .int (nI g), .int xk, .int xa, .int xb, .int xc, .int xw] (fun r w1 => r = some (.int (nI 0)) ∧ w1 = mw Z hm ad 2 n wg K F S T D V) := by
  refine mc_of (by decide) (Nat.le_of_ble_eq_true rfl) (fun p e s m below meth c ls A hx hb hr hts hown hlk hml hin hK hG hW hA hAe hro hl R hRf hRc hRs hRl => ?_)
  have hl : lv_has ls 8 [(0, .ref hm), (1, .int (nI 1)), (2, .int (nI g)), (3, .int xk), (4, .int xa), (5, .int xb), (6, .int xc), (7, .int xw)] := hl
  have hW : Wd Z A s.heap ([eo hm 4 [.int (nI cd), .int (nI n), .int (nI wg), .ref ad.1, .ref ad.2.1, .ref ad.2.2.1, .ref ad.2.2.2.1, .ref ad.2.2.2.2.1, .ref ad.2.2.2.2.2], ey Z ad.1 4000 K, ea Z ad.2.1 4000 F, ea Z ad.2.2.1 4000 S, ea Z ad.2.2.2.1 4000 T, ea Z ad.2.2.2.2.1 4000 D, el Z ad.2.2.2.2.2 4000 V]) _ _ := hW
  refine lv_aload_n hx hb dX4_add_0 rfl (lv_at hl 0 rfl) ?_
  refine lv_iload_n hx hb dX4_add_1 rfl (lv_at hl 1 rfl) ?_
  refine n_zne_t (tgt := 9) hx hb (by decide) (by omega) dX4_add_2 (by decide) ?_
  refine lv_aload_n hx hb dX4_add_9 rfl (lv_at hl 0 rfl) ?_
  refine r_get hx hb hts hown hK (hW.at 0 rfl) rfl in_X4 1 (by decide) tb_780 (fun _ h => h) rfl dX4_add_10 ?_
  refine lv_sipush (v := nI 4000) hx hb dX4_add_13 (by decide) ?_
  refine n_eq_f (tgt := 30) hx hb (by omega) (by omega) (by omega) dX4_add_16 (by decide) ?_
  refine lv_aload_n hx hb dX4_add_19 rfl (lv_at hl 0 rfl) ?_
  refine r_get hx hb hts hown hK (hW.at 0 rfl) rfl in_X4 2 (by decide) tb_781 (fun _ h => h) rfl dX4_add_20 ?_
  refine lv_iload_n hx hb dX4_add_23 rfl (lv_at hl 2 rfl) ?_
  refine n_iadd hx hb dX4_add_24 ?_
  refine lv_ldc (v := nI 100000) hx hb hown (hts _ tb_820) dX4_add_25 ?_
  refine n_le_f (tgt := 34) hx hb (by omega) (by omega) dX4_add_27 (by decide) ?_
  refine lv_iconst (v := nI 2) hx hb dX4_add_30 (by decide) ?_
  refine lv_goto (tgt := 35) hx hb dX4_add_31 (by decide) ?_
  refine r_put hx hb hts hown hK hW 0 (v := .int (nI 2)) rfl rfl in_X4 tyX4 tyX4_ok nmX4 0 (by decide) tb_779 (fun _ h => h) rfl rfl rfl (Nat.le_of_ble_eq_true rfl) dX4_add_35 (fun H locs hW => ?_)
  have hW : Wd Z A s.heap ([eo hm 4 [.int (nI 2), .int (nI n), .int (nI wg), .ref ad.1, .ref ad.2.1, .ref ad.2.2.1, .ref ad.2.2.2.1, .ref ad.2.2.2.2.1, .ref ad.2.2.2.2.2], ey Z ad.1 4000 K, ea Z ad.2.1 4000 F, ea Z ad.2.2.1 4000 S, ea Z ad.2.2.2.1 4000 T, ea Z ad.2.2.2.2.1 4000 D, el Z ad.2.2.2.2.2 4000 V]) _ _ := hW
  refine lv_aload_n hx hb dX4_add_38 rfl (lv_at hl 0 rfl) ?_
  refine r_get hx hb hts hown hK (hW.at 0 rfl) rfl in_X4 0 (by decide) tb_779 (fun _ h => h) rfl dX4_add_39 ?_
  refine n_zle_f (tgt := 47) hx hb (by omega) (by omega) dX4_add_42 (by decide) ?_
  refine lv_iconst (v := nI 0) hx hb dX4_add_45 (by decide) ?_
  exact e_int hx hb hr hlk hAe hW (by omega) (by omega) dX4_add_46 ⟨rfl, rfl⟩
set_option maxHeartbeats 4000000 in
set_option maxRecDepth 100000 in
theorem k_madd1 (l : Launch) (Z : Zt) (hm : Nat) (ad : MA) (cd n wg : Nat) (K F S T D V : Nat → Nat) (g k a b d w : Nat) (hn : n < 4000) (hg : wg + g ≤ 100000) (hk8 : k < 128) : MC l yX4_add cX4_add 8 (some .int) 0 0 (0) (0) Z (mw Z hm ad cd n wg K F S T D V) (fun _ => True) [.ref hm, .int (nI 1), .int (nI g), .int (nI k), .int (nI a), .int (nI b), .int (nI d), .int (nI w)] (fun r w1 => r = some (.int (nI n)) ∧ w1 = mw Z hm ad 0 (n + 1) (wg + g) (up K n k) (up F n a) (up S n b) (up T n d) (up D n w) (up V n 0)) := by
  refine mc_of (by decide) (Nat.le_of_ble_eq_true rfl) (fun p e s m below meth c ls A hx hb hr hts hown hlk hml hin hK hG hW hA hAe hro hl R hRf hRc hRs hRl => ?_)
  have hl : lv_has ls 8 [(0, .ref hm), (1, .int (nI 1)), (2, .int (nI g)), (3, .int (nI k)), (4, .int (nI a)), (5, .int (nI b)), (6, .int (nI d)), (7, .int (nI w))] := hl
  have hW : Wd Z A s.heap ([eo hm 4 [.int (nI cd), .int (nI n), .int (nI wg), .ref ad.1, .ref ad.2.1, .ref ad.2.2.1, .ref ad.2.2.2.1, .ref ad.2.2.2.2.1, .ref ad.2.2.2.2.2], ey Z ad.1 4000 K, ea Z ad.2.1 4000 F, ea Z ad.2.2.1 4000 S, ea Z ad.2.2.2.1 4000 T, ea Z ad.2.2.2.2.1 4000 D, el Z ad.2.2.2.2.2 4000 V]) _ _ := hW
  refine lv_aload_n hx hb dX4_add_0 rfl (lv_at hl 0 rfl) ?_
  refine lv_iload_n hx hb dX4_add_1 rfl (lv_at hl 1 rfl) ?_
  refine n_zne_t (tgt := 9) hx hb (by decide) (by omega) dX4_add_2 (by decide) ?_
  refine lv_aload_n hx hb dX4_add_9 rfl (lv_at hl 0 rfl) ?_
  refine r_get hx hb hts hown hK (hW.at 0 rfl) rfl in_X4 1 (by decide) tb_780 (fun _ h => h) rfl dX4_add_10 ?_
  refine lv_sipush (v := nI 4000) hx hb dX4_add_13 (by decide) ?_
  refine n_eq_f (tgt := 30) hx hb (by omega) (by omega) (by omega) dX4_add_16 (by decide) ?_
  refine lv_aload_n hx hb dX4_add_19 rfl (lv_at hl 0 rfl) ?_
  refine r_get hx hb hts hown hK (hW.at 0 rfl) rfl in_X4 2 (by decide) tb_781 (fun _ h => h) rfl dX4_add_20 ?_
  refine lv_iload_n hx hb dX4_add_23 rfl (lv_at hl 2 rfl) ?_
  refine n_iadd hx hb dX4_add_24 ?_
  refine lv_ldc (v := nI 100000) hx hb hown (hts _ tb_820) dX4_add_25 ?_
  refine n_le_t (tgt := 34) hx hb (by omega) (by omega) dX4_add_27 (by decide) ?_
  refine lv_iconst (v := nI 0) hx hb dX4_add_34 (by decide) ?_
  refine r_put hx hb hts hown hK hW 0 (v := .int (nI 0)) rfl rfl in_X4 tyX4 tyX4_ok nmX4 0 (by decide) tb_779 (fun _ h => h) rfl rfl rfl (Nat.le_of_ble_eq_true rfl) dX4_add_35 (fun H locs hW => ?_)
  have hW : Wd Z A s.heap ([eo hm 4 [.int (nI 0), .int (nI n), .int (nI wg), .ref ad.1, .ref ad.2.1, .ref ad.2.2.1, .ref ad.2.2.2.1, .ref ad.2.2.2.2.1, .ref ad.2.2.2.2.2], ey Z ad.1 4000 K, ea Z ad.2.1 4000 F, ea Z ad.2.2.1 4000 S, ea Z ad.2.2.2.1 4000 T, ea Z ad.2.2.2.2.1 4000 D, el Z ad.2.2.2.2.2 4000 V]) _ _ := hW
  refine lv_aload_n hx hb dX4_add_38 rfl (lv_at hl 0 rfl) ?_
  refine r_get hx hb hts hown hK (hW.at 0 rfl) rfl in_X4 0 (by decide) tb_779 (fun _ h => h) rfl dX4_add_39 ?_
  refine n_zle_t (tgt := 47) hx hb (by omega) (by omega) dX4_add_42 (by decide) ?_
  refine lv_aload_n hx hb dX4_add_47 rfl (lv_at hl 0 rfl) ?_
  refine lv_dup hx hb dX4_add_48 rfl ?_
  refine r_get hx hb hts hown hK (hW.at 0 rfl) rfl in_X4 2 (by decide) tb_781 (fun _ h => h) rfl dX4_add_49 ?_
  refine lv_iload_n hx hb dX4_add_52 rfl (lv_at hl 2 rfl) ?_
  refine n_iadd hx hb dX4_add_53 ?_
  refine r_put hx hb hts hown hK hW 0 (v := .int (nI (wg + g))) rfl rfl in_X4 tyX4 tyX4_ok nmX4 2 (by decide) tb_781 (fun _ h => h) rfl rfl rfl (Nat.le_of_ble_eq_true rfl) dX4_add_54 (fun H locs hW => ?_)
  have hW : Wd Z A s.heap ([eo hm 4 [.int (nI 0), .int (nI n), .int (nI (wg + g)), .ref ad.1, .ref ad.2.1, .ref ad.2.2.1, .ref ad.2.2.2.1, .ref ad.2.2.2.2.1, .ref ad.2.2.2.2.2], ey Z ad.1 4000 K, ea Z ad.2.1 4000 F, ea Z ad.2.2.1 4000 S, ea Z ad.2.2.2.1 4000 T, ea Z ad.2.2.2.2.1 4000 D, el Z ad.2.2.2.2.2 4000 V]) _ _ := hW
  refine lv_aload_n hx hb dX4_add_57 rfl (lv_at hl 0 rfl) ?_
  refine r_get hx hb hts hown hK (hW.at 0 rfl) rfl in_X4 3 (by decide) tb_782 (fun _ h => h) rfl dX4_add_58 ?_
  refine lv_aload_n hx hb dX4_add_61 rfl (lv_at hl 0 rfl) ?_
  refine r_get hx hb hts hown hK (hW.at 0 rfl) rfl in_X4 1 (by decide) tb_780 (fun _ h => h) rfl dX4_add_62 ?_
  refine lv_iload_n hx hb dX4_add_65 rfl (lv_at hl 3 rfl) ?_
  refine lv_i2b (v := nI k) hx hb dX4_add_66 (i2b_v (by omega)) ?_
  refine r_bast (i := n) (x := k) hx hb hK hW 1 rfl (by omega) (by omega) (by omega) dX4_add_67 (fun H locs hW => ?_)
  have hW : Wd Z A s.heap ([eo hm 4 [.int (nI 0), .int (nI n), .int (nI (wg + g)), .ref ad.1, .ref ad.2.1, .ref ad.2.2.1, .ref ad.2.2.2.1, .ref ad.2.2.2.2.1, .ref ad.2.2.2.2.2], ey Z ad.1 4000 (up K n k), ea Z ad.2.1 4000 F, ea Z ad.2.2.1 4000 S, ea Z ad.2.2.2.1 4000 T, ea Z ad.2.2.2.2.1 4000 D, el Z ad.2.2.2.2.2 4000 V]) _ _ := hW
  refine lv_aload_n hx hb dX4_add_68 rfl (lv_at hl 0 rfl) ?_
  refine r_get hx hb hts hown hK (hW.at 0 rfl) rfl in_X4 4 (by decide) tb_783 (fun _ h => h) rfl dX4_add_69 ?_
  refine lv_aload_n hx hb dX4_add_72 rfl (lv_at hl 0 rfl) ?_
  refine r_get hx hb hts hown hK (hW.at 0 rfl) rfl in_X4 1 (by decide) tb_780 (fun _ h => h) rfl dX4_add_73 ?_
  refine lv_iload hx hb dX4_add_76 (lv_at hl 4 rfl) ?_
  refine r_ast (i := n) (x := a) hx hb hK hW 2 rfl (by omega) (by omega) dX4_add_78 (fun H locs hW => ?_)
  have hW : Wd Z A s.heap ([eo hm 4 [.int (nI 0), .int (nI n), .int (nI (wg + g)), .ref ad.1, .ref ad.2.1, .ref ad.2.2.1, .ref ad.2.2.2.1, .ref ad.2.2.2.2.1, .ref ad.2.2.2.2.2], ey Z ad.1 4000 (up K n k), ea Z ad.2.1 4000 (up F n a), ea Z ad.2.2.1 4000 S, ea Z ad.2.2.2.1 4000 T, ea Z ad.2.2.2.2.1 4000 D, el Z ad.2.2.2.2.2 4000 V]) _ _ := hW
  refine lv_aload_n hx hb dX4_add_79 rfl (lv_at hl 0 rfl) ?_
  refine r_get hx hb hts hown hK (hW.at 0 rfl) rfl in_X4 5 (by decide) tb_784 (fun _ h => h) rfl dX4_add_80 ?_
  refine lv_aload_n hx hb dX4_add_83 rfl (lv_at hl 0 rfl) ?_
  refine r_get hx hb hts hown hK (hW.at 0 rfl) rfl in_X4 1 (by decide) tb_780 (fun _ h => h) rfl dX4_add_84 ?_
  refine lv_iload hx hb dX4_add_87 (lv_at hl 5 rfl) ?_
  refine r_ast (i := n) (x := b) hx hb hK hW 3 rfl (by omega) (by omega) dX4_add_89 (fun H locs hW => ?_)
  have hW : Wd Z A s.heap ([eo hm 4 [.int (nI 0), .int (nI n), .int (nI (wg + g)), .ref ad.1, .ref ad.2.1, .ref ad.2.2.1, .ref ad.2.2.2.1, .ref ad.2.2.2.2.1, .ref ad.2.2.2.2.2], ey Z ad.1 4000 (up K n k), ea Z ad.2.1 4000 (up F n a), ea Z ad.2.2.1 4000 (up S n b), ea Z ad.2.2.2.1 4000 T, ea Z ad.2.2.2.2.1 4000 D, el Z ad.2.2.2.2.2 4000 V]) _ _ := hW
  refine lv_aload_n hx hb dX4_add_90 rfl (lv_at hl 0 rfl) ?_
  refine r_get hx hb hts hown hK (hW.at 0 rfl) rfl in_X4 6 (by decide) tb_785 (fun _ h => h) rfl dX4_add_91 ?_
  refine lv_aload_n hx hb dX4_add_94 rfl (lv_at hl 0 rfl) ?_
  refine r_get hx hb hts hown hK (hW.at 0 rfl) rfl in_X4 1 (by decide) tb_780 (fun _ h => h) rfl dX4_add_95 ?_
  refine lv_iload hx hb dX4_add_98 (lv_at hl 6 rfl) ?_
  refine r_ast (i := n) (x := d) hx hb hK hW 4 rfl (by omega) (by omega) dX4_add_100 (fun H locs hW => ?_)
  have hW : Wd Z A s.heap ([eo hm 4 [.int (nI 0), .int (nI n), .int (nI (wg + g)), .ref ad.1, .ref ad.2.1, .ref ad.2.2.1, .ref ad.2.2.2.1, .ref ad.2.2.2.2.1, .ref ad.2.2.2.2.2], ey Z ad.1 4000 (up K n k), ea Z ad.2.1 4000 (up F n a), ea Z ad.2.2.1 4000 (up S n b), ea Z ad.2.2.2.1 4000 (up T n d), ea Z ad.2.2.2.2.1 4000 D, el Z ad.2.2.2.2.2 4000 V]) _ _ := hW
  refine lv_aload_n hx hb dX4_add_101 rfl (lv_at hl 0 rfl) ?_
  refine r_get hx hb hts hown hK (hW.at 0 rfl) rfl in_X4 7 (by decide) tb_786 (fun _ h => h) rfl dX4_add_102 ?_
  refine lv_aload_n hx hb dX4_add_105 rfl (lv_at hl 0 rfl) ?_
  refine r_get hx hb hts hown hK (hW.at 0 rfl) rfl in_X4 1 (by decide) tb_780 (fun _ h => h) rfl dX4_add_106 ?_
  refine lv_iload hx hb dX4_add_109 (lv_at hl 7 rfl) ?_
  refine r_ast (i := n) (x := w) hx hb hK hW 5 rfl (by omega) (by omega) dX4_add_111 (fun H locs hW => ?_)
  have hW : Wd Z A s.heap ([eo hm 4 [.int (nI 0), .int (nI n), .int (nI (wg + g)), .ref ad.1, .ref ad.2.1, .ref ad.2.2.1, .ref ad.2.2.2.1, .ref ad.2.2.2.2.1, .ref ad.2.2.2.2.2], ey Z ad.1 4000 (up K n k), ea Z ad.2.1 4000 (up F n a), ea Z ad.2.2.1 4000 (up S n b), ea Z ad.2.2.2.1 4000 (up T n d), ea Z ad.2.2.2.2.1 4000 (up D n w), el Z ad.2.2.2.2.2 4000 V]) _ _ := hW
  refine lv_aload_n hx hb dX4_add_112 rfl (lv_at hl 0 rfl) ?_
  refine r_get hx hb hts hown hK (hW.at 0 rfl) rfl in_X4 8 (by decide) tb_787 (fun _ h => h) rfl dX4_add_113 ?_
  refine lv_aload_n hx hb dX4_add_116 rfl (lv_at hl 0 rfl) ?_
  refine r_get hx hb hts hown hK (hW.at 0 rfl) rfl in_X4 1 (by decide) tb_780 (fun _ h => h) rfl dX4_add_117 ?_
  refine lv_lconst (v := 0) hx hb dX4_add_120 (by decide) ?_
  refine W.eq (g2 := F0 m 121 ls [.long (lN 0), .int (nI n), .ref ad.2.2.2.2.2]) rfl ?_
  refine r_last (i := n) (x := 0) hx hb hK hW 6 rfl (by omega) (by omega) dX4_add_121 (fun H locs hW => ?_)
  have hW : Wd Z A s.heap ([eo hm 4 [.int (nI 0), .int (nI n), .int (nI (wg + g)), .ref ad.1, .ref ad.2.1, .ref ad.2.2.1, .ref ad.2.2.2.1, .ref ad.2.2.2.2.1, .ref ad.2.2.2.2.2], ey Z ad.1 4000 (up K n k), ea Z ad.2.1 4000 (up F n a), ea Z ad.2.2.1 4000 (up S n b), ea Z ad.2.2.2.1 4000 (up T n d), ea Z ad.2.2.2.2.1 4000 (up D n w), el Z ad.2.2.2.2.2 4000 (up V n 0)]) _ _ := hW
  refine lv_aload_n hx hb dX4_add_122 rfl (lv_at hl 0 rfl) ?_
  refine lv_dup hx hb dX4_add_123 rfl ?_
  refine r_get hx hb hts hown hK (hW.at 0 rfl) rfl in_X4 1 (by decide) tb_780 (fun _ h => h) rfl dX4_add_124 ?_
  refine lv_iconst (v := nI 1) hx hb dX4_add_127 (by decide) ?_
  refine n_iadd hx hb dX4_add_128 ?_
  refine r_put hx hb hts hown hK hW 0 (v := .int (nI (n + 1))) rfl rfl in_X4 tyX4 tyX4_ok nmX4 1 (by decide) tb_780 (fun _ h => h) rfl rfl rfl (Nat.le_of_ble_eq_true rfl) dX4_add_129 (fun H locs hW => ?_)
  have hW : Wd Z A s.heap ([eo hm 4 [.int (nI 0), .int (nI (n + 1)), .int (nI (wg + g)), .ref ad.1, .ref ad.2.1, .ref ad.2.2.1, .ref ad.2.2.2.1, .ref ad.2.2.2.2.1, .ref ad.2.2.2.2.2], ey Z ad.1 4000 (up K n k), ea Z ad.2.1 4000 (up F n a), ea Z ad.2.2.1 4000 (up S n b), ea Z ad.2.2.2.1 4000 (up T n d), ea Z ad.2.2.2.2.1 4000 (up D n w), el Z ad.2.2.2.2.2 4000 (up V n 0)]) _ _ := hW
  refine lv_aload_n hx hb dX4_add_132 rfl (lv_at hl 0 rfl) ?_
  refine r_get hx hb hts hown hK (hW.at 0 rfl) rfl in_X4 1 (by decide) tb_780 (fun _ h => h) rfl dX4_add_133 ?_
  refine lv_iconst (v := nI 1) hx hb dX4_add_136 (by decide) ?_
  refine n_isub hx hb (by omega) dX4_add_137 ?_
  rw [Nat.add_sub_cancel]
  exact e_int hx hb hr hlk hAe hW (by omega) (by omega) dX4_add_138 ⟨rfl, rfl⟩
