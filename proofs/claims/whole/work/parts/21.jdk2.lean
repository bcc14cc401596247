section Rz
variable {p : Program} {l : Launch} {e : Env} {R : Room} {s : State} {m : MethodId} {args : Array Value} {below : List Frame} {meth : Method} {c : Code} {H : Heap} {locs : List Loc} {cells slots : Nat} {Q : State → Prop}
variable {cc : ByteArray} {pc : Nat} {ls : Array Slot} {rest : List Value}
theorem n_zlt_f (hx : p.tables.exec = Jvm.exec) (hb : c.code = cc) {x : Nat} {off : Int} {tgt : Nat} (hxb : x < 2 ^ 31) (hdg : decode cc pc = .ok (.ifCond .lt off, 3)) (ht : (pc : Int) + off = (tgt : Int)) (kk : W p l e R s m args below meth c H locs cells slots Q (F0 m (pc + 3) ls rest)) : W p l e R s m args below meth c H locs cells slots Q (F0 m pc ls (.int (nI x) :: rest)) :=
  lv_if_lt hx hb hdg ht (fun q => absurd q (nI_pos hxb)) (fun _ => kk)
theorem n_zge_t (hx : p.tables.exec = Jvm.exec) (hb : c.code = cc) {x : Nat} {off : Int} {tgt : Nat} (hxb : x < 2 ^ 31) (hdg : decode cc pc = .ok (.ifCond .ge off, 3)) (ht : (pc : Int) + off = (tgt : Int)) (kk : W p l e R s m args below meth c H locs cells slots Q (F0 m tgt ls rest)) : W p l e R s m args below meth c H locs cells slots Q (F0 m pc ls (.int (nI x) :: rest)) :=
  lv_if_ge hx hb hdg ht (fun _ => kk) (fun q => absurd (nI_pos' hxb) q)
theorem n_zgt_t (hx : p.tables.exec = Jvm.exec) (hb : c.code = cc) {x : Nat} {off : Int} {tgt : Nat} (h : 0 < x) (hxb : x < 2 ^ 31) (hdg : decode cc pc = .ok (.ifCond .gt off, 3)) (ht : (pc : Int) + off = (tgt : Int)) (kk : W p l e R s m args below meth c H locs cells slots Q (F0 m tgt ls rest)) : W p l e R s m args below meth c H locs cells slots Q (F0 m pc ls (.int (nI x) :: rest)) :=
  lv_if_gt hx hb hdg ht (fun _ => kk) (fun q => absurd (by have k := nI_lt (a := 0) (b := x) h hxb; rw [nI_0] at k; exact k) q)
theorem n_zgt_f (hx : p.tables.exec = Jvm.exec) (hb : c.code = cc) {x : Nat} {off : Int} {tgt : Nat} (h : x = 0) (hxb : x < 2 ^ 31) (hdg : decode cc pc = .ok (.ifCond .gt off, 3)) (ht : (pc : Int) + off = (tgt : Int)) (kk : W p l e R s m args below meth c H locs cells slots Q (F0 m (pc + 3) ls rest)) : W p l e R s m args below meth c H locs cells slots Q (F0 m pc ls (.int (nI x) :: rest)) :=
  lv_if_gt hx hb hdg ht (fun q => absurd q (by subst h; rw [nI_0]; decide)) (fun _ => kk)
end Rz
set_option maxHeartbeats 4000000 in
set_option maxRecDepth 100000 in
theorem k_checkLength (l : Launch) (Z : Zt) (lo hi : Nat) (h : lo ≤ hi) (hhi : hi < 2 ^ 31) : MC l yJ7_checkLength_df160 cJ7_checkLength_df160 2 none 0 0 (0) (0) Z ([]) (fun _ => True) [.int (nI lo), .int (nI hi)] (fun v w1 => v = none ∧ w1 = []) := by
  refine mc_of (by decide) (Nat.le_of_ble_eq_true rfl) (fun p e s m below meth c ls A hx hb hr hts hown hlk hml hin hK hG hW hA hAe hro hl R hRf hRc hRs hRl => ?_)
  have hl : lv_has ls 2 [(0, .int (nI lo)), (1, .int (nI hi))] := hl
  refine lv_iload_n hx hb dJ7_checkLength_df160_0 rfl (lv_at hl 1 rfl) ?_
  refine lv_iload_n hx hb dJ7_checkLength_df160_1 rfl (lv_at hl 0 rfl) ?_
  refine n_ge_t (tgt := 37) hx hb (by omega) (by omega) dJ7_checkLength_df160_2 (by decide) ?_
  exact e_void hx hb hr hlk hAe hW (by omega) (by omega) dJ7_checkLength_df160_37 ⟨rfl, rfl⟩
set_option maxHeartbeats 4000000 in
set_option maxRecDepth 100000 in
theorem k_copyOfRangeInt (l : Launch) (Z : Zt) (a n lo hi : Nat) (r : Nat → Nat) (h : lo ≤ hi) (hn : hi ≤ n) (hnb : n ≤ 1000000) : MC l yJ7_copyOfRangeInt_feecc cJ7_copyOfRangeInt_feecc 5 (some (.array .int)) 2 80 (1) (hi - lo) Z ([]) (fun H => zat Z (ea Z a n r) H) [.ref a, .int (nI lo), .int (nI hi)] (fun v w1 => ∃ (q : Nat) (f : Nat → Nat), v = some (.ref q) ∧ w1 = [ea Z q (hi - lo) f] ∧ ∀ j, j < hi - lo → f j = r (lo + j)) := by
  refine mc_of (by decide) (Nat.le_of_ble_eq_true rfl) (fun p e s m below meth c ls A hx hb hr hts hown hlk hml hin hK hG hW hA hAe hro hl R hRf hRc hRs hRl => ?_)
  have hl : lv_has ls 5 [(0, .ref a), (1, .int (nI lo)), (2, .int (nI hi))] := hl
  refine lv_iload_n hx hb dJ7_copyOfRangeInt_feecc_0 rfl (lv_at hl 1 rfl) ?_
  refine lv_iload_n hx hb dJ7_copyOfRangeInt_feecc_1 rfl (lv_at hl 2 rfl) ?_
  refine c_stat (As := [.int (nI lo), .int (nI hi)]) (rest := []) (wc := []) (wr := []) hx hb hml hown hts hK hG rfl hA hl (k_checkLength l Z lo hi h (by omega)) hW trivial tb_424 tb_425 tb_13 tb_426 (nA := 2) (by decide +kernel) rfl ⟨by omega, by omega⟩ ⟨by omega, by omega⟩ rfl (Nat.le_of_ble_eq_true rfl) dJ7_copyOfRangeInt_feecc_2 (fun v w1 H1 L1 hp hW hzz hkk hdd => ?_)
  obtain ⟨rfl, rfl⟩ := hp
  clear hzz hkk hdd
  generalize H1 = H at hW ⊢
  generalize L1 = locs at hW ⊢
  have hW : Wd Z A s.heap ([]) _ _ := hW
  refine W.eq (g2 := F0 m 5 ls []) rfl ?_
  refine lv_iload_n hx hb dJ7_copyOfRangeInt_feecc_5 rfl (lv_at hl 2 rfl) ?_
  refine lv_iload_n hx hb dJ7_copyOfRangeInt_feecc_6 rfl (lv_at hl 1 rfl) ?_
  refine n_isub hx hb (by omega) dJ7_copyOfRangeInt_feecc_7 ?_
  refine lv_istore_n (lv' := [(3, .int (nI (hi - lo))), (0, .ref a), (1, .int (nI lo)), (2, .int (nI hi))]) hx hb dJ7_copyOfRangeInt_feecc_8 rfl hl (by decide) rfl (fun ls hl => ?_)
  refine lv_iload_n hx hb dJ7_copyOfRangeInt_feecc_9 rfl (lv_at hl 0 rfl) ?_
  refine r_newa (n := (hi - lo)) hx hb hts tb_65 hK hW hA (by omega) (by omega) (by omega) dJ7_copyOfRangeInt_feecc_10 (fun q H hW hsz_q hq_q => ?_)
  have hW : Wd Z A s.heap ([ea Z q (hi - lo) (fun _ => 0)]) _ _ := hW
  refine lv_astore (lv' := [(4, .ref q), (3, .int (nI (hi - lo))), (0, .ref a), (1, .int (nI lo)), (2, .int (nI hi))]) hx hb dJ7_copyOfRangeInt_feecc_12 hl (by decide) rfl (fun ls hl => ?_)
  refine lv_aload_n hx hb dJ7_copyOfRangeInt_feecc_14 rfl (lv_at hl 2 rfl) ?_
  refine lv_iload_n hx hb dJ7_copyOfRangeInt_feecc_15 rfl (lv_at hl 3 rfl) ?_
  refine lv_aload hx hb dJ7_copyOfRangeInt_feecc_16 (lv_at hl 0 rfl) ?_
  refine lv_iconst (v := nI 0) hx hb dJ7_copyOfRangeInt_feecc_18 (by decide) ?_
  refine lv_aload_n hx hb dJ7_copyOfRangeInt_feecc_19 rfl (lv_at hl 2 rfl) ?_
  refine r_len hx hb hK ((RO.nil hro).here hAe hW) dJ7_copyOfRangeInt_feecc_20 ?_
  refine lv_iload_n hx hb dJ7_copyOfRangeInt_feecc_21 rfl (lv_at hl 3 rfl) ?_
  refine n_isub hx hb (by omega) dJ7_copyOfRangeInt_feecc_22 ?_
  refine lv_iload_n hx hb dJ7_copyOfRangeInt_feecc_23 rfl (lv_at hl 1 rfl) ?_
  refine n_min hx hb hml hl hown hts tb_240 (by omega) (by rw [hRl]; exact Nat.le_of_ble_eq_true rfl) (by omega) (by omega) (x := n - lo) (y := hi - lo) (by omega) (by omega) dJ7_copyOfRangeInt_feecc_24 ?_
  refine r_copy hx hb hml hl hown hts hK hW tb_243 (f := r) (n0 := n) (sp := lo) (dp := 0) (n := min (n - lo) (hi - lo)) ((RO.nil hro).here hAe hW) 0 rfl (by omega) (by omega) (by omega) (by omega) (by omega) (by rw [hRl]; exact Nat.le_of_ble_eq_true rfl) dJ7_copyOfRangeInt_feecc_27 (fun H locs hW => ?_)
  have hW : Wd Z A s.heap ([ea Z q (hi - lo) (va_cpy r (fun _ => 0) lo 0 (min (n - lo) (hi - lo)))]) _ _ := hW
  refine lv_aload hx hb dJ7_copyOfRangeInt_feecc_30 (lv_at hl 0 rfl) ?_
  exact e_ref hx hb hr (Or.inr ⟨_, rfl⟩) hlk hAe hW (by omega) (by omega) dJ7_copyOfRangeInt_feecc_32 ⟨q, _, rfl, rfl, fun j hj => by rw [pk_cpy_in (by omega) (by omega), Nat.sub_zero]⟩
set_option maxHeartbeats 4000000 in
set_option maxRecDepth 100000 in
theorem k_copyOfRange (l : Launch) (Z : Zt) (a n lo hi : Nat) (r : Nat → Nat) (h : lo ≤ hi) (hn : hi ≤ n) (hnb : n ≤ 1000000) : MC l yJ7_copyOfRange_feecc cJ7_copyOfRange_feecc 3 (some (.array .int)) 3 120 (1) (hi - lo) Z ([]) (fun H => zat Z (ea Z a n r) H) [.ref a, .int (nI lo), .int (nI hi)] (fun v w1 => ∃ (q : Nat) (f : Nat → Nat), v = some (.ref q) ∧ w1 = [ea Z q (hi - lo) f] ∧ ∀ j, j < hi - lo → f j = r (lo + j)) := by
  refine mc_of (by decide) (Nat.le_of_ble_eq_true rfl) (fun p e s m below meth c ls A hx hb hr hts hown hlk hml hin hK hG hW hA hAe hro hl R hRf hRc hRs hRl => ?_)
  have hl : lv_has ls 3 [(0, .ref a), (1, .int (nI lo)), (2, .int (nI hi))] := hl
  refine lv_iload_n hx hb dJ7_copyOfRange_feecc_0 rfl (lv_at hl 1 rfl) ?_
  by_cases hlo : lo = 0
  · refine n_zne_f (tgt := 10) hx hb (by omega) dJ7_copyOfRange_feecc_1 (by decide) ?_
    refine lv_iload_n hx hb dJ7_copyOfRange_feecc_4 rfl (lv_at hl 2 rfl) ?_
    refine lv_aload_n hx hb dJ7_copyOfRange_feecc_5 rfl (lv_at hl 0 rfl) ?_
    refine r_len hx hb hK ((RO.nil hro).here hAe hW) dJ7_copyOfRange_feecc_6 ?_
    by_cases hhi : hi = n
    · refine n_eq_t (tgt := 17) hx hb (by omega) dJ7_copyOfRange_feecc_7 (by decide) ?_
      refine lv_aload_n hx hb dJ7_copyOfRange_feecc_17 rfl (lv_at hl 0 rfl) ?_
      refine r_clone hx hb hml hl hown hts hK hG.1 hW hA ((RO.nil hro).here hAe hW) (by omega) (by rw [hRl]; exact Nat.le_of_ble_eq_true rfl) (by omega) (by omega) dJ7_copyOfRange_feecc_18 (fun q H hW => ?_)
      refine va_castA (D := Z.1) (ws := [ea Z q n r]) hx hb hown (hts _ tb_239) hW.1 0 rfl (va_nm_int (hK.2 0 _ rfl).2) dJ7_copyOfRange_feecc_21 ?_
      have e : n = hi - lo := by omega
      rw [e] at hW
      exact e_ref hx hb hr (Or.inr ⟨_, rfl⟩) hlk hAe hW (by omega) (by omega) dJ7_copyOfRange_feecc_24 ⟨q, r, rfl, rfl, fun j hj => by rw [hlo, Nat.zero_add]⟩
    · refine n_eq_f (tgt := 17) hx hb (by omega) (by omega) (by omega) dJ7_copyOfRange_feecc_7 (by decide) ?_
      refine lv_aload_n hx hb dJ7_copyOfRange_feecc_10 rfl (lv_at hl 0 rfl) ?_
      refine lv_iload_n hx hb dJ7_copyOfRange_feecc_11 rfl (lv_at hl 1 rfl) ?_
      refine lv_iload_n hx hb dJ7_copyOfRange_feecc_12 rfl (lv_at hl 2 rfl) ?_
      refine c_stat (As := [.ref a, .int (nI lo), .int (nI hi)]) (rest := []) (wc := []) (wr := []) hx hb hml hown hts hK hG rfl hA hl (k_copyOfRangeInt l Z a n lo hi r h hn hnb) hW ((RO.nil hro).here hAe hW) tb_421 tb_422 tb_13 tb_423 (nA := 3) (by decide +kernel) rfl ⟨by omega, by omega⟩ ⟨by omega, by omega⟩ rfl (Nat.le_of_ble_eq_true rfl) dJ7_copyOfRange_feecc_13 (fun v w1 H1 L1 hp hW hzz hkk hdd => ?_)
      obtain ⟨q, f, rfl, rfl, hf⟩ := hp
      clear hzz hkk hdd
      generalize H1 = H at hW ⊢
      generalize L1 = locs at hW ⊢
      have hW : Wd Z A s.heap ([ea Z q (hi - lo) f]) _ _ := hW
      refine W.eq (g2 := F0 m 16 ls [.ref q]) rfl ?_
      exact e_ref hx hb hr (Or.inr ⟨_, rfl⟩) hlk hAe hW (by omega) (by omega) dJ7_copyOfRange_feecc_16 ⟨q, f, rfl, rfl, hf⟩
  · refine n_zne_t (tgt := 10) hx hb (by omega) (by omega) dJ7_copyOfRange_feecc_1 (by decide) ?_
    refine lv_aload_n hx hb dJ7_copyOfRange_feecc_10 rfl (lv_at hl 0 rfl) ?_
    refine lv_iload_n hx hb dJ7_copyOfRange_feecc_11 rfl (lv_at hl 1 rfl) ?_
    refine lv_iload_n hx hb dJ7_copyOfRange_feecc_12 rfl (lv_at hl 2 rfl) ?_
    refine c_stat (As := [.ref a, .int (nI lo), .int (nI hi)]) (rest := []) (wc := []) (wr := []) hx hb hml hown hts hK hG rfl hA hl (k_copyOfRangeInt l Z a n lo hi r h hn hnb) hW ((RO.nil hro).here hAe hW) tb_421 tb_422 tb_13 tb_423 (nA := 3) (by decide +kernel) rfl ⟨by omega, by omega⟩ ⟨by omega, by omega⟩ rfl (Nat.le_of_ble_eq_true rfl) dJ7_copyOfRange_feecc_13 (fun v w1 H1 L1 hp hW hzz hkk hdd => ?_)
    obtain ⟨q, f, rfl, rfl, hf⟩ := hp
    clear hzz hkk hdd
    generalize H1 = H at hW ⊢
    generalize L1 = locs at hW ⊢
    have hW : Wd Z A s.heap ([ea Z q (hi - lo) f]) _ _ := hW
    refine W.eq (g2 := F0 m 16 ls [.ref q]) rfl ?_
    exact e_ref hx hb hr (Or.inr ⟨_, rfl⟩) hlk hAe hW (by omega) (by omega) dJ7_copyOfRange_feecc_16 ⟨q, f, rfl, rfl, hf⟩
set_option maxHeartbeats 4000000 in
set_option maxRecDepth 100000 in
theorem k_rangeCheck (l : Launch) (Z : Zt) (n lo hi : Nat) (h : lo ≤ hi) (hn : hi ≤ n) (hnb : n ≤ 1000000) : MC l yJ7_rangeCheck_23922 cJ7_rangeCheck_23922 3 none 0 0 (0) (0) Z ([]) (fun _ => True) [.int (nI n), .int (nI lo), .int (nI hi)] (fun v w1 => v = none ∧ w1 = []) := by
  refine mc_of (by decide) (Nat.le_of_ble_eq_true rfl) (fun p e s m below meth c ls A hx hb hr hts hown hlk hml hin hK hG hW hA hAe hro hl R hRf hRc hRs hRl => ?_)
  have hl : lv_has ls 3 [(0, .int (nI n)), (1, .int (nI lo)), (2, .int (nI hi))] := hl
  refine lv_iload_n hx hb dJ7_rangeCheck_23922_0 rfl (lv_at hl 1 rfl) ?_
  refine lv_iload_n hx hb dJ7_rangeCheck_23922_1 rfl (lv_at hl 2 rfl) ?_
  refine n_le_t (tgt := 46) hx hb (by omega) (by omega) dJ7_rangeCheck_23922_2 (by decide) ?_
  refine lv_iload_n hx hb dJ7_rangeCheck_23922_46 rfl (lv_at hl 1 rfl) ?_
  refine n_zge_t (tgt := 59) hx hb (by omega) dJ7_rangeCheck_23922_47 (by decide) ?_
  refine lv_iload_n hx hb dJ7_rangeCheck_23922_59 rfl (lv_at hl 2 rfl) ?_
  refine lv_iload_n hx hb dJ7_rangeCheck_23922_60 rfl (lv_at hl 0 rfl) ?_
  refine n_le_t (tgt := 73) hx hb (by omega) (by omega) dJ7_rangeCheck_23922_61 (by decide) ?_
  exact e_void hx hb hr hlk hAe hW (by omega) (by omega) dJ7_rangeCheck_23922_73 ⟨rfl, rfl⟩
set_option maxHeartbeats 4000000 in
set_option maxRecDepth 100000 in
theorem k_fill (l : Launch) (Z : Zt) (a n lo hi x : Nat) (r : Nat → Nat) (h : lo ≤ hi) (hn : hi ≤ n) (hnb : n ≤ 1000000) : MC l yJ7_fill_fda19 cJ7_fill_fda19 5 none 2 80 (0) (0) Z ([ea Z a n r]) (fun _ => True) [.ref a, .int (nI lo), .int (nI hi), .int (nI x)] (fun v w1 => ∃ f : Nat → Nat, v = none ∧ w1 = [ea Z a n f] ∧ ∀ j, f j = if lo ≤ j ∧ j < hi then x else r j) := by
  refine mc_of (by decide) (Nat.le_of_ble_eq_true rfl) (fun p e s m below meth c ls A hx hb hr hts hown hlk hml hin hK hG hW hA hAe hro hl R hRf hRc hRs hRl => ?_)
  have hl : lv_has ls 5 [(0, .ref a), (1, .int (nI lo)), (2, .int (nI hi)), (3, .int (nI x))] := hl
  have loop : ∀ (d i : Nat) (g : Nat → Nat) (H : Heap) (locs : List Loc) (ls : Array Slot), i + d = hi → lo ≤ i → (∀ j, g j = if lo ≤ j ∧ j < i then x else r j) → Wd Z A s.heap [ea Z a n g] H locs → lv_has ls 5 [(0, .ref a), (2, .int (nI hi)), (3, .int (nI x)), (4, .int (nI i))] → W p l e R s m ([.ref a, .int (nI lo), .int (nI hi), .int (nI x)] : List Value).toArray below meth c H locs 0 0 (MQ below (QC Z [ea Z a n r] s.heap.size (fun v w1 => ∃ f : Nat → Nat, v = none ∧ w1 = [ea Z a n f] ∧ ∀ j, f j = if lo ≤ j ∧ j < hi then x else r j)) ([.ref a, .int (nI lo), .int (nI hi), .int (nI x)] : List Value).toArray s 0 0 A) (F0 m 10 ls []) := by
    intro d
    induction d with
    | zero =>
      intro i g H locs ls hid hlo hg hW hl
      refine lv_iload hx hb dJ7_fill_fda19_10 (lv_at hl 3 rfl) ?_
      refine lv_iload_n hx hb dJ7_fill_fda19_12 rfl (lv_at hl 1 rfl) ?_
      refine n_ge_t (tgt := 27) hx hb (by omega) (by omega) dJ7_fill_fda19_13 (by decide) ?_
      have hi2 : i = hi := by omega
      subst hi2
      exact e_void hx hb hr hlk hAe hW (by omega) (by omega) dJ7_fill_fda19_27 ⟨g, rfl, rfl, hg⟩
    | succ d ih =>
      intro i g H locs ls hid hlo hg hW hl
      refine lv_iload hx hb dJ7_fill_fda19_10 (lv_at hl 3 rfl) ?_
      refine lv_iload_n hx hb dJ7_fill_fda19_12 rfl (lv_at hl 1 rfl) ?_
      refine n_ge_f (tgt := 27) hx hb (by omega) (by omega) dJ7_fill_fda19_13 (by decide) ?_
      refine lv_aload_n hx hb dJ7_fill_fda19_16 rfl (lv_at hl 0 rfl) ?_
      refine lv_iload hx hb dJ7_fill_fda19_17 (lv_at hl 3 rfl) ?_
      refine lv_iload_n hx hb dJ7_fill_fda19_19 rfl (lv_at hl 2 rfl) ?_
      refine r_ast (i := i) (x := x) hx hb hK hW 0 rfl (by omega) (by omega) dJ7_fill_fda19_20 (fun H locs hW => ?_)
      have hW : Wd Z A s.heap ([ea Z a n (up g i x)]) _ _ := hW
      refine lv_iinc (v := nI (i + 1)) (lv' := [(4, .int (nI (i + 1))), (0, .ref a), (2, .int (nI hi)), (3, .int (nI x))]) hx hb dJ7_fill_fda19_21 hl (k := 3) rfl (inc1 _) (by decide) rfl (fun ls hl => ?_)
      refine lv_goto (tgt := 10) hx hb dJ7_fill_fda19_24 (by decide) ?_
      refine ih (i + 1) (up g i x) _ _ ls (by omega) (by omega) (fun j => ?_) hW (lv_sub hl [1, 2, 3, 0] rfl)
      by_cases e : j = i
      · subst e; rw [up_s, if_pos (by omega)]
      · rw [up_n _ _ e, hg j]
        by_cases q : lo ≤ j ∧ j < i
        · rw [if_pos q, if_pos (by omega)]
        · rw [if_neg q, if_neg (by omega)]
  refine lv_aload_n hx hb dJ7_fill_fda19_0 rfl (lv_at hl 0 rfl) ?_
  refine r_len hx hb hK (hW.at 0 rfl) dJ7_fill_fda19_1 ?_
  refine lv_iload_n hx hb dJ7_fill_fda19_2 rfl (lv_at hl 1 rfl) ?_
  refine lv_iload_n hx hb dJ7_fill_fda19_3 rfl (lv_at hl 2 rfl) ?_
  refine c_stat (As := [.int (nI n), .int (nI lo), .int (nI hi)]) (rest := []) (wc := []) (wr := [ea Z a n r]) hx hb hml hown hts hK hG rfl hA hl (k_rangeCheck l Z n lo hi h hn hnb) hW trivial tb_731 tb_732 tb_13 tb_733 (nA := 3) (by decide +kernel) rfl ⟨by omega, by omega⟩ ⟨by omega, by omega⟩ rfl (Nat.le_of_ble_eq_true rfl) dJ7_fill_fda19_4 (fun v w1 H1 L1 hp hW hzz hkk hdd => ?_)
  obtain ⟨rfl, rfl⟩ := hp
  clear hzz hkk hdd
  generalize H1 = H at hW ⊢
  generalize L1 = locs at hW ⊢
  have hW : Wd Z A s.heap ([ea Z a n r]) _ _ := hW
  refine W.eq (g2 := F0 m 7 ls []) rfl ?_
  refine lv_iload_n hx hb dJ7_fill_fda19_7 rfl (lv_at hl 1 rfl) ?_
  refine lv_istore (lv' := [(4, .int (nI lo)), (0, .ref a), (1, .int (nI lo)), (2, .int (nI hi)), (3, .int (nI x))]) hx hb dJ7_fill_fda19_8 hl (by decide) rfl (fun ls hl => ?_)
  exact loop (hi - lo) lo r _ _ ls (by omega) (Nat.le_refl _) (fun j => by rw [if_neg (by omega)]) hW (lv_sub hl [1, 3, 4, 0] rfl)
/-- moved by k places upwards (upw = 1) or downwards, fl coming in -/
def mvd (r : Nat → Nat) (w k upw fl j : Nat) : Nat := if upw = 1 then (if k ≤ j then r (j - k) else fl) else (if j + k < w then r (j + k) else fl)
set_option maxHeartbeats 4000000 in
set_option maxRecDepth 100000 in
/-- Reckoner.moved -/
theorem k_moved (l : Launch) (Z : Zt) (aa w k upw fl : Nat) (ra : Nat → Nat) (hw : w ≤ 1000) (hk : k ≤ 1000) (hu : upw ≤ 1) : MC l yX1_moved cX1_moved 7 (some (.array .int)) 0 0 (1) (w) Z ([]) (fun H => zat Z (ea Z aa w ra) H) [.ref aa, .int (nI k), .int (nI upw), .int (nI fl)] (fun v w1 => ∃ (q : Nat) (f : Nat → Nat), v = some (.ref q) ∧ w1 = [ea Z q w f] ∧ ∀ j, j < w → f j = mvd ra w k upw fl j) := by
  refine mc_of (by decide) (Nat.le_of_ble_eq_true rfl) (fun p e s m below meth c ls A hx hb hr hts hown hlk hml hin hK hG hW hA hAe hro hl R hRf hRc hRs hRl => ?_)
  have hl : lv_has ls 7 [(0, .ref aa), (1, .int (nI k)), (2, .int (nI upw)), (3, .int (nI fl))] := hl
  have loop : ∀ (d i q : Nat) (row : Nat → Nat) (H : Heap) (locs : List Loc) (ls : Array Slot), i + d = w → (∀ j, j < i → row j = mvd ra w k upw fl j) → Wd Z A s.heap [ea Z q w row] H locs → lv_has ls 7 [(0, .ref aa), (1, .int (nI k)), (2, .int (nI upw)), (3, .int (nI fl)), (4, .ref q), (5, .int (nI i))] → W p l e R s m ([.ref aa, .int (nI k), .int (nI upw), .int (nI fl)] : List Value).toArray below meth c H locs 1 w (MQ below (QC Z [] s.heap.size (fun v w1 => ∃ (q : Nat) (f : Nat → Nat), v = some (.ref q) ∧ w1 = [ea Z q w f] ∧ ∀ j, j < w → f j = mvd ra w k upw fl j)) ([.ref aa, .int (nI k), .int (nI upw), .int (nI fl)] : List Value).toArray s 1 w A) (F0 m 9 ls []) := by
    intro d
    induction d with
    | zero =>
      intro i q row H locs ls hid hrow hW hl
      refine lv_iload hx hb dX1_moved_9 (lv_at hl 5 rfl) ?_
      refine lv_aload_n hx hb dX1_moved_11 rfl (lv_at hl 0 rfl) ?_
      refine r_len hx hb hK ((RO.nil hro).here hAe hW) dX1_moved_12 ?_
      refine n_ge_t (tgt := 64) hx hb (by omega) (by omega) dX1_moved_13 (by decide) ?_
      refine lv_aload hx hb dX1_moved_64 (lv_at hl 4 rfl) ?_
      exact e_ref hx hb hr (Or.inr ⟨_, rfl⟩) hlk hAe hW (by omega) (by omega) dX1_moved_66 ⟨q, row, rfl, rfl, fun j hj => hrow j (by omega)⟩
    | succ d ih =>
      intro i q row H locs ls hid hrow hW hl
      have nxt : ∀ (v : Nat) (H1 : Heap) (L1 : List Loc) (ls1 : Array Slot), v = mvd ra w k upw fl i → Wd Z A s.heap [ea Z q w (up row i v)] H1 L1 → lv_has ls1 7 [(0, .ref aa), (1, .int (nI k)), (2, .int (nI upw)), (3, .int (nI fl)), (4, .ref q), (5, .int (nI (i + 1)))] → W p l e R s m ([.ref aa, .int (nI k), .int (nI upw), .int (nI fl)] : List Value).toArray below meth c H1 L1 1 w (MQ below (QC Z [] s.heap.size (fun v w1 => ∃ (q : Nat) (f : Nat → Nat), v = some (.ref q) ∧ w1 = [ea Z q w f] ∧ ∀ j, j < w → f j = mvd ra w k upw fl j)) ([.ref aa, .int (nI k), .int (nI upw), .int (nI fl)] : List Value).toArray s 1 w A) (F0 m 9 ls1 []) := by
        intro v H1 L1 ls1 hv hW1 hl1
        refine ih (i + 1) q (up row i v) H1 L1 ls1 (by omega) (fun j hj => ?_) hW1 hl1
        by_cases e : j = i
        · subst e; rw [up_s]; exact hv
        · rw [up_n _ _ e]; exact hrow j (by omega)
      refine lv_iload hx hb dX1_moved_9 (lv_at hl 5 rfl) ?_
      refine lv_aload_n hx hb dX1_moved_11 rfl (lv_at hl 0 rfl) ?_
      refine r_len hx hb hK ((RO.nil hro).here hAe hW) dX1_moved_12 ?_
      refine n_ge_f (tgt := 64) hx hb (by omega) (by omega) dX1_moved_13 (by decide) ?_
      refine lv_iload_n hx hb dX1_moved_16 rfl (lv_at hl 2 rfl) ?_
      by_cases hup : upw = 1
      · refine n_zeq_f (tgt := 27) hx hb (by omega) (by omega) dX1_moved_17 (by decide) ?_
        refine lv_iload hx hb dX1_moved_20 (lv_at hl 5 rfl) ?_
        refine lv_iload_n hx hb dX1_moved_22 rfl (lv_at hl 1 rfl) ?_
        by_cases hki : k ≤ i
        · refine n_isub hx hb (by omega) dX1_moved_23 ?_
          refine lv_goto (tgt := 31) hx hb dX1_moved_24 (by decide) ?_
          refine lv_istore (lv' := [(6, .int (nI (i - k))), (0, .ref aa), (1, .int (nI k)), (2, .int (nI upw)), (3, .int (nI fl)), (4, .ref q), (5, .int (nI i))]) hx hb dX1_moved_31 hl (by decide) rfl (fun ls hl => ?_)
          refine lv_aload hx hb dX1_moved_33 (lv_at hl 5 rfl) ?_
          refine lv_iload hx hb dX1_moved_35 (lv_at hl 6 rfl) ?_
          refine lv_iload hx hb dX1_moved_37 (lv_at hl 0 rfl) ?_
          refine n_zlt_f (tgt := 56) hx hb (by omega) dX1_moved_39 (by decide) ?_
          refine lv_iload hx hb dX1_moved_42 (lv_at hl 0 rfl) ?_
          refine lv_aload_n hx hb dX1_moved_44 rfl (lv_at hl 1 rfl) ?_
          refine r_len hx hb hK ((RO.nil hro).here hAe hW) dX1_moved_45 ?_
          refine n_ge_f (tgt := 56) hx hb (by omega) (by omega) dX1_moved_46 (by decide) ?_
          refine lv_aload_n hx hb dX1_moved_49 rfl (lv_at hl 1 rfl) ?_
          refine lv_iload hx hb dX1_moved_50 (lv_at hl 0 rfl) ?_
          refine r_ald (i := (i - k)) hx hb hK ((RO.nil hro).here hAe hW) (by omega) (by omega) dX1_moved_52 ?_
          refine lv_goto (tgt := 57) hx hb dX1_moved_53 (by decide) ?_
          refine r_ast (i := i) (x := (ra (i - k))) hx hb hK hW 0 rfl (by omega) (by omega) dX1_moved_57 (fun H locs hW => ?_)
          have hW : Wd Z A s.heap ([ea Z q w (up row i (ra (i - k)))]) _ _ := hW
          refine lv_iinc (v := nI (i + 1)) (lv' := [(5, .int (nI (i + 1))), (6, .int (nI (i - k))), (0, .ref aa), (1, .int (nI k)), (2, .int (nI upw)), (3, .int (nI fl)), (4, .ref q)]) hx hb dX1_moved_58 hl (k := 6) rfl (inc1 _) (by decide) rfl (fun ls hl => ?_)
          refine lv_goto (tgt := 9) hx hb dX1_moved_61 (by decide) ?_
          exact nxt (ra (i - k)) _ _ ls (by rw [mvd, if_pos hup, if_pos hki]) hW (lv_sub hl [2, 3, 4, 5, 6, 0] rfl)
        · refine lv_isub hx hb dX1_moved_23 ?_
          refine lv_goto (tgt := 31) hx hb dX1_moved_24 (by decide) ?_
          refine lv_istore (lv' := [(6, .int (nI i - nI k)), (0, .ref aa), (1, .int (nI k)), (2, .int (nI upw)), (3, .int (nI fl)), (4, .ref q), (5, .int (nI i))]) hx hb dX1_moved_31 hl (by decide) rfl (fun ls hl => ?_)
          refine lv_aload hx hb dX1_moved_33 (lv_at hl 5 rfl) ?_
          refine lv_iload hx hb dX1_moved_35 (lv_at hl 6 rfl) ?_
          refine lv_iload hx hb dX1_moved_37 (lv_at hl 0 rfl) ?_
          refine lv_if_lt (tgt := 56) hx hb dX1_moved_39 (by decide) (fun _ => ?_) (fun q => absurd (pk_sneg (by omega) (by omega)) q)
          refine lv_iload_n hx hb dX1_moved_56 rfl (lv_at hl 4 rfl) ?_
          refine r_ast (i := i) (x := fl) hx hb hK hW 0 rfl (by omega) (by omega) dX1_moved_57 (fun H locs hW => ?_)
          have hW : Wd Z A s.heap ([ea Z q w (up row i fl)]) _ _ := hW
          refine lv_iinc (v := nI (i + 1)) (lv' := [(5, .int (nI (i + 1))), (6, .int (nI i - nI k)), (0, .ref aa), (1, .int (nI k)), (2, .int (nI upw)), (3, .int (nI fl)), (4, .ref q)]) hx hb dX1_moved_58 hl (k := 6) rfl (inc1 _) (by decide) rfl (fun ls hl => ?_)
          refine lv_goto (tgt := 9) hx hb dX1_moved_61 (by decide) ?_
          exact nxt (fl) _ _ ls (by rw [mvd, if_pos hup, if_neg hki]) hW (lv_sub hl [2, 3, 4, 5, 6, 0] rfl)
      · refine n_zeq_t (tgt := 27) hx hb (by omega) dX1_moved_17 (by decide) ?_
        refine lv_iload hx hb dX1_moved_27 (lv_at hl 5 rfl) ?_
        refine lv_iload_n hx hb dX1_moved_29 rfl (lv_at hl 1 rfl) ?_
        refine n_iadd hx hb dX1_moved_30 ?_
        refine lv_istore (lv' := [(6, .int (nI (i + k))), (0, .ref aa), (1, .int (nI k)), (2, .int (nI upw)), (3, .int (nI fl)), (4, .ref q), (5, .int (nI i))]) hx hb dX1_moved_31 hl (by decide) rfl (fun ls hl => ?_)
        refine lv_aload hx hb dX1_moved_33 (lv_at hl 5 rfl) ?_
        refine lv_iload hx hb dX1_moved_35 (lv_at hl 6 rfl) ?_
        refine lv_iload hx hb dX1_moved_37 (lv_at hl 0 rfl) ?_
        refine n_zlt_f (tgt := 56) hx hb (by omega) dX1_moved_39 (by decide) ?_
        refine lv_iload hx hb dX1_moved_42 (lv_at hl 0 rfl) ?_
        refine lv_aload_n hx hb dX1_moved_44 rfl (lv_at hl 1 rfl) ?_
        refine r_len hx hb hK ((RO.nil hro).here hAe hW) dX1_moved_45 ?_
        by_cases hki : i + k < w
        · refine n_ge_f (tgt := 56) hx hb (by omega) (by omega) dX1_moved_46 (by decide) ?_
          refine lv_aload_n hx hb dX1_moved_49 rfl (lv_at hl 1 rfl) ?_
          refine lv_iload hx hb dX1_moved_50 (lv_at hl 0 rfl) ?_
          refine r_ald (i := (i + k)) hx hb hK ((RO.nil hro).here hAe hW) (by omega) (by omega) dX1_moved_52 ?_
          refine lv_goto (tgt := 57) hx hb dX1_moved_53 (by decide) ?_
          refine r_ast (i := i) (x := (ra (i + k))) hx hb hK hW 0 rfl (by omega) (by omega) dX1_moved_57 (fun H locs hW => ?_)
          have hW : Wd Z A s.heap ([ea Z q w (up row i (ra (i + k)))]) _ _ := hW
          refine lv_iinc (v := nI (i + 1)) (lv' := [(5, .int (nI (i + 1))), (6, .int (nI (i + k))), (0, .ref aa), (1, .int (nI k)), (2, .int (nI upw)), (3, .int (nI fl)), (4, .ref q)]) hx hb dX1_moved_58 hl (k := 6) rfl (inc1 _) (by decide) rfl (fun ls hl => ?_)
          refine lv_goto (tgt := 9) hx hb dX1_moved_61 (by decide) ?_
          exact nxt (ra (i + k)) _ _ ls (by rw [mvd, if_neg hup, if_pos hki]) hW (lv_sub hl [2, 3, 4, 5, 6, 0] rfl)
        · refine n_ge_t (tgt := 56) hx hb (by omega) (by omega) dX1_moved_46 (by decide) ?_
          refine lv_iload_n hx hb dX1_moved_56 rfl (lv_at hl 4 rfl) ?_
          refine r_ast (i := i) (x := fl) hx hb hK hW 0 rfl (by omega) (by omega) dX1_moved_57 (fun H locs hW => ?_)
          have hW : Wd Z A s.heap ([ea Z q w (up row i fl)]) _ _ := hW
          refine lv_iinc (v := nI (i + 1)) (lv' := [(5, .int (nI (i + 1))), (6, .int (nI (i + k))), (0, .ref aa), (1, .int (nI k)), (2, .int (nI upw)), (3, .int (nI fl)), (4, .ref q)]) hx hb dX1_moved_58 hl (k := 6) rfl (inc1 _) (by decide) rfl (fun ls hl => ?_)
          refine lv_goto (tgt := 9) hx hb dX1_moved_61 (by decide) ?_
          exact nxt (fl) _ _ ls (by rw [mvd, if_neg hup, if_neg hki]) hW (lv_sub hl [2, 3, 4, 5, 6, 0] rfl)
  refine lv_aload_n hx hb dX1_moved_0 rfl (lv_at hl 0 rfl) ?_
  refine r_len hx hb hK ((RO.nil hro).here hAe hW) dX1_moved_1 ?_
  refine r_newa (n := w) hx hb hts tb_65 hK hW hA (by omega) (by omega) (by omega) dX1_moved_2 (fun q H hW hsz_q hq_q => ?_)
  have hW : Wd Z A s.heap ([ea Z q w (fun _ => 0)]) _ _ := hW
  refine lv_astore (lv' := [(4, .ref q), (0, .ref aa), (1, .int (nI k)), (2, .int (nI upw)), (3, .int (nI fl))]) hx hb dX1_moved_4 hl (by decide) rfl (fun ls hl => ?_)
  refine lv_iconst (v := nI 0) hx hb dX1_moved_6 (by decide) ?_
  refine lv_istore (lv' := [(5, .int (nI 0)), (4, .ref q), (0, .ref aa), (1, .int (nI k)), (2, .int (nI upw)), (3, .int (nI fl))]) hx hb dX1_moved_7 hl (by decide) rfl (fun ls hl => ?_)
  have e1 : (0 : Nat) + 1 = 1 := rfl
  rw [e1, Nat.zero_add]
  exact loop w 0 q (fun _ => 0) _ _ ls (by omega) (fun j hj => absurd hj (by omega)) hW (lv_sub hl [2, 3, 4, 5, 1, 0] rfl)
set_option maxHeartbeats 4000000 in
set_option maxRecDepth 100000 in
/-- Reckoner.withoutCarry -/
theorem k_withoutCarry (l : Launch) (Z : Zt) (aa w : Nat) (ra : Nat → Nat) (hw : w ≤ 1000) : MC l yX1_withoutCarry cX1_withoutCarry 1 (some (.array .int)) 3 120 (1) (w) Z ([]) (fun H => zat Z (ea Z aa (w + 1) ra) H) [.ref aa] (fun v w1 => ∃ (q : Nat) (f : Nat → Nat), v = some (.ref q) ∧ w1 = [ea Z q w f] ∧ ∀ j, j < w → f j = ra j) := by
  refine mc_of (by decide) (Nat.le_of_ble_eq_true rfl) (fun p e s m below meth c ls A hx hb hr hts hown hlk hml hin hK hG hW hA hAe hro hl R hRf hRc hRs hRl => ?_)
  have hl : lv_has ls 1 [(0, .ref aa)] := hl
  refine lv_aload_n hx hb dX1_withoutCarry_0 rfl (lv_at hl 0 rfl) ?_
  refine lv_aload_n hx hb dX1_withoutCarry_1 rfl (lv_at hl 0 rfl) ?_
  refine r_len hx hb hK ((RO.nil hro).here hAe hW) dX1_withoutCarry_2 ?_
  refine lv_iconst (v := nI 1) hx hb dX1_withoutCarry_3 (by decide) ?_
  refine n_isub hx hb (by omega) dX1_withoutCarry_4 ?_
  refine lv_iconst (v := nI 0) hx hb dX1_withoutCarry_5 (by decide) ?_
  refine n_max hx hb hml hl hown hts tb_387 (by omega) (by rw [hRl]; exact Nat.le_of_ble_eq_true rfl) (by omega) (by omega) (x := w + 1 - 1) (y := 0) (by omega) (by omega) dX1_withoutCarry_6 ?_
  rw [show max (w + 1 - 1) 0 = w by omega]
  refine c_stat (As := [.ref aa, .int (nI w)]) (rest := []) (wc := []) (wr := []) hx hb hml hown hts hK hG rfl hA hl (k_copyOf l Z aa (w + 1) w ra (by omega) (by omega)) hW ((RO.nil hro).here hAe hW) tb_388 tb_231 tb_13 tb_232 (nA := 2) (by decide +kernel) rfl ⟨by omega, by omega⟩ ⟨by omega, by omega⟩ rfl (Nat.le_of_ble_eq_true rfl) dX1_withoutCarry_9 (fun v w1 H1 L1 hp hW hzz hkk hdd => ?_)
  obtain ⟨q, f, rfl, rfl, hf⟩ := hp
  clear hzz hkk hdd
  generalize H1 = H at hW ⊢
  generalize L1 = locs at hW ⊢
  have hW : Wd Z A s.heap ([ea Z q w f]) _ _ := hW
  refine W.eq (g2 := F0 m 12 ls [.ref q]) rfl ?_
  exact e_ref hx hb hr (Or.inr ⟨_, rfl⟩) hlk hAe hW (by omega) (by omega) dX1_withoutCarry_12 ⟨q, f, rfl, rfl, fun j hj => by rw [hf j hj, if_pos (by omega)]⟩
