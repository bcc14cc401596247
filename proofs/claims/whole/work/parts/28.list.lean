set_option maxHeartbeats 4000000 in
set_option maxRecDepth 100000 in
theorem k_checkIndex3 (l : Launch) (Z : Zt) (i n : Nat) (h : i < n) (hn : n < 2 ^ 31) : MC l yJ3_checkIndex_8e157 cJ3_checkIndex_8e157 3 (some .int) 0 0 (0) (0) Z ([]) (fun _ => True) [.int (nI i), .int (nI n), .null] (fun v w1 => v = some (.int (nI i)) ∧ w1 = []) := by
  refine mc_of (by decide) (Nat.le_of_ble_eq_true rfl) (fun p e s m below meth c ls A hx hb hr hts hown hlk hml hin hK hG hW hA hAe hro hl R hRf hRc hRs hRl => ?_)
  have hl : lv_has ls 3 [(0, .int (nI i)), (1, .int (nI n)), (2, .null)] := hl
  refine lv_iload_n hx hb dJ3_checkIndex_8e157_0 rfl (lv_at hl 0 rfl) ?_
  refine n_zlt_f (tgt := 9) hx hb (by omega) dJ3_checkIndex_8e157_1 (by decide) ?_
  refine lv_iload_n hx hb dJ3_checkIndex_8e157_4 rfl (lv_at hl 0 rfl) ?_
  refine lv_iload_n hx hb dJ3_checkIndex_8e157_5 rfl (lv_at hl 1 rfl) ?_
  refine n_lt_t (tgt := 16) hx hb (by omega) (by omega) dJ3_checkIndex_8e157_6 (by decide) ?_
  refine lv_iload_n hx hb dJ3_checkIndex_8e157_16 rfl (lv_at hl 0 rfl) ?_
  exact e_int hx hb hr hlk hAe hW (by omega) (by omega) dJ3_checkIndex_8e157_17 ⟨rfl, rfl⟩
set_option maxHeartbeats 4000000 in
set_option maxRecDepth 100000 in
theorem k_checkIndex (l : Launch) (Z : Zt) (i n : Nat) (h : i < n) (hn : n < 2 ^ 31) : MC l yJ15_checkIndex_7cf53 cJ15_checkIndex_7cf53 2 (some .int) 1 40 (0) (0) Z ([]) (fun _ => True) [.int (nI i), .int (nI n)] (fun v w1 => v = some (.int (nI i)) ∧ w1 = []) := by
  refine mc_of (by decide) (Nat.le_of_ble_eq_true rfl) (fun p e s m below meth c ls A hx hb hr hts hown hlk hml hin hK hG hW hA hAe hro hl R hRf hRc hRs hRl => ?_)
  have hl : lv_has ls 2 [(0, .int (nI i)), (1, .int (nI n))] := hl
  refine lv_iload_n hx hb dJ15_checkIndex_7cf53_0 rfl (lv_at hl 0 rfl) ?_
  refine lv_iload_n hx hb dJ15_checkIndex_7cf53_1 rfl (lv_at hl 1 rfl) ?_
  refine lv_null hx hb dJ15_checkIndex_7cf53_2 ?_
  refine c_stat (As := [.int (nI i), .int (nI n), .null]) (rest := []) (wc := []) (wr := []) hx hb hml hown hts hK hG rfl hA hl (k_checkIndex3 l Z i n h hn) hW trivial tb_349 tb_350 tb_19 tb_351 (nA := 3) (by decide +kernel) rfl ⟨by omega, by omega⟩ ⟨by omega, by omega⟩ rfl (Nat.le_of_ble_eq_true rfl) dJ15_checkIndex_7cf53_3 (fun v w1 H1 L1 hp hW hzz hkk hdd => ?_)
  obtain ⟨rfl, rfl⟩ := hp
  clear hzz hkk hdd
  generalize H1 = H at hW  ⊢
  generalize L1 = locs at hW ⊢
  have hW : Wd Z A s.heap ([]) _ _ := hW
  refine W.eq (g2 := F0 m 6 ls [.int (nI i)]) rfl ?_
  exact e_int hx hb hr hlk hAe hW (by omega) (by omega) dJ15_checkIndex_7cf53_6 ⟨rfl, rfl⟩
set_option maxHeartbeats 4000000 in
set_option maxRecDepth 100000 in
theorem k_size (l : Launch) (Z : Zt) (hm : Nat) (mo : Int32) (qe n : Nat)  : MC l yJx4a65c_size_8abf5 cJx4a65c_size_8abf5 1 (some .int) 0 0 (0) (0) Z ([]) (fun H => zat Z (eo hm 5 [.int mo, .ref qe, .int (nI n)]) H) [.ref hm] (fun v w1 => v = some (.int (nI n)) ∧ w1 = []) := by
  refine mc_of (by decide) (Nat.le_of_ble_eq_true rfl) (fun p e s m below meth c ls A hx hb hr hts hown hlk hml hin hK hG hW hA hAe hro hl R hRf hRc hRs hRl => ?_)
  have hl : lv_has ls 1 [(0, .ref hm)] := hl
  refine lv_aload_n hx hb dJx4a65c_size_8abf5_0 rfl (lv_at hl 0 rfl) ?_
  refine r_get hx hb hts hown hK ((RO.nil hro).here hAe hW) rfl in_J 2 (by decide) tb_86 (fun _ h => h) rfl dJx4a65c_size_8abf5_1 ?_
  exact e_int hx hb hr hlk hAe hW (by omega) (by omega) dJx4a65c_size_8abf5_4 ⟨rfl, rfl⟩
set_option maxHeartbeats 4000000 in
set_option maxRecDepth 100000 in
theorem k_elementData (l : Launch) (Z : Zt) (hm : Nat) (mo : Int32) (qe n i ce y : Nat) (f : Nat → Option Nat) (hi : i < ce) (hce : ce < 2 ^ 31) (hf : f i = some y) : MC l yJx4a65c_elementData_915e3 cJx4a65c_elementData_915e3 2 (some (.object "java/lang/Object")) 0 0 (0) (0) Z ([]) (fun H => zat Z (eo hm 5 [.int mo, .ref qe, .int (nI n)]) H ∧ zat Z (er Z qe ce f) H) [.ref hm, .int (nI i)] (fun v w1 => v = some (.ref y) ∧ w1 = []) := by
  refine mc_of (by decide) (Nat.le_of_ble_eq_true rfl) (fun p e s m below meth c ls A hx hb hr hts hown hlk hml hin hK hG hW hA hAe hro hl R hRf hRc hRs hRl => ?_)
  have hl : lv_has ls 2 [(0, .ref hm), (1, .int (nI i))] := hl
  refine lv_aload_n hx hb dJx4a65c_elementData_915e3_0 rfl (lv_at hl 0 rfl) ?_
  refine r_get hx hb hts hown hK ((RO.nil hro.1).here hAe hW) rfl in_J 1 (by decide) tb_85 (fun _ h => h) rfl dJx4a65c_elementData_915e3_1 ?_
  refine lv_iload_n hx hb dJx4a65c_elementData_915e3_4 rfl (lv_at hl 1 rfl) ?_
  refine r_aald (i := i) (y := y) hx hb hK ((RO.nil hro.2).here hAe hW) (by omega) (by omega) hf dJx4a65c_elementData_915e3_5 ?_
  exact e_ref hx hb hr (Or.inl ⟨_, rfl⟩) hlk hAe hW (by omega) (by omega) dJx4a65c_elementData_915e3_6 ⟨rfl, rfl⟩
set_option maxHeartbeats 4000000 in
set_option maxRecDepth 100000 in
theorem k_get (l : Launch) (Z : Zt) (hm : Nat) (mo : Int32) (qe n i ce y : Nat) (f : Nat → Option Nat) (hi : i < n) (hnc : n ≤ ce) (hce : ce < 2 ^ 31) (hf : f i = some y) : MC l yJx4a65c_get_915e3 cJx4a65c_get_915e3 2 (some (.object "java/lang/Object")) 3 80 (0) (0) Z ([]) (fun H => zat Z (eo hm 5 [.int mo, .ref qe, .int (nI n)]) H ∧ zat Z (er Z qe ce f) H) [.ref hm, .int (nI i)] (fun v w1 => v = some (.ref y) ∧ w1 = []) := by
  refine mc_of (by decide) (Nat.le_of_ble_eq_true rfl) (fun p e s m below meth c ls A hx hb hr hts hown hlk hml hin hK hG hW hA hAe hro hl R hRf hRc hRs hRl => ?_)
  have hl : lv_has ls 2 [(0, .ref hm), (1, .int (nI i))] := hl
  refine lv_iload_n hx hb dJx4a65c_get_915e3_0 rfl (lv_at hl 1 rfl) ?_
  refine lv_aload_n hx hb dJx4a65c_get_915e3_1 rfl (lv_at hl 0 rfl) ?_
  refine r_get hx hb hts hown hK ((RO.nil hro.1).here hAe hW) rfl in_J 2 (by decide) tb_86 (fun _ h => h) rfl dJx4a65c_get_915e3_2 ?_
  refine c_stat (As := [.int (nI i), .int (nI n)]) (rest := []) (wc := []) (wr := []) hx hb hml hown hts hK hG rfl hA hl (k_checkIndex l Z i n hi (by omega)) hW trivial tb_346 tb_347 tb_18 tb_348 (nA := 2) (by decide +kernel) rfl ⟨by omega, by omega⟩ ⟨by omega, by omega⟩ rfl (Nat.le_of_ble_eq_true rfl) dJx4a65c_get_915e3_5 (fun v w1 H1 L1 hp hW hzz hkk hdd => ?_)
  obtain ⟨rfl, rfl⟩ := hp
  clear hzz hkk hdd
  generalize H1 = H at hW  ⊢
  generalize L1 = locs at hW ⊢
  have hW : Wd Z A s.heap ([]) _ _ := hW
  refine W.eq (g2 := F0 m 8 ls [.int (nI i)]) rfl ?_
  refine lv_pop hx hb dJx4a65c_get_915e3_8 rfl ?_
  refine lv_aload_n hx hb dJx4a65c_get_915e3_9 rfl (lv_at hl 0 rfl) ?_
  refine lv_iload_n hx hb dJx4a65c_get_915e3_10 rfl (lv_at hl 1 rfl) ?_
  refine c_virt (As := [.int (nI i)]) (rest := []) (wc := []) (wr := []) (nl := 0) hx hb hml hown hts hK hG rfl hA hl (k_elementData l Z hm mo qe n i ce y f (by omega) hce hf) hW ⟨((RO.nil hro.1).here hAe hW), ((RO.nil hro.2).here hAe hW)⟩ ((RO.nil hro.1).here hAe hW) rfl rfl tb_352 tb_353 tb_354 tb_6 tb_355 (nA := 1) (by decide +kernel) rfl ⟨by omega, by omega⟩ ⟨by omega, by omega⟩ rfl (Nat.le_of_ble_eq_true rfl) dJx4a65c_get_915e3_11 (fun v w1 H1 L1 hp hW hzz hkk hdd => ?_)
  obtain ⟨rfl, rfl⟩ := hp
  clear hzz hkk hdd
  generalize H1 = H at hW  ⊢
  generalize L1 = locs at hW ⊢
  have hW : Wd Z A s.heap ([]) _ _ := hW
  refine W.eq (g2 := F0 m 14 ls [.ref y]) rfl ?_
  exact e_ref hx hb hr (Or.inl ⟨_, rfl⟩) hlk hAe hW (by omega) (by omega) dJx4a65c_get_915e3_14 ⟨rfl, rfl⟩
set_option maxHeartbeats 4000000 in
set_option maxRecDepth 100000 in
theorem k_newLength (l : Launch) (Z : Zt) (a b g : Nat) (ha : 1 ≤ a) (hab : a + b < 1000000) (hac : a + g < 1000000) : MC l yJ8_newLength_cabcc cJ8_newLength_cabcc 4 (some .int) 1 40 (0) (0) Z ([]) (fun _ => True) [.int (nI a), .int (nI b), .int (nI g)] (fun v w1 => v = some (.int (nI (a + max b g))) ∧ w1 = []) := by
  refine mc_of (by decide) (Nat.le_of_ble_eq_true rfl) (fun p e s m below meth c ls A hx hb hr hts hown hlk hml hin hK hG hW hA hAe hro hl R hRf hRc hRs hRl => ?_)
  have hl : lv_has ls 4 [(0, .int (nI a)), (1, .int (nI b)), (2, .int (nI g))] := hl
  refine lv_iload_n hx hb dJ8_newLength_cabcc_0 rfl (lv_at hl 0 rfl) ?_
  refine lv_iload_n hx hb dJ8_newLength_cabcc_1 rfl (lv_at hl 1 rfl) ?_
  refine lv_iload_n hx hb dJ8_newLength_cabcc_2 rfl (lv_at hl 2 rfl) ?_
  refine n_max hx hb hml hl hown hts tb_284 (by omega) (by rw [hRl]; exact Nat.le_of_ble_eq_true rfl) (by omega) (by omega) (x := b) (y := g) (by omega) (by omega) dJ8_newLength_cabcc_3 ?_
  refine n_iadd hx hb dJ8_newLength_cabcc_6 ?_
  refine lv_istore_n (lv' := [(3, .int (nI (a + (max b g)))), (0, .int (nI a)), (1, .int (nI b)), (2, .int (nI g))]) hx hb dJ8_newLength_cabcc_7 rfl hl (by decide) rfl (fun ls hl => ?_)
  refine lv_iconst (v := nI 0) hx hb dJ8_newLength_cabcc_8 (by decide) ?_
  refine lv_iload_n hx hb dJ8_newLength_cabcc_9 rfl (lv_at hl 0 rfl) ?_
  refine n_ge_f (tgt := 21) hx hb (by omega) (by omega) dJ8_newLength_cabcc_10 (by decide) ?_
  refine lv_iload_n hx hb dJ8_newLength_cabcc_13 rfl (lv_at hl 0 rfl) ?_
  refine lv_ldc (v := nI 2147483639) hx hb hown (hts _ tb_287) dJ8_newLength_cabcc_14 ?_
  refine n_gt_f (tgt := 21) hx hb (by omega) (by omega) dJ8_newLength_cabcc_16 (by decide) ?_
  refine lv_iload_n hx hb dJ8_newLength_cabcc_19 rfl (lv_at hl 0 rfl) ?_
  exact e_int hx hb hr hlk hAe hW (by omega) (by omega) dJ8_newLength_cabcc_20 ⟨rfl, rfl⟩
theorem old_any {Z : Zt} {A : Nat → Prop} {H0 H : Heap} {a n : Nat} {f : Nat → Option Nat} {ws : va_W} {locs : List Loc} (hAe : A = va_A [er Z a n f] H0.size) (hW : Wd Z A H0 ws H locs) (h : ∀ i, i < n → ∀ y, f i = some y → ∃ fs, zat Z (eo y 2 fs) H0 ∧ y ≠ a) : ∀ i, i < n → ∀ y, f i = some y → ∃ fs, zat Z (eo y 2 fs) H := by
  intro i hi y hy
  obtain ⟨fs, h1, h2⟩ := h i hi y hy
  refine ⟨fs, hW.old h1 (fun g => ?_)⟩
  rw [hAe] at g
  rcases g with ⟨k, e, g⟩ | g
  · have hz : k < 1 := (List.getElem?_eq_some_iff.mp g).1
    rw [show k = 0 by omega] at g
    cases g
    exact h2 rfl
  · have := h1.lt
    have h3 : H0.size ≤ y := g
    have h4 : y < H0.size := this
    omega
set_option maxHeartbeats 4000000 in
set_option maxRecDepth 100000 in
theorem k_copyOfO2 (l : Launch) (Z : Zt) (a n k : Nat) (f : Nat → Option Nat) (hn : n ≤ k) (hk : k ≤ 100000) : MC l yJ7_copyOf_6403c cJ7_copyOf_6403c 4 (some (.array (.object "java/lang/Object"))) 2 80 (1) (k) Z ([er Z a n f]) (fun H => ∀ i, i < n → ∀ y, f i = some y → ∃ fs, zat Z (eo y 2 fs) H ∧ y ≠ a) [.ref a, .int (nI k), .ref Z.2.2.2.2.2.2] (fun v w1 => ∃ q : Nat, v = some (.ref q) ∧ w1 = [er Z a n f, er Z q k (va_cpy f (fun _ => none) 0 0 n)]) := by
  refine mc_of (by decide) (Nat.le_of_ble_eq_true rfl) (fun p e s m below meth c ls A hx hb hr hts hown hlk hml hin hK hG hW hA hAe hro hl R hRf hRc hRs hRl => ?_)
  have hl : lv_has ls 4 [(0, .ref a), (1, .int (nI k)), (2, .ref Z.2.2.2.2.2.2)] := hl
  refine lv_aload_n hx hb dJ7_copyOf_6403c_0 rfl (lv_at hl 2 rfl) ?_
  refine va_ldcM hx hb hown (hts _ tb_311) hG.1.2.2.1 dJ7_copyOf_6403c_1 ?_
  refine lv_acmp_ne (rx := some Z.2.2.2.2.2.2) (ry := some Z.2.2.2.2.2.2) (tgt := 13) hx hb dJ7_copyOf_6403c_3 (by decide) (fun q => absurd rfl q) (fun _ => ?_)
  refine lv_iload_n hx hb dJ7_copyOf_6403c_6 rfl (lv_at hl 1 rfl) ?_
  refine r_newr (n := k) hx hb hts hown hK hG.1 hW hA tb_313 (by omega) (by omega) (by omega) dJ7_copyOf_6403c_7 (fun q H hW => ?_)
  have hW : Wd Z A s.heap ([er Z a n f, er Z q k (fun _ => none)]) _ _ := hW
  refine lv_goto (tgt := 24) hx hb dJ7_copyOf_6403c_10 (by decide) ?_
  refine lv_astore_n (lv' := [(3, .ref q), (0, .ref a), (1, .int (nI k)), (2, .ref Z.2.2.2.2.2.2)]) hx hb dJ7_copyOf_6403c_24 rfl hl (by decide) rfl (fun ls hl => ?_)
  refine lv_aload_n hx hb dJ7_copyOf_6403c_25 rfl (lv_at hl 1 rfl) ?_
  refine lv_iconst (v := nI 0) hx hb dJ7_copyOf_6403c_26 (by decide) ?_
  refine lv_aload_n hx hb dJ7_copyOf_6403c_27 rfl (lv_at hl 0 rfl) ?_
  refine lv_iconst (v := nI 0) hx hb dJ7_copyOf_6403c_28 (by decide) ?_
  refine lv_aload_n hx hb dJ7_copyOf_6403c_29 rfl (lv_at hl 1 rfl) ?_
  refine r_lenr hx hb hK (hW.at 0 rfl) dJ7_copyOf_6403c_30 ?_
  refine lv_iload_n hx hb dJ7_copyOf_6403c_31 rfl (lv_at hl 2 rfl) ?_
  refine n_min hx hb hml hl hown hts tb_240 (by omega) (by rw [hRl]; exact Nat.le_of_ble_eq_true rfl) (by omega) (by omega) (x := n) (y := k) (by omega) (by omega) dJ7_copyOf_6403c_32 ?_
  rw [Nat.min_eq_left hn]
  refine r_copyr hx hb hml hl hown hts hK hG.1 hW tb_243 (n := n) 0 1 rfl rfl (Nat.le_refl _) hn (by omega) (old_any hAe hW hro) (by omega) (by rw [hRl]; exact Nat.le_of_ble_eq_true rfl) dJ7_copyOf_6403c_35 (fun H locs hW => ?_)
  have hW : Wd Z A s.heap ([er Z a n f, er Z q k (va_cpy f (fun _ => none) 0 0 n)]) _ _ := hW
  refine lv_aload_n hx hb dJ7_copyOf_6403c_38 rfl (lv_at hl 0 rfl) ?_
  exact e_ref hx hb hr (Or.inr ⟨_, rfl⟩) hlk hAe hW (by omega) (by omega) dJ7_copyOf_6403c_39 ⟨q, rfl, rfl⟩
set_option maxHeartbeats 4000000 in
set_option maxRecDepth 100000 in
theorem k_copyOfO (l : Launch) (Z : Zt) (a n k : Nat) (f : Nat → Option Nat) (hn : n ≤ k) (hk : k ≤ 100000) : MC l yJ7_copyOf_1904c cJ7_copyOf_1904c 2 (some (.array (.object "java/lang/Object"))) 3 120 (1) (k) Z ([er Z a n f]) (fun H => ∀ i, i < n → ∀ y, f i = some y → ∃ fs, zat Z (eo y 2 fs) H ∧ y ≠ a) [.ref a, .int (nI k)] (fun v w1 => ∃ q : Nat, v = some (.ref q) ∧ w1 = [er Z a n f, er Z q k (va_cpy f (fun _ => none) 0 0 n)]) := by
  refine mc_of (by decide) (Nat.le_of_ble_eq_true rfl) (fun p e s m below meth c ls A hx hb hr hts hown hlk hml hin hK hG hW hA hAe hro hl R hRf hRc hRs hRl => ?_)
  have hl : lv_has ls 2 [(0, .ref a), (1, .int (nI k))] := hl
  have hW : Wd Z A s.heap ([er Z a n f] ++ []) _ _ := hW
  refine lv_aload_n hx hb dJ7_copyOf_1904c_0 rfl (lv_at hl 0 rfl) ?_
  refine lv_iload_n hx hb dJ7_copyOf_1904c_1 rfl (lv_at hl 1 rfl) ?_
  refine lv_aload_n hx hb dJ7_copyOf_1904c_2 rfl (lv_at hl 0 rfl) ?_
  have hrec : ∃ cell : Cell, s.heap[a]? = some cell ∧ cell.vm.isStatics = false ∧ s.vm.findClass "[Ljava/lang/Object;" = some cell.cls := ⟨_, hW.1 0 _ rfl, rfl, va_nmO (hK.2 3 _ rfl).2 (by decide +kernel)⟩
  refine va_getC hx hb (hml.trans hl.1.symm) hown (hts _ tb_294) (va_Nw.use rfl (hG.1.2.1 ⟨"java/lang/Object", "getClass", "()Ljava/lang/Class;"⟩ (by simp [nw_decl]))) (hts _ tb_930) (hts _ tb_295) (hts _ tb_307) hG.1.2.2.1 hrec (by omega) (by rw [hRl]; exact Nat.le_of_ble_eq_true rfl) dJ7_copyOf_1904c_3 ?_
  refine c_stat (As := [.ref a, .int (nI k), .ref Z.2.2.2.2.2.2]) (rest := []) (wc := [er Z a n f]) (wr := []) hx hb hml hown hts hK hG rfl hA hl (k_copyOfO2 l Z a n k f hn hk) hW hro tb_308 tb_309 tb_13 tb_310 (nA := 3) (by decide +kernel) rfl ⟨by omega, by omega⟩ ⟨by omega, by omega⟩ rfl (Nat.le_of_ble_eq_true rfl) dJ7_copyOf_1904c_6 (fun v w1 H1 L1 hp hW hzz hkk hdd => ?_)
  obtain ⟨q, rfl, rfl⟩ := hp
  clear hzz hkk hdd
  generalize H1 = H at hW  ⊢
  generalize L1 = locs at hW ⊢
  have hW : Wd Z A s.heap ([er Z a n f, er Z q k (va_cpy f (fun _ => none) 0 0 n)]) _ _ := hW
  refine W.eq (g2 := F0 m 9 ls [.ref q]) rfl ?_
  exact e_ref hx hb hr (Or.inr ⟨_, rfl⟩) hlk hAe hW (by omega) (by omega) dJ7_copyOf_1904c_9 ⟨q, rfl, rfl⟩
