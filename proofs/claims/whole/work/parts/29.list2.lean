/-- the list's cells: none: it has never held anything -/
abbrev lsq (Z : Zt) (o : Option (Nat × Nat × (Nat → Option Nat))) : Nat := match o with
  | none => rE Z
  | some a => a.1
abbrev lsr (Z : Zt) (o : Option (Nat × Nat × (Nat → Option Nat))) : va_W := match o with
  | none => []
  | some a => [er Z a.1 a.2.1 a.2.2]
abbrev lst (Z : Zt) (hm : Nat) (mo : Int32) (n : Nat) (o : Option (Nat × Nat × (Nat → Option Nat))) : va_W := eo hm 5 [.int mo, .ref (lsq Z o), .int (nI n)] :: lsr Z o
def lok (n : Nat) (o : Option (Nat × Nat × (Nat → Option Nat))) (vd : Nat → Nat) : Prop := n ≤ 512 ∧ match o with
  | none => n = 0
  | some a => n ≤ a.2.1 ∧ a.2.1 ≤ 768 ∧ 10 ≤ a.2.1 ∧ (∀ i, i < n → a.2.2 i = some (vd i)) ∧ ∀ i, n ≤ i → a.2.2 i = none
theorem Wd.nil {Z : Zt} {A : Nat → Prop} {H0 H : Heap} {ws : va_W} {locs : List Loc} (h : Wd Z A H0 ws H locs) : Wd Z A H0 (ws ++ []) H locs := by rw [List.append_nil]; exact h
theorem Wd.unnil {Z : Zt} {A : Nat → Prop} {H0 H : Heap} {ws : va_W} {locs : List Loc} (h : Wd Z A H0 (ws ++ []) H locs) : Wd Z A H0 ws H locs := by rw [List.append_nil] at h; exact h
theorem zat_E {Z : Zt} {A : Nat → Prop} {s : State} (h : GS Z A s s.heap) : ¬ A (rE Z) := h.2.2.1.out
set_option maxHeartbeats 4000000 in
set_option maxRecDepth 100000 in
theorem k_growF (l : Launch) (Z : Zt) (hm : Nat) (mo : Int32)  : MC l yJx4a65c_grow_92f84 cJx4a65c_grow_92f84 4 (some (.array (.object "java/lang/Object"))) 2 80 (1) (10) Z ([eo hm 5 [.int mo, .ref (rE Z), .int (nI 0)]]) (fun _ => True) [.ref hm, .int (nI 1)] (fun v w1 => ∃ q : Nat, v = some (.ref q) ∧ w1 = [eo hm 5 [.int mo, .ref q, .int (nI 0)], er Z q 10 (fun _ => none)]) := by
  refine mc_of (by decide) (Nat.le_of_ble_eq_true rfl) (fun p e s m below meth c ls A hx hb hr hts hown hlk hml hin hK hG hW hA hAe hro hl R hRf hRc hRs hRl => ?_)
  have hl : lv_has ls 4 [(0, .ref hm), (1, .int (nI 1))] := hl
  refine lv_aload_n hx hb dJx4a65c_grow_92f84_0 rfl (lv_at hl 0 rfl) ?_
  refine r_get hx hb hts hown hK (hW.at 0 rfl) rfl in_J 1 (by decide) tb_85 (fun _ h => h) rfl dJx4a65c_grow_92f84_1 ?_
  refine va_tlen hx hb hG.2.2.1 hW.2.2 (v := nI 0) (by decide) dJx4a65c_grow_92f84_4 ?_
  refine lv_istore_n (lv' := [(2, .int (nI 0)), (0, .ref hm), (1, .int (nI 1))]) hx hb dJx4a65c_grow_92f84_5 rfl hl (by decide) rfl (fun ls hl => ?_)
  refine lv_iload_n hx hb dJx4a65c_grow_92f84_6 rfl (lv_at hl 0 rfl) ?_
  refine n_zgt_f (tgt := 20) hx hb (by omega) (by omega) dJx4a65c_grow_92f84_7 (by decide) ?_
  refine lv_aload_n hx hb dJx4a65c_grow_92f84_10 rfl (lv_at hl 1 rfl) ?_
  refine r_get hx hb hts hown hK (hW.at 0 rfl) rfl in_J 1 (by decide) tb_85 (fun _ h => h) rfl dJx4a65c_grow_92f84_11 ?_
  refine va_gets hx hb hG.2.1 hW.2.2 hown (hts _ tb_83) (fun _ h => h) dJx4a65c_grow_92f84_14 ?_
  refine lv_acmp_eq (rx := some (rE Z)) (ry := some (rE Z)) (tgt := 45) hx hb dJx4a65c_grow_92f84_17 (by decide) (fun _ => ?_) (fun q => absurd rfl q)
  refine lv_aload_n hx hb dJx4a65c_grow_92f84_45 rfl (lv_at hl 1 rfl) ?_
  refine lv_bipush (v := nI 10) hx hb dJx4a65c_grow_92f84_46 (by decide) ?_
  refine lv_iload_n hx hb dJx4a65c_grow_92f84_48 rfl (lv_at hl 2 rfl) ?_
  refine n_max hx hb hml hl hown hts tb_314 (by omega) (by rw [hRl]; exact Nat.le_of_ble_eq_true rfl) (by omega) (by omega) (x := 10) (y := 1) (by omega) (by omega) dJx4a65c_grow_92f84_49 ?_
  rw [show max 10 1 = 10 by decide]
  refine r_newr (n := 10) hx hb hts hown hK hG.1 hW hA tb_315 (by omega) (by omega) (by omega) dJx4a65c_grow_92f84_52 (fun q H hW => ?_)
  have hW : Wd Z A s.heap ([eo hm 5 [.int mo, .ref (rE Z), .int (nI 0)], er Z q 10 (fun _ => none)]) _ _ := hW
  refine lv_dup_x1 hx hb dJx4a65c_grow_92f84_55 rfl rfl ?_
  refine r_put hx hb hts hown hK hW 0 (v := .ref q) rfl rfl in_J tyJx4a65c tyJx4a65c_ok nmJx4a65c 1 (by decide) tb_85 (fun _ h => h) rfl rfl rfl (Nat.le_of_ble_eq_true rfl) dJx4a65c_grow_92f84_56 (fun H locs hW => ?_)
  have hW : Wd Z A s.heap ([eo hm 5 [.int mo, .ref q, .int (nI 0)], er Z q 10 (fun _ => none)]) _ _ := hW
  exact e_ref hx hb hr (Or.inr ⟨_, rfl⟩) hlk hAe hW (by omega) (by omega) dJx4a65c_grow_92f84_59 ⟨q, rfl, rfl⟩
set_option maxHeartbeats 4000000 in
set_option maxRecDepth 100000 in
theorem k_grow0F (l : Launch) (Z : Zt) (hm : Nat) (mo : Int32)  : MC l yJx4a65c_grow_d5877 cJx4a65c_grow_d5877 1 (some (.array (.object "java/lang/Object"))) 3 120 (1) (10) Z ([eo hm 5 [.int mo, .ref (rE Z), .int (nI 0)]]) (fun _ => True) [.ref hm] (fun v w1 => ∃ q : Nat, v = some (.ref q) ∧ w1 = [eo hm 5 [.int mo, .ref q, .int (nI 0)], er Z q 10 (fun _ => none)]) := by
  refine mc_of (by decide) (Nat.le_of_ble_eq_true rfl) (fun p e s m below meth c ls A hx hb hr hts hown hlk hml hin hK hG hW hA hAe hro hl R hRf hRc hRs hRl => ?_)
  have hl : lv_has ls 1 [(0, .ref hm)] := hl
  have hW : Wd Z A s.heap ([eo hm 5 [.int mo, .ref (rE Z), .int (nI 0)]] ++ []) _ _ := hW
  refine lv_aload_n hx hb dJx4a65c_grow_d5877_0 rfl (lv_at hl 0 rfl) ?_
  refine lv_aload_n hx hb dJx4a65c_grow_d5877_1 rfl (lv_at hl 0 rfl) ?_
  refine r_get hx hb hts hown hK (hW.at 0 rfl) rfl in_J 2 (by decide) tb_86 (fun _ h => h) rfl dJx4a65c_grow_d5877_2 ?_
  refine lv_iconst (v := nI 1) hx hb dJx4a65c_grow_d5877_5 (by decide) ?_
  refine n_iadd hx hb dJx4a65c_grow_d5877_6 ?_
  rw [show 0 + 1 = 1 from rfl]
  refine c_virt (As := [.int (nI 1)]) (rest := []) (wc := [eo hm 5 [.int mo, .ref (rE Z), .int (nI 0)]]) (wr := []) (nl := 0) hx hb hml hown hts hK hG rfl hA hl (k_growF l Z hm mo) hW trivial (hW.at 0 rfl) rfl rfl tb_277 tb_279 ts_5 tb_6 tb_280 (nA := 1) (by decide +kernel) rfl ⟨by omega, by omega⟩ ⟨by omega, by omega⟩ rfl (Nat.le_of_ble_eq_true rfl) dJx4a65c_grow_d5877_7 (fun v w1 H1 L1 hp hW hzz hkk hdd => ?_)
  obtain ⟨q, rfl, rfl⟩ := hp
  clear hzz hkk hdd
  generalize H1 = H at hW  ⊢
  generalize L1 = locs at hW ⊢
  have hW : Wd Z A s.heap ([eo hm 5 [.int mo, .ref q, .int (nI 0)], er Z q 10 (fun _ => none)]) _ _ := hW
  refine W.eq (g2 := F0 m 10 ls [.ref q]) rfl ?_
  exact e_ref hx hb hr (Or.inr ⟨_, rfl⟩) hlk hAe hW (by omega) (by omega) dJx4a65c_grow_d5877_10 ⟨q, rfl, rfl⟩
set_option maxHeartbeats 4000000 in
set_option maxRecDepth 100000 in
theorem k_growN (l : Launch) (Z : Zt) (hm : Nat) (mo : Int32) (qe n : Nat) (f : Nat → Option Nat) (h10 : 10 ≤ n) (hn : n ≤ 10000) : MC l yJx4a65c_grow_92f84 cJx4a65c_grow_92f84 4 (some (.array (.object "java/lang/Object"))) 5 200 (1) (n + n / 2) Z ([eo hm 5 [.int mo, .ref qe, .int (nI n)], er Z qe n f]) (fun H => ∀ i, i < n → ∀ y, f i = some y → ∃ fs, RO Z ([eo hm 5 [.int mo, .ref qe, .int (nI n)], er Z qe n f]) (eo y 2 fs) H) [.ref hm, .int (nI (n + 1))] (fun v w1 => ∃ q : Nat, v = some (.ref q) ∧ w1 = [eo hm 5 [.int mo, .ref q, .int (nI n)], er Z q (n + n / 2) (va_cpy f (fun _ => none) 0 0 n)]) := by
  refine mc_of (by decide) (Nat.le_of_ble_eq_true rfl) (fun p e s m below meth c ls A hx hb hr hts hown hlk hml hin hK hG hW hA hAe hro hl R hRf hRc hRs hRl => ?_)
  have hl : lv_has ls 4 [(0, .ref hm), (1, .int (nI (n + 1)))] := hl
  refine lv_aload_n hx hb dJx4a65c_grow_92f84_0 rfl (lv_at hl 0 rfl) ?_
  refine r_get hx hb hts hown hK (hW.at 0 rfl) rfl in_J 1 (by decide) tb_85 (fun _ h => h) rfl dJx4a65c_grow_92f84_1 ?_
  refine r_lenr hx hb hK (hW.at 1 rfl) dJx4a65c_grow_92f84_4 ?_
  refine lv_istore_n (lv' := [(2, .int (nI n)), (0, .ref hm), (1, .int (nI (n + 1)))]) hx hb dJx4a65c_grow_92f84_5 rfl hl (by decide) rfl (fun ls hl => ?_)
  refine lv_iload_n hx hb dJx4a65c_grow_92f84_6 rfl (lv_at hl 0 rfl) ?_
  refine n_zgt_t (tgt := 20) hx hb (by omega) (by omega) dJx4a65c_grow_92f84_7 (by decide) ?_
  refine lv_iload_n hx hb dJx4a65c_grow_92f84_20 rfl (lv_at hl 0 rfl) ?_
  refine lv_iload_n hx hb dJx4a65c_grow_92f84_21 rfl (lv_at hl 2 rfl) ?_
  refine lv_iload_n hx hb dJx4a65c_grow_92f84_22 rfl (lv_at hl 0 rfl) ?_
  refine n_isub hx hb (by omega) dJx4a65c_grow_92f84_23 ?_
  rw [show n + 1 - n = 1 by omega]
  refine lv_iload_n hx hb dJx4a65c_grow_92f84_24 rfl (lv_at hl 0 rfl) ?_
  refine lv_iconst (v := nI 1) hx hb dJx4a65c_grow_92f84_25 (by decide) ?_
  refine lv_ishr hx hb dJx4a65c_grow_92f84_26 ?_
  refine n_eqv (y := nI (n / 2)) (by have k := pk_shrN (n := n) (by omega) ((1 : Int32) &&& 31) 1 (by decide); rw [Nat.pow_one] at k; exact k) ?_
  refine c_stat (As := [.int (nI n), .int (nI 1), .int (nI (n / 2))]) (rest := []) (wc := []) (wr := [eo hm 5 [.int mo, .ref qe, .int (nI n)], er Z qe n f]) hx hb hml hown hts hK hG rfl hA hl (k_newLength l Z n 1 (n / 2) (by omega) (by omega) (by omega)) hW trivial tb_281 tb_282 tb_17 tb_283 (nA := 3) (by decide +kernel) rfl ⟨by omega, by omega⟩ ⟨by omega, by omega⟩ rfl (Nat.le_of_ble_eq_true rfl) dJx4a65c_grow_92f84_27 (fun v w1 H1 L1 hp hW hzz hkk hdd => ?_)
  obtain ⟨rfl, rfl⟩ := hp
  clear hzz hkk hdd
  generalize H1 = H at hW  ⊢
  generalize L1 = locs at hW ⊢
  have hW : Wd Z A s.heap ([eo hm 5 [.int mo, .ref qe, .int (nI n)], er Z qe n f]) _ _ := hW
  refine W.eq (g2 := F0 m 30 ls [.int (nI (n + max 1 (n / 2)))]) rfl ?_
  rw [show n + max 1 (n / 2) = n + n / 2 by omega]
  refine lv_istore_n (lv' := [(3, .int (nI (n + n / 2))), (2, .int (nI n)), (0, .ref hm), (1, .int (nI (n + 1)))]) hx hb dJx4a65c_grow_92f84_30 rfl hl (by decide) rfl (fun ls hl => ?_)
  refine lv_aload_n hx hb dJx4a65c_grow_92f84_31 rfl (lv_at hl 2 rfl) ?_
  refine lv_aload_n hx hb dJx4a65c_grow_92f84_32 rfl (lv_at hl 2 rfl) ?_
  refine r_get hx hb hts hown hK (hW.at 0 rfl) rfl in_J 1 (by decide) tb_85 (fun _ h => h) rfl dJx4a65c_grow_92f84_33 ?_
  refine lv_iload_n hx hb dJx4a65c_grow_92f84_36 rfl (lv_at hl 0 rfl) ?_
  have hW : Wd Z A s.heap ([er Z qe n f, eo hm 5 [.int mo, .ref qe, .int (nI n)]]) _ _ := hW.sub [1, 0] (by decide) rfl
  have hel : ∀ i, i < n → ∀ y, f i = some y → ∃ fs, zat Z (eo y 2 fs) _ ∧ y ≠ qe := fun i hi y hy => by
    obtain ⟨fs, h1⟩ := hro i hi y hy
    exact ⟨fs, h1.here hAe hW, fun e => h1.2 (Or.inl ⟨1, (er Z qe n f).2, by rw [e]; rfl⟩)⟩
  refine c_stat (As := [.ref qe, .int (nI (n + n / 2))]) (rest := [.ref hm]) (wc := [er Z qe n f]) (wr := [eo hm 5 [.int mo, .ref qe, .int (nI n)]]) hx hb hml hown hts hK hG rfl hA hl (k_copyOfO l Z qe n (n + n / 2) f (by omega) (by omega)) hW hel tb_291 tb_292 tb_13 tb_293 (nA := 2) (by decide +kernel) rfl ⟨by omega, by omega⟩ ⟨by omega, by omega⟩ rfl (Nat.le_of_ble_eq_true rfl) dJx4a65c_grow_92f84_37 (fun v w1 H1 L1 hp hW hzz hkk hdd => ?_)
  obtain ⟨q, rfl, rfl⟩ := hp
  clear hzz hkk hdd
  generalize H1 = H at hW  ⊢
  generalize L1 = locs at hW ⊢
  have hW : Wd Z A s.heap ([er Z qe n f, er Z q (n + n / 2) (va_cpy f (fun _ => none) 0 0 n), eo hm 5 [.int mo, .ref qe, .int (nI n)]]) _ _ := hW
  refine W.eq (g2 := F0 m 40 ls [.ref q, .ref hm]) rfl ?_
  refine lv_dup_x1 hx hb dJx4a65c_grow_92f84_40 rfl rfl ?_
  refine r_put hx hb hts hown hK hW 2 (v := .ref q) rfl rfl in_J tyJx4a65c tyJx4a65c_ok nmJx4a65c 1 (by decide) tb_85 (fun _ h => h) rfl rfl rfl (Nat.le_of_ble_eq_true rfl) dJx4a65c_grow_92f84_41 (fun H locs hW => ?_)
  have hW : Wd Z A s.heap ([er Z qe n f, er Z q (n + n / 2) (va_cpy f (fun _ => none) 0 0 n), eo hm 5 [.int mo, .ref q, .int (nI n)]]) _ _ := hW
  have hW : Wd Z A s.heap [eo hm 5 [.int mo, .ref q, .int (nI n)], er Z q (n + n / 2) (va_cpy f (fun _ => none) 0 0 n)] _ _ := hW.sub [2, 1] (by decide) rfl
  exact e_ref hx hb hr (Or.inr ⟨_, rfl⟩) hlk hAe hW (by omega) (by omega) dJx4a65c_grow_92f84_44 ⟨q, rfl, rfl⟩
set_option maxHeartbeats 4000000 in
set_option maxRecDepth 100000 in
theorem k_grow0N (l : Launch) (Z : Zt) (hm : Nat) (mo : Int32) (qe n : Nat) (f : Nat → Option Nat) (h10 : 10 ≤ n) (hn : n ≤ 10000) : MC l yJx4a65c_grow_d5877 cJx4a65c_grow_d5877 1 (some (.array (.object "java/lang/Object"))) 6 240 (1) (n + n / 2) Z ([eo hm 5 [.int mo, .ref qe, .int (nI n)], er Z qe n f]) (fun H => ∀ i, i < n → ∀ y, f i = some y → ∃ fs, RO Z ([eo hm 5 [.int mo, .ref qe, .int (nI n)], er Z qe n f]) (eo y 2 fs) H) [.ref hm] (fun v w1 => ∃ q : Nat, v = some (.ref q) ∧ w1 = [eo hm 5 [.int mo, .ref q, .int (nI n)], er Z q (n + n / 2) (va_cpy f (fun _ => none) 0 0 n)]) := by
  refine mc_of (by decide) (Nat.le_of_ble_eq_true rfl) (fun p e s m below meth c ls A hx hb hr hts hown hlk hml hin hK hG hW hA hAe hro hl R hRf hRc hRs hRl => ?_)
  have hl : lv_has ls 1 [(0, .ref hm)] := hl
  have hW : Wd Z A s.heap ([eo hm 5 [.int mo, .ref qe, .int (nI n)], er Z qe n f] ++ []) _ _ := hW
  refine lv_aload_n hx hb dJx4a65c_grow_d5877_0 rfl (lv_at hl 0 rfl) ?_
  refine lv_aload_n hx hb dJx4a65c_grow_d5877_1 rfl (lv_at hl 0 rfl) ?_
  refine r_get hx hb hts hown hK (hW.at 0 rfl) rfl in_J 2 (by decide) tb_86 (fun _ h => h) rfl dJx4a65c_grow_d5877_2 ?_
  refine lv_iconst (v := nI 1) hx hb dJx4a65c_grow_d5877_5 (by decide) ?_
  refine n_iadd hx hb dJx4a65c_grow_d5877_6 ?_
  refine c_virt (As := [.int (nI (n + 1))]) (rest := []) (wc := [eo hm 5 [.int mo, .ref qe, .int (nI n)], er Z qe n f]) (wr := []) (nl := 0) hx hb hml hown hts hK hG rfl hA hl (k_growN l Z hm mo qe n f h10 hn) hW hro (hW.at 0 rfl) rfl rfl tb_277 tb_279 ts_5 tb_6 tb_280 (nA := 1) (by decide +kernel) rfl ⟨by omega, by omega⟩ ⟨by omega, by omega⟩ rfl (Nat.le_of_ble_eq_true rfl) dJx4a65c_grow_d5877_7 (fun v w1 H1 L1 hp hW hzz hkk hdd => ?_)
  obtain ⟨q, rfl, rfl⟩ := hp
  clear hzz hkk hdd
  generalize H1 = H at hW  ⊢
  generalize L1 = locs at hW ⊢
  have hW : Wd Z A s.heap ([eo hm 5 [.int mo, .ref q, .int (nI n)], er Z q (n + n / 2) (va_cpy f (fun _ => none) 0 0 n)]) _ _ := hW
  refine W.eq (g2 := F0 m 10 ls [.ref q]) rfl ?_
  exact e_ref hx hb hr (Or.inr ⟨_, rfl⟩) hlk hAe hW (by omega) (by omega) dJx4a65c_grow_d5877_10 ⟨q, rfl, rfl⟩
/-- what a list has become behind add(v) -/
def addQ (n : Nat) (v : Nat) (vd : Nat → Nat) (o2 : Option (Nat × Nat × (Nat → Option Nat))) : Prop := lok (n + 1) o2 (up vd n v)
set_option maxHeartbeats 4000000 in
set_option maxRecDepth 100000 in
theorem k_add2 (l : Launch) (Z : Zt) (hm : Nat) (mo : Int32) (n v : Nat) (o : Option (Nat × Nat × (Nat → Option Nat))) (vd : Nat → Nat) (ho : lok n o vd) (hn5 : n < 512) : MC l yJx4a65c_add_72be8 cJx4a65c_add_72be8 4 none 7 280 (1) (768) Z (lst Z hm mo n o) (fun H => (∃ fs, RO Z (lst Z hm mo n o) (eo v 2 fs) H) ∧ ∀ i, i < n → ∃ fs, RO Z (lst Z hm mo n o) (eo (vd i) 2 fs) H) [.ref hm, .ref v, .ref (lsq Z o), .int (nI n)] (fun r w1 => ∃ o2, r = none ∧ w1 = lst Z hm mo (n + 1) o2 ∧ addQ n v vd o2) := by
  refine mc_of (by decide) (Nat.le_of_ble_eq_true rfl) (fun p e s m below meth c ls A hx hb hr hts hown hlk hml hin hK hG hW hA hAe hro hl R hRf hRc hRs hRl => ?_)
  have hl : lv_has ls 4 [(0, .ref hm), (1, .ref v), (2, .ref (lsq Z o)), (3, .int (nI n))] := hl
  obtain ⟨⟨fsv, hv⟩, hvs⟩ := hro
  cases o with
  | none =>
    have hn0 : n = 0 := ho.2
    subst hn0
    have hl : lv_has ls 4 [(0, .ref hm), (1, .ref v), (2, .ref (rE Z)), (3, .int (nI 0))] := hl
    have hW : Wd Z A s.heap ([eo hm 5 [.int mo, .ref (rE Z), .int (nI 0)]] ++ []) _ _ := hW
    refine lv_iload_n hx hb dJx4a65c_add_72be8_0 rfl (lv_at hl 3 rfl) ?_
    refine lv_aload_n hx hb dJx4a65c_add_72be8_1 rfl (lv_at hl 2 rfl) ?_
    refine va_tlen hx hb hG.2.2.1 hW.2.2 (v := nI 0) (by decide) dJx4a65c_add_72be8_2 ?_
    refine n_ne_f (tgt := 11) hx hb (by omega) dJx4a65c_add_72be8_3 (by decide) ?_
    refine lv_aload_n hx hb dJx4a65c_add_72be8_6 rfl (lv_at hl 0 rfl) ?_
    refine c_virt (As := []) (rest := []) (wc := [eo hm 5 [.int mo, .ref (rE Z), .int (nI 0)]]) (wr := []) (nl := 0) hx hb hml hown hts hK hG rfl hA hl (k_grow0F l Z hm mo) hW trivial (hW.at 0 rfl) rfl rfl tb_273 tb_275 ts_4 tb_6 tb_276 (nA := 0) (by decide +kernel) rfl ⟨by omega, by omega⟩ ⟨by omega, by omega⟩ rfl (Nat.le_of_ble_eq_true rfl) dJx4a65c_add_72be8_7 (fun v w1 H1 L1 hp hW hzz hkk hdd => ?_)
    obtain ⟨q, rfl, rfl⟩ := hp
    clear hzz hkk hdd
    generalize H1 = H at hW  ⊢
    generalize L1 = locs at hW ⊢
    have hW : Wd Z A s.heap ([eo hm 5 [.int mo, .ref q, .int (nI 0)], er Z q 10 (fun _ => none)]) _ _ := hW
    refine W.eq (g2 := F0 m 10 ls [.ref q]) rfl ?_
    refine lv_astore_n (lv' := [(2, .ref q), (0, .ref hm), (1, .ref v), (3, .int (nI 0))]) hx hb dJx4a65c_add_72be8_10 rfl hl (by decide) rfl (fun ls hl => ?_)
    refine lv_aload_n hx hb dJx4a65c_add_72be8_11 rfl (lv_at hl 0 rfl) ?_
    refine lv_iload_n hx hb dJx4a65c_add_72be8_12 rfl (lv_at hl 3 rfl) ?_
    refine lv_aload_n hx hb dJx4a65c_add_72be8_13 rfl (lv_at hl 2 rfl) ?_
    refine r_aast (i := 0) hx hb hK hG.1 hW 1 rfl (hv.here hAe hW) (by omega) (by omega) dJx4a65c_add_72be8_14 (fun H locs hW => ?_)
    have hW : Wd Z A s.heap ([eo hm 5 [.int mo, .ref q, .int (nI 0)], er Z q 10 (up (fun _ => none) 0 (some v))]) _ _ := hW
    refine lv_aload_n hx hb dJx4a65c_add_72be8_15 rfl (lv_at hl 1 rfl) ?_
    refine lv_iload_n hx hb dJx4a65c_add_72be8_16 rfl (lv_at hl 3 rfl) ?_
    refine lv_iconst (v := nI 1) hx hb dJx4a65c_add_72be8_17 (by decide) ?_
    refine n_iadd hx hb dJx4a65c_add_72be8_18 ?_
    refine r_put hx hb hts hown hK hW 0 (v := .int (nI (0 + 1))) rfl rfl in_J tyJx4a65c tyJx4a65c_ok nmJx4a65c 2 (by decide) tb_86 (fun _ h => h) rfl rfl rfl (Nat.le_of_ble_eq_true rfl) dJx4a65c_add_72be8_19 (fun H locs hW => ?_)
    have hW : Wd Z A s.heap ([eo hm 5 [.int mo, .ref q, .int (nI (0 + 1))], er Z q 10 (up (fun _ => none) 0 (some v))]) _ _ := hW
    refine e_void hx hb hr hlk hAe hW (by omega) (by omega) dJx4a65c_add_72be8_22 ⟨some (q, 10, up (fun _ => none) 0 (some v)), rfl, rfl, by omega, by show 0 + 1 ≤ 10; omega, by show 10 ≤ 768; omega, by show 10 ≤ 10; omega, fun i hi => ?_, fun i hi => ?_⟩
    · show up (fun _ => none) 0 (some v) i = some (up vd 0 v i)
      rw [show i = 0 by omega, up_s, up_s]
    · show up (fun _ => none) 0 (some v) i = none
      exact up_n _ _ (by omega)
  | some a =>
    obtain ⟨qe, ce, f⟩ := a
    obtain ⟨ho1, h1, h2, h3, h4, h5⟩ := ho
    dsimp only at h1 h2 h3 h4 h5
    have hl : lv_has ls 4 [(0, .ref hm), (1, .ref v), (2, .ref qe), (3, .int (nI n))] := hl
    have hW : Wd Z A s.heap ([eo hm 5 [.int mo, .ref qe, .int (nI n)], er Z qe ce f] ++ []) _ _ := hW
    refine lv_iload_n hx hb dJx4a65c_add_72be8_0 rfl (lv_at hl 3 rfl) ?_
    refine lv_aload_n hx hb dJx4a65c_add_72be8_1 rfl (lv_at hl 2 rfl) ?_
    refine r_lenr hx hb hK (hW.at 1 rfl) dJx4a65c_add_72be8_2 ?_
    by_cases hfull : n = ce
    · refine n_ne_f (tgt := 11) hx hb (by omega) dJx4a65c_add_72be8_3 (by decide) ?_
      subst hfull
      refine lv_aload_n hx hb dJx4a65c_add_72be8_6 rfl (lv_at hl 0 rfl) ?_
      refine c_virt (As := []) (rest := []) (wc := [eo hm 5 [.int mo, .ref qe, .int (nI n)], er Z qe n f]) (wr := []) (nl := 0) hx hb hml hown hts hK hG rfl hA hl (k_grow0N l Z hm mo qe n f h3 (by omega)) hW (fun i hi y hy => by rw [h4 i hi] at hy; cases hy; obtain ⟨fs, g⟩ := hvs i hi; exact ⟨fs, g⟩) (hW.at 0 rfl) rfl rfl tb_273 tb_275 ts_4 tb_6 tb_276 (nA := 0) (by decide +kernel) rfl ⟨by omega, by omega⟩ ⟨by omega, by omega⟩ rfl (Nat.le_of_ble_eq_true rfl) dJx4a65c_add_72be8_7 (fun v w1 H1 L1 hp hW hzz hkk hdd => ?_)
      obtain ⟨q, rfl, rfl⟩ := hp
      clear hzz hkk hdd
      generalize H1 = H at hW  ⊢
      generalize L1 = locs at hW ⊢
      have hW : Wd Z A s.heap ([eo hm 5 [.int mo, .ref q, .int (nI n)], er Z q (n + n / 2) (va_cpy f (fun _ => none) 0 0 n)]) _ _ := hW
      refine W.eq (g2 := F0 m 10 ls [.ref q]) rfl ?_
      refine lv_astore_n (lv' := [(2, .ref q), (0, .ref hm), (1, .ref v), (3, .int (nI n))]) hx hb dJx4a65c_add_72be8_10 rfl hl (by decide) rfl (fun ls hl => ?_)
      refine lv_aload_n hx hb dJx4a65c_add_72be8_11 rfl (lv_at hl 0 rfl) ?_
      refine lv_iload_n hx hb dJx4a65c_add_72be8_12 rfl (lv_at hl 3 rfl) ?_
      refine lv_aload_n hx hb dJx4a65c_add_72be8_13 rfl (lv_at hl 2 rfl) ?_
      refine r_aast (i := n) hx hb hK hG.1 hW 1 rfl (hv.here hAe hW) (by omega) (by omega) dJx4a65c_add_72be8_14 (fun H locs hW => ?_)
      have hW : Wd Z A s.heap ([eo hm 5 [.int mo, .ref q, .int (nI n)], er Z q (n + n / 2) (up (va_cpy f (fun _ => none) 0 0 n) n (some v))]) _ _ := hW
      refine lv_aload_n hx hb dJx4a65c_add_72be8_15 rfl (lv_at hl 1 rfl) ?_
      refine lv_iload_n hx hb dJx4a65c_add_72be8_16 rfl (lv_at hl 3 rfl) ?_
      refine lv_iconst (v := nI 1) hx hb dJx4a65c_add_72be8_17 (by decide) ?_
      refine n_iadd hx hb dJx4a65c_add_72be8_18 ?_
      refine r_put hx hb hts hown hK hW 0 (v := .int (nI (n + 1))) rfl rfl in_J tyJx4a65c tyJx4a65c_ok nmJx4a65c 2 (by decide) tb_86 (fun _ h => h) rfl rfl rfl (Nat.le_of_ble_eq_true rfl) dJx4a65c_add_72be8_19 (fun H locs hW => ?_)
      have hW : Wd Z A s.heap ([eo hm 5 [.int mo, .ref q, .int (nI (n + 1))], er Z q (n + n / 2) (up (va_cpy f (fun _ => none) 0 0 n) n (some v))]) _ _ := hW
      refine e_void hx hb hr hlk hAe hW (by omega) (by omega) dJx4a65c_add_72be8_22 ⟨some (q, n + n / 2, up (va_cpy f (fun _ => none) 0 0 n) n (some v)), rfl, rfl, by omega, by show n + 1 ≤ n + n / 2; omega, by show n + n / 2 ≤ 768; omega, by show 10 ≤ n + n / 2; omega, fun i hi => ?_, fun i hi => ?_⟩
      · show up (va_cpy f (fun _ => none) 0 0 n) n (some v) i = some (up vd n v i)
        by_cases e : i = n
        · subst e; rw [up_s, up_s]
        · rw [up_n _ _ e, up_n _ _ e, pk_cpy_in (by omega) (by omega), Nat.zero_add, Nat.sub_zero]; exact h4 i (by omega)
      · show up (va_cpy f (fun _ => none) 0 0 n) n (some v) i = none
        rw [up_n _ _ (by omega), pk_cpy_out (by omega)]
    · refine n_ne_t (tgt := 11) hx hb (by omega) (by omega) (by omega) dJx4a65c_add_72be8_3 (by decide) ?_
      refine lv_aload_n hx hb dJx4a65c_add_72be8_11 rfl (lv_at hl 2 rfl) ?_
      refine lv_iload_n hx hb dJx4a65c_add_72be8_12 rfl (lv_at hl 3 rfl) ?_
      refine lv_aload_n hx hb dJx4a65c_add_72be8_13 rfl (lv_at hl 1 rfl) ?_
      refine r_aast (i := n) hx hb hK hG.1 hW 1 rfl (hv.here hAe hW) (by omega) (by omega) dJx4a65c_add_72be8_14 (fun H locs hW => ?_)
      have hW : Wd Z A s.heap ([eo hm 5 [.int mo, .ref qe, .int (nI n)], er Z qe ce (up f n (some v))]) _ _ := hW
      refine lv_aload_n hx hb dJx4a65c_add_72be8_15 rfl (lv_at hl 0 rfl) ?_
      refine lv_iload_n hx hb dJx4a65c_add_72be8_16 rfl (lv_at hl 3 rfl) ?_
      refine lv_iconst (v := nI 1) hx hb dJx4a65c_add_72be8_17 (by decide) ?_
      refine n_iadd hx hb dJx4a65c_add_72be8_18 ?_
      refine r_put hx hb hts hown hK hW 0 (v := .int (nI (n + 1))) rfl rfl in_J tyJx4a65c tyJx4a65c_ok nmJx4a65c 2 (by decide) tb_86 (fun _ h => h) rfl rfl rfl (Nat.le_of_ble_eq_true rfl) dJx4a65c_add_72be8_19 (fun H locs hW => ?_)
      have hW : Wd Z A s.heap ([eo hm 5 [.int mo, .ref qe, .int (nI (n + 1))], er Z qe ce (up f n (some v))]) _ _ := hW
      refine e_void hx hb hr hlk hAe hW (by omega) (by omega) dJx4a65c_add_72be8_22 ⟨some (qe, ce, up f n (some v)), rfl, rfl, by omega, by show n + 1 ≤ ce; omega, h2, h3, fun i hi => ?_, fun i hi => ?_⟩
      · show up f n (some v) i = some (up vd n v i)
        by_cases e : i = n
        · subst e; rw [up_s, up_s]
        · rw [up_n _ _ e, up_n _ _ e]; exact h4 i (by omega)
      · show up f n (some v) i = none
        rw [up_n _ _ (by omega)]; exact h5 i (by omega)
set_option maxHeartbeats 4000000 in
set_option maxRecDepth 100000 in
theorem k_add (l : Launch) (Z : Zt) (hm : Nat) (mo : Int32) (n v : Nat) (o : Option (Nat × Nat × (Nat → Option Nat))) (vd : Nat → Nat) (ho : lok n o vd) (hn5 : n < 512) : MC l yJx4a65c_add_9ea2d cJx4a65c_add_9ea2d 2 (some .boolean) 8 320 (1) (768) Z (lst Z hm mo n o) (fun H => (∃ fs, RO Z (lst Z hm mo n o) (eo v 2 fs) H) ∧ ∀ i, i < n → ∃ fs, RO Z (lst Z hm mo n o) (eo (vd i) 2 fs) H) [.ref hm, .ref v] (fun r w1 => ∃ o2, r = some (.int (nI 1)) ∧ w1 = lst Z hm (mo + nI 1) (n + 1) o2 ∧ addQ n v vd o2) := by
  refine mc_of (by decide) (Nat.le_of_ble_eq_true rfl) (fun p e s m below meth c ls A hx hb hr hts hown hlk hml hin hK hG hW hA hAe hro hl R hRf hRc hRs hRl => ?_)
  have hl : lv_has ls 2 [(0, .ref hm), (1, .ref v)] := hl
  refine lv_aload_n hx hb dJx4a65c_add_9ea2d_0 rfl (lv_at hl 0 rfl) ?_
  refine lv_dup hx hb dJx4a65c_add_9ea2d_1 rfl ?_
  refine r_get hx hb hts hown hK (hW.at 0 rfl) rfl in_J 0 (by decide) tb_88 (same_mod hts) rfl dJx4a65c_add_9ea2d_2 ?_
  refine lv_iconst (v := nI 1) hx hb dJx4a65c_add_9ea2d_5 (by decide) ?_
  refine lv_iadd hx hb dJx4a65c_add_9ea2d_6 ?_
  refine r_put hx hb hts hown hK hW 0 (v := .int (mo + (nI 1))) rfl rfl in_J tyJx4a65c tyJx4a65c_ok nmJx4a65c 0 (by decide) tb_88 (same_mod hts) rfl rfl rfl (Nat.le_of_ble_eq_true rfl) dJx4a65c_add_9ea2d_7 (fun H locs hW => ?_)
  have hW : Wd Z A s.heap ([eo hm 5 [.int (mo + (nI 1)), .ref (lsq Z o), .int (nI n)]] ++ lsr Z o) _ _ := hW
  have hW : Wd Z A s.heap (lst Z hm (mo + nI 1) n o ++ []) _ _ := Wd.nil (ws := lst Z hm (mo + nI 1) n o) hW
  refine lv_aload_n hx hb dJx4a65c_add_9ea2d_10 rfl (lv_at hl 0 rfl) ?_
  refine lv_aload_n hx hb dJx4a65c_add_9ea2d_11 rfl (lv_at hl 1 rfl) ?_
  refine lv_aload_n hx hb dJx4a65c_add_9ea2d_12 rfl (lv_at hl 0 rfl) ?_
  refine r_get hx hb hts hown hK (hW.at 0 rfl) rfl in_J 1 (by decide) tb_85 (fun _ h => h) rfl dJx4a65c_add_9ea2d_13 ?_
  refine lv_aload_n hx hb dJx4a65c_add_9ea2d_16 rfl (lv_at hl 0 rfl) ?_
  refine r_get hx hb hts hown hK (hW.at 0 rfl) rfl in_J 2 (by decide) tb_86 (fun _ h => h) rfl dJx4a65c_add_9ea2d_17 ?_
  have mv : ∀ q : Nat × va_E, RO Z (lst Z hm mo n o) q s.heap → RO Z (lst Z hm (mo + nI 1) n o) q _ := fun q h => RO.pass h hAe hW
  refine c_virt (As := [.ref v, .ref (lsq Z o), .int (nI n)]) (rest := []) (wc := lst Z hm (mo + nI 1) n o) (wr := []) (nl := 0) hx hb hml hown hts hK hG rfl hA hl (k_add2 l Z hm (mo + nI 1) n v o vd ho hn5) hW ⟨hro.1.elim fun fs h => ⟨fs, mv _ h⟩, fun i hi => (hro.2 i hi).elim fun fs h => ⟨fs, mv _ h⟩⟩ (hW.at 0 rfl) rfl rfl tb_269 tb_271 ts_3 tb_6 tb_272 (nA := 3) (by decide +kernel) rfl ⟨by omega, by omega⟩ ⟨by omega, by omega⟩ rfl (Nat.le_of_ble_eq_true rfl) dJx4a65c_add_9ea2d_20 (fun v w1 H1 L1 hp hW hzz hkk hdd => ?_)
  obtain ⟨o2, rfl, rfl, ha⟩ := hp
  clear hzz hkk hdd
  generalize H1 = H at hW  ⊢
  generalize L1 = locs at hW ⊢
  have hW : Wd Z A s.heap (lst Z hm (mo + nI 1) (n + 1) o2) _ _ := Wd.unnil hW
  refine W.eq (g2 := F0 m 23 ls []) rfl ?_
  refine lv_iconst (v := nI 1) hx hb dJx4a65c_add_9ea2d_23 (by decide) ?_
  exact e_bool hx hb hr hlk hAe hW (by omega) (by omega) (by decide) dJx4a65c_add_9ea2d_24 ⟨o2, rfl, rfl, ha⟩
set_option maxHeartbeats 4000000 in
set_option maxRecDepth 100000 in
theorem k_AbstractCollection (l : Launch) (Z : Zt) (hm : Nat)  : MC l yJxa1e45_init_da8c8 cJxa1e45_init_da8c8 1 none 1 40 (0) (0) Z ([eo hm 5 [.int 0, .null, .int 0]]) (fun _ => True) [.ref hm] (fun v w1 => v = none ∧ w1 = [eo hm 5 [.int 0, .null, .int 0]]) := by
  refine mc_of (by decide) (Nat.le_of_ble_eq_true rfl) (fun p e s m below meth c ls A hx hb hr hts hown hlk hml hin hK hG hW hA hAe hro hl R hRf hRc hRs hRl => ?_)
  have hl : lv_has ls 1 [(0, .ref hm)] := hl
  refine lv_aload_n hx hb dJxa1e45_init_da8c8_0 rfl (lv_at hl 0 rfl) ?_
  refine W.objInit hx hb hown (hts _ tb_82) (hts _ tb_oi2) (hts _ tb_oi3) rfl (hl.1.trans hml.symm) rfl dJxa1e45_init_da8c8_1 (by omega) (by rw [hRl]; exact Nat.le_of_ble_eq_true rfl) ?_
  refine W.eq (g2 := F0 m 4 ls []) rfl ?_
  exact e_void hx hb hr hlk hAe hW (by omega) (by omega) dJxa1e45_init_da8c8_4 ⟨rfl, rfl⟩
set_option maxHeartbeats 4000000 in
set_option maxRecDepth 100000 in
theorem k_AbstractList (l : Launch) (Z : Zt) (hm : Nat)  : MC l yJxc12de_init_da8c8 cJxc12de_init_da8c8 1 none 2 80 (0) (0) Z ([eo hm 5 [.int 0, .null, .int 0]]) (fun _ => True) [.ref hm] (fun v w1 => v = none ∧ w1 = [eo hm 5 [.int (nI 0), .null, .int 0]]) := by
  refine mc_of (by decide) (Nat.le_of_ble_eq_true rfl) (fun p e s m below meth c ls A hx hb hr hts hown hlk hml hin hK hG hW hA hAe hro hl R hRf hRc hRs hRl => ?_)
  have hl : lv_has ls 1 [(0, .ref hm)] := hl
  have hW : Wd Z A s.heap ([eo hm 5 [.int 0, .null, .int 0]] ++ []) _ _ := hW
  refine lv_aload_n hx hb dJxc12de_init_da8c8_0 rfl (lv_at hl 0 rfl) ?_
  refine c_spec (b := hm) (As := []) (rest := []) (wc := [eo hm 5 [.int 0, .null, .int 0]]) (wr := []) hx hb hml hown hts hK hG rfl hA hl (k_AbstractCollection l Z hm) hW trivial tb_79 tb_80 tb_4 tb_81 rfl (nA := 0) (by decide +kernel) rfl ⟨by omega, by omega⟩ ⟨by omega, by omega⟩ rfl (Nat.le_of_ble_eq_true rfl) dJxc12de_init_da8c8_1 (fun v w1 H1 L1 hp hW hzz hkk hdd => ?_)
  obtain ⟨rfl, rfl⟩ := hp
  clear hzz hkk hdd
  generalize H1 = H at hW  ⊢
  generalize L1 = locs at hW ⊢
  have hW : Wd Z A s.heap ([eo hm 5 [.int 0, .null, .int 0]]) _ _ := hW
  refine W.eq (g2 := F0 m 4 ls []) rfl ?_
  refine lv_aload_n hx hb dJxc12de_init_da8c8_4 rfl (lv_at hl 0 rfl) ?_
  refine lv_iconst (v := nI 0) hx hb dJxc12de_init_da8c8_5 (by decide) ?_
  refine r_put hx hb hts hown hK hW 0 (v := .int (nI 0)) rfl rfl in_J tyJx4a65c tyJx4a65c_ok nmJx4a65c 0 (by decide) tb_87 (fun _ h => h) rfl rfl rfl (Nat.le_of_ble_eq_true rfl) dJxc12de_init_da8c8_6 (fun H locs hW => ?_)
  have hW : Wd Z A s.heap ([eo hm 5 [.int (nI 0), .null, .int 0]]) _ _ := hW
  exact e_void hx hb hr hlk hAe hW (by omega) (by omega) dJxc12de_init_da8c8_9 ⟨rfl, rfl⟩
set_option maxHeartbeats 4000000 in
set_option maxRecDepth 100000 in
theorem k_ArrayList (l : Launch) (Z : Zt) (hm : Nat)  : MC l yJx4a65c_init_da8c8 cJx4a65c_init_da8c8 1 none 3 120 (0) (0) Z ([eo hm 5 [.int 0, .null, .int 0]]) (fun _ => True) [.ref hm] (fun v w1 => v = none ∧ w1 = lst Z hm (nI 0) 0 none) := by
  refine mc_of (by decide) (Nat.le_of_ble_eq_true rfl) (fun p e s m below meth c ls A hx hb hr hts hown hlk hml hin hK hG hW hA hAe hro hl R hRf hRc hRs hRl => ?_)
  have hl : lv_has ls 1 [(0, .ref hm)] := hl
  have hW : Wd Z A s.heap ([eo hm 5 [.int 0, .null, .int 0]] ++ []) _ _ := hW
  refine lv_aload_n hx hb dJx4a65c_init_da8c8_0 rfl (lv_at hl 0 rfl) ?_
  refine c_spec (b := hm) (As := []) (rest := []) (wc := [eo hm 5 [.int 0, .null, .int 0]]) (wr := []) hx hb hml hown hts hK hG rfl hA hl (k_AbstractList l Z hm) hW trivial tb_76 tb_77 tb_5 tb_78 rfl (nA := 0) (by decide +kernel) rfl ⟨by omega, by omega⟩ ⟨by omega, by omega⟩ rfl (Nat.le_of_ble_eq_true rfl) dJx4a65c_init_da8c8_1 (fun v w1 H1 L1 hp hW hzz hkk hdd => ?_)
  obtain ⟨rfl, rfl⟩ := hp
  clear hzz hkk hdd
  generalize H1 = H at hW  ⊢
  generalize L1 = locs at hW ⊢
  have hW : Wd Z A s.heap ([eo hm 5 [.int (nI 0), .null, .int 0]]) _ _ := hW
  refine W.eq (g2 := F0 m 4 ls []) rfl ?_
  refine lv_aload_n hx hb dJx4a65c_init_da8c8_4 rfl (lv_at hl 0 rfl) ?_
  refine va_gets hx hb hG.2.1 hW.2.2 hown (hts _ tb_83) (fun _ h => h) dJx4a65c_init_da8c8_5 ?_
  refine r_put hx hb hts hown hK hW 0 (v := .ref (rE Z)) rfl rfl in_J tyJx4a65c tyJx4a65c_ok nmJx4a65c 1 (by decide) tb_85 (fun _ h => h) rfl rfl rfl (Nat.le_of_ble_eq_true rfl) dJx4a65c_init_da8c8_8 (fun H locs hW => ?_)
  have hW : Wd Z A s.heap ([eo hm 5 [.int (nI 0), .ref (rE Z), .int 0]]) _ _ := hW
  have hW : Wd Z A s.heap (lst Z hm (nI 0) 0 none) _ _ := hW
  exact e_void hx hb hr hlk hAe hW (by omega) (by omega) dJx4a65c_init_da8c8_11 ⟨rfl, rfl⟩
set_option maxHeartbeats 4000000 in
set_option maxRecDepth 100000 in
theorem k_Vector (l : Launch) (Z : Zt) (v q : Nat) (st : Nat) (hst : st ≤ 1) : MC l yX2_init cX2_init 3 none 1 40 (0) (0) Z ([eo v 2 [.null, .int 0]]) (fun _ => True) [.ref v, .ref q, .int (nI st)] (fun r w1 => r = none ∧ w1 = [eo v 2 [.ref q, .int (nI st)]]) := by
  refine mc_of (by decide) (Nat.le_of_ble_eq_true rfl) (fun p e s m below meth c ls A hx hb hr hts hown hlk hml hin hK hG hW hA hAe hro hl R hRf hRc hRs hRl => ?_)
  have hl : lv_has ls 3 [(0, .ref v), (1, .ref q), (2, .int (nI st))] := hl
  refine lv_aload_n hx hb dX2_init_0 rfl (lv_at hl 0 rfl) ?_
  refine W.objInit hx hb hown (hts _ tb_251) (hts _ tb_oi2) (hts _ tb_oi3) rfl (hl.1.trans hml.symm) rfl dX2_init_1 (by omega) (by rw [hRl]; exact Nat.le_of_ble_eq_true rfl) ?_
  refine W.eq (g2 := F0 m 4 ls []) rfl ?_
  refine lv_aload_n hx hb dX2_init_4 rfl (lv_at hl 0 rfl) ?_
  refine lv_aload_n hx hb dX2_init_5 rfl (lv_at hl 1 rfl) ?_
  refine r_putF hx hb hts hown hK hW 0 (v := .ref q) rfl rfl in_X2 tyX2 tyX2_ok nmX2 0 (by decide) tb_252 (fun _ h => h) rfl hin rfl rfl rfl (Nat.le_of_ble_eq_true rfl) dX2_init_6 (fun H locs hW => ?_)
  have hW : Wd Z A s.heap ([eo v 2 [.ref q, .int 0]]) _ _ := hW
  refine lv_aload_n hx hb dX2_init_9 rfl (lv_at hl 0 rfl) ?_
  refine lv_iload_n hx hb dX2_init_10 rfl (lv_at hl 2 rfl) ?_
  have hnb : narrow .boolean (.int (nI st)) = .int (nI st) ∧ fits .boolean (.int (nI st)) = true := by rcases (show st = 0 ∨ st = 1 by omega) with h | h <;> subst h <;> decide
  refine r_putF hx hb hts hown hK hW 0 (v := .int (nI st)) rfl rfl in_X2 tyX2 tyX2_ok nmX2 1 (by decide) tb_254 (fun _ h => h) rfl hin rfl hnb.1 hnb.2 (Nat.le_of_ble_eq_true rfl) dX2_init_11 (fun H locs hW => ?_)
  have hW : Wd Z A s.heap ([eo v 2 [.ref q, .int (nI st)]]) _ _ := hW
  exact e_void hx hb hr hlk hAe hW (by omega) (by omega) dX2_init_14 ⟨rfl, rfl⟩
