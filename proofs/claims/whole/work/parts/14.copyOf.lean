set_option maxHeartbeats 4000000 in
set_option maxRecDepth 100000 in
/-- Arrays.copyOf of an int array -/
theorem k_copyOf (l : Launch) (Z : Zt) (a n k : Nat) (r : Nat → Nat) (hn : n ≤ 1000000) (hk : k ≤ 1000000) : MC l yJ7_copyOf_59c91 cJ7_copyOf_59c91 3 (some (.array .int)) 2 80 (1) (k) Z ([]) (fun H => zat Z (ea Z a n r) H) [.ref a, .int (nI k)] (fun v w1 => ∃ (q : Nat) (f : Nat → Nat), v = some (.ref q) ∧ w1 = [ea Z q k f] ∧ ∀ j, j < k → f j = if j < n then r j else 0) := by
  refine mc_of (by decide) (Nat.le_of_ble_eq_true rfl) (fun p e s m below meth c ls A hx hb hr hts hown hlk hml hin hK hG hW hA hAe hro hl R hRf hRc hRs hRl => ?_)
  have hl : lv_has ls 3 [(0, .ref a), (1, .int (nI k))] := hl
  refine lv_iload_n hx hb dJ7_copyOf_59c91_0 rfl (lv_at hl 1 rfl) ?_
  refine lv_aload_n hx hb dJ7_copyOf_59c91_1 rfl (lv_at hl 0 rfl) ?_
  refine r_len hx hb hK ((RO.nil hro).here hAe hW) dJ7_copyOf_59c91_2 ?_
  by_cases hkn : k = n
  · refine n_ne_f (tgt := 14) hx hb (by omega) dJ7_copyOf_59c91_3 (by decide) ?_
    refine lv_aload_n hx hb dJ7_copyOf_59c91_6 rfl (lv_at hl 0 rfl) ?_
    refine r_clone hx hb hml hl hown hts hK hG.1 hW hA ((RO.nil hro).here hAe hW) (by omega) (by rw [hRl]; exact Nat.le_of_ble_eq_true rfl) (by omega) (by omega) dJ7_copyOf_59c91_7 (fun q H hW => ?_)
    refine va_castA (D := Z.1) (ws := [ea Z q n r]) hx hb hown (hts _ tb_239) hW.1 0 rfl (va_nm_int (hK.2 0 _ rfl).2) dJ7_copyOf_59c91_10 ?_
    subst hkn
    exact e_ref hx hb hr (Or.inr ⟨_, rfl⟩) hlk hAe hW (by omega) (by omega) dJ7_copyOf_59c91_13 ⟨q, r, rfl, rfl, fun j hj => by rw [if_pos hj]⟩
  · refine n_ne_t (tgt := 14) hx hb (by omega) (by omega) (by omega) dJ7_copyOf_59c91_3 (by decide) ?_
    refine lv_iload_n hx hb dJ7_copyOf_59c91_14 rfl (lv_at hl 1 rfl) ?_
    refine r_newa (n := k) hx hb hts tb_65 hK hW hA (by omega) (by omega) (by omega) dJ7_copyOf_59c91_15 (fun q H hW hsz_q hq_q => ?_)
    have hW : Wd Z A s.heap ([ea Z q k (fun _ => 0)]) _ _ := hW
    refine lv_astore_n (lv' := [(2, .ref q), (0, .ref a), (1, .int (nI k))]) hx hb dJ7_copyOf_59c91_17 rfl hl (by decide) rfl (fun ls hl => ?_)
    refine lv_aload_n hx hb dJ7_copyOf_59c91_18 rfl (lv_at hl 1 rfl) ?_
    refine lv_iconst (v := nI 0) hx hb dJ7_copyOf_59c91_19 (by decide) ?_
    refine lv_aload_n hx hb dJ7_copyOf_59c91_20 rfl (lv_at hl 0 rfl) ?_
    refine lv_iconst (v := nI 0) hx hb dJ7_copyOf_59c91_21 (by decide) ?_
    refine lv_aload_n hx hb dJ7_copyOf_59c91_22 rfl (lv_at hl 1 rfl) ?_
    refine r_len hx hb hK ((RO.nil hro).here hAe hW) dJ7_copyOf_59c91_23 ?_
    refine lv_iload_n hx hb dJ7_copyOf_59c91_24 rfl (lv_at hl 2 rfl) ?_
    refine n_min hx hb hml hl hown hts tb_240 (by omega) (by rw [hRl]; exact Nat.le_of_ble_eq_true rfl) (by omega) (by omega) (x := n) (y := k) (by omega) (by omega) dJ7_copyOf_59c91_25 ?_
    refine r_copy hx hb hml hl hown hts hK hW tb_243 (f := r) (n0 := n) (sp := 0) (dp := 0) (n := min n k) ((RO.nil hro).here hAe hW) 0 rfl (by omega) (by omega) (by omega) (by omega) (by omega) (by rw [hRl]; exact Nat.le_of_ble_eq_true rfl) dJ7_copyOf_59c91_28 (fun H locs hW => ?_)
    have hW : Wd Z A s.heap ([ea Z q k (va_cpy r (fun _ => 0) 0 0 (min n k))]) _ _ := hW
    refine lv_aload_n hx hb dJ7_copyOf_59c91_31 rfl (lv_at hl 0 rfl) ?_
    refine e_ref hx hb hr (Or.inr ⟨_, rfl⟩) hlk hAe hW (by omega) (by omega) dJ7_copyOf_59c91_32 ⟨q, _, rfl, rfl, fun j hj => ?_⟩
    show (if 0 ≤ j ∧ j < 0 + min n k then r (0 + (j - 0)) else 0) = _
    by_cases h : j < n
    · rw [if_pos h, if_pos (by omega)]; simp
    · rw [if_neg h, if_neg (by omega)]
