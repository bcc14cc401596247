theorem i_lt (x : Int32) {n : Nat} (hn : n < 2 ^ 31) : x < nI n ↔ x.toInt < n := by rw [Int32.lt_iff_toInt_lt, nI_toInt hn]
theorem i_le (x : Int32) {n : Nat} (hn : n < 2 ^ 31) : x ≤ nI n ↔ x.toInt ≤ n := by rw [Int32.le_iff_toInt_le, nI_toInt hn]
theorem i_ge (x : Int32) {n : Nat} (hn : n < 2 ^ 31) : nI n ≤ x ↔ (n : Int) ≤ x.toInt := by rw [Int32.le_iff_toInt_le, nI_toInt hn]
theorem i_gt (x : Int32) {n : Nat} (hn : n < 2 ^ 31) : nI n < x ↔ (n : Int) < x.toInt := by rw [Int32.lt_iff_toInt_lt, nI_toInt hn]
theorem i_neg (x : Int32) : x < 0 ↔ x.toInt < 0 := by rw [Int32.lt_iff_toInt_lt, Int32.toInt_zero]
theorem i_nat {x : Int32} (h : 0 ≤ x.toInt) : ∃ j : Nat, j < 2 ^ 31 ∧ x = nI j ∧ x.toInt = j := by
  obtain ⟨j, hj, e⟩ := nI_of (x := x) (fun q => by rw [i_neg] at q; omega)
  exact ⟨j, hj, e, by rw [e, nI_toInt hj]⟩
theorem i_toInt {j : Nat} (h : j < 2 ^ 31) : (nI j).toInt = j := nI_toInt h
/-- a width; a kind up to k; a vector's number below n -/
def wid (x : Int32) : Prop := ∃ w : Nat, 1 ≤ w ∧ w ≤ 64 ∧ x = nI w
def knd (x : Int32) (k : Nat) : Prop := ∃ j : Nat, j ≤ k ∧ x = nI j
theorem wid_iff (x : Int32) : wid x ↔ 1 ≤ x.toInt ∧ x.toInt ≤ 64 := by
  constructor
  · rintro ⟨w, h1, h2, rfl⟩
    rw [i_toInt (by omega)]; omega
  · rintro ⟨h1, h2⟩
    obtain ⟨j, hj, e, ej⟩ := i_nat (x := x) (by omega)
    exact ⟨j, by omega, by omega, e⟩
theorem knd_iff (x : Int32) {k : Nat} (hk : k < 2 ^ 30) : knd x k ↔ 0 ≤ x.toInt ∧ x.toInt ≤ k := by
  constructor
  · rintro ⟨w, h1, rfl⟩
    rw [i_toInt (by omega)]; omega
  · rintro ⟨h1, h2⟩
    obtain ⟨j, hj, e, ej⟩ := i_nat (x := x) h1
    exact ⟨j, by omega, e⟩
def vix (x : Int32) (n : Nat) : Prop := ∃ i : Nat, i < n ∧ x = nI i
theorem vix_iff (x : Int32) {n : Nat} (hn : n < 2 ^ 30) : vix x n ↔ 0 ≤ x.toInt ∧ x.toInt < n := by
  constructor
  · rintro ⟨w, h1, rfl⟩
    rw [i_toInt (by omega)]; omega
  · rintro ⟨h1, h2⟩
    obtain ⟨j, hj, e, ej⟩ := i_nat (x := x) h1
    exact ⟨j, by omega, e⟩
theorem sm_step {H0 H H1 : Heap} (hz : H0.size ≤ H.size) (hk : ∀ q : Nat, q < H.size → ¬ va_A [] H.size q → H1[q]? = H[q]?) (h : ∀ q : Nat, q < H0.size → H[q]? = H0[q]?) : ∀ q : Nat, q < H0.size → H1[q]? = H0[q]? := fun q hq => (hk q (by omega) (fun g => by
  rcases g with ⟨k, e, g⟩ | g
  · simp at g
  · omega)).trans (h q hq)
set_option maxHeartbeats 4000000 in
set_option maxRecDepth 100000 in
theorem k_needWidth (l : Launch) (hst : l.stackTraces = false) (Z : Zt) (xw : Int32)  : MX l yX3_needWidth cX3_needWidth 1 none 6 90 (1) (6) Z ([]) (fun _ => True) [.int xw] (fun v w1 => v = none ∧ w1 = [] ∧ wid xw) (fun E => E = IAE ∧ ¬ wid xw) := by
  refine mx_of (by decide) (Nat.le_of_ble_eq_true rfl) (fun p e s m below meth c ls A hx hb hr hts hown hlk hml hex hK hG hW hA hAe hro hl R hRf hRc hRs hRl => ?_)
  have hl : lv_has ls 1 [(0, .int xw)] := hl
  have hsm : ∀ q : Nat, q < s.heap.size → s.heap[q]? = s.heap[q]? := fun _ _ => rfl
  refine lv_iload_n hx hb dX3_needWidth_0 rfl (lv_at hl 0 rfl) ?_
  refine lv_iconst (v := nI 1) hx hb dX3_needWidth_1 (by decide) ?_
  refine lv_icmp_lt (tgt := 11) hx hb dX3_needWidth_2 (by decide) (fun q1 => ?_) (fun q1 => ?_)
  all_goals rw [i_lt _ (by decide)] at q1
  · exact th_IAE hx hb hst hown hts hG hW hml hl hex hlk (is := 144) (text := "a width is 1 .. 64") (by decide) dX3_needWidth_11 dX3_needWidth_14 dX3_needWidth_15 dX3_needWidth_17 dX3_needWidth_20 (by omega) (by rw [hRl]; exact Nat.le_of_ble_eq_true rfl) (by omega) (by omega) ⟨rfl, fun h => by rw [wid_iff] at h; omega⟩ hsm (by omega) (by omega)
  · refine lv_iload_n hx hb dX3_needWidth_5 rfl (lv_at hl 0 rfl) ?_
    refine lv_bipush (v := nI 64) hx hb dX3_needWidth_6 (by decide) ?_
    refine lv_icmp_le (tgt := 21) hx hb dX3_needWidth_8 (by decide) (fun q2 => ?_) (fun q2 => ?_)
    all_goals rw [i_le _ (by decide)] at q2
    · exact vx_ret (e_void hx hb hr hlk hAe hW (by omega) (by omega) dX3_needWidth_21 ⟨rfl, rfl, (wid_iff _).mpr (by omega)⟩)
    · exact th_IAE hx hb hst hown hts hG hW hml hl hex hlk (is := 144) (text := "a width is 1 .. 64") (by decide) dX3_needWidth_11 dX3_needWidth_14 dX3_needWidth_15 dX3_needWidth_17 dX3_needWidth_20 (by omega) (by rw [hRl]; exact Nat.le_of_ble_eq_true rfl) (by omega) (by omega) ⟨rfl, fun h => by rw [wid_iff] at h; omega⟩ hsm (by omega) (by omega)
set_option maxHeartbeats 4000000 in
set_option maxRecDepth 100000 in
theorem k_needKind (l : Launch) (hst : l.stackTraces = false) (Z : Zt) (xk : Int32) (last : Nat) (hlast : last < 1000) : MX l yX3_needKind cX3_needKind 2 none 6 90 (1) (6) Z ([]) (fun _ => True) [.int xk, .int (nI last)] (fun v w1 => v = none ∧ w1 = [] ∧ knd xk last) (fun E => E = IAE ∧ ¬ knd xk last) := by
  refine mx_of (by decide) (Nat.le_of_ble_eq_true rfl) (fun p e s m below meth c ls A hx hb hr hts hown hlk hml hex hK hG hW hA hAe hro hl R hRf hRc hRs hRl => ?_)
  have hl : lv_has ls 2 [(0, .int xk), (1, .int (nI last))] := hl
  have hsm : ∀ q : Nat, q < s.heap.size → s.heap[q]? = s.heap[q]? := fun _ _ => rfl
  refine lv_iload_n hx hb dX3_needKind_0 rfl (lv_at hl 0 rfl) ?_
  refine lv_if_lt (tgt := 9) hx hb dX3_needKind_1 (by decide) (fun q1 => ?_) (fun q1 => ?_)
  all_goals rw [i_neg] at q1
  · exact th_IAE hx hb hst hown hts hG hW hml hl hex hlk (is := 146) (text := "there is no such kind") (by decide) dX3_needKind_9 dX3_needKind_12 dX3_needKind_13 dX3_needKind_15 dX3_needKind_18 (by omega) (by rw [hRl]; exact Nat.le_of_ble_eq_true rfl) (by omega) (by omega) ⟨rfl, fun h => by rw [knd_iff _ (by omega)] at h; omega⟩ hsm (by omega) (by omega)
  · refine lv_iload_n hx hb dX3_needKind_4 rfl (lv_at hl 0 rfl) ?_
    refine lv_iload_n hx hb dX3_needKind_5 rfl (lv_at hl 1 rfl) ?_
    refine lv_icmp_le (tgt := 19) hx hb dX3_needKind_6 (by decide) (fun q2 => ?_) (fun q2 => ?_)
    all_goals rw [i_le _ (by omega)] at q2
    · exact vx_ret (e_void hx hb hr hlk hAe hW (by omega) (by omega) dX3_needKind_19 ⟨rfl, rfl, (knd_iff _ (by omega)).mpr (by omega)⟩)
    · exact th_IAE hx hb hst hown hts hG hW hml hl hex hlk (is := 146) (text := "there is no such kind") (by decide) dX3_needKind_9 dX3_needKind_12 dX3_needKind_13 dX3_needKind_15 dX3_needKind_18 (by omega) (by rw [hRl]; exact Nat.le_of_ble_eq_true rfl) (by omega) (by omega) ⟨rfl, fun h => by rw [knd_iff _ (by omega)] at h; omega⟩ hsm (by omega) (by omega)
set_option maxHeartbeats 4000000 in
set_option maxRecDepth 100000 in
theorem k_needSameWidth (l : Launch) (hst : l.stackTraces = false) (Z : Zt) (aa ab wa wb : Nat) (ra rb : Nat → Nat) (hwa : wa ≤ 1000) (hwb : wb ≤ 1000) : MX l yX3_needSameWidth cX3_needSameWidth 2 none 6 90 (1) (6) Z ([]) (fun H => zat Z (ea Z aa wa ra) H ∧ zat Z (ea Z ab wb rb) H) [.ref aa, .ref ab] (fun v w1 => v = none ∧ w1 = [] ∧ wa = wb) (fun E => E = IAE ∧ wa ≠ wb) := by
  refine mx_of (by decide) (Nat.le_of_ble_eq_true rfl) (fun p e s m below meth c ls A hx hb hr hts hown hlk hml hex hK hG hW hA hAe hro hl R hRf hRc hRs hRl => ?_)
  have hl : lv_has ls 2 [(0, .ref aa), (1, .ref ab)] := hl
  have hsm : ∀ q : Nat, q < s.heap.size → s.heap[q]? = s.heap[q]? := fun _ _ => rfl
  refine lv_aload_n hx hb dX3_needSameWidth_0 rfl (lv_at hl 0 rfl) ?_
  refine r_len hx hb hK ((RO.nil hro.1).here hAe hW) dX3_needSameWidth_1 ?_
  refine lv_aload_n hx hb dX3_needSameWidth_2 rfl (lv_at hl 1 rfl) ?_
  refine r_len hx hb hK ((RO.nil hro.2).here hAe hW) dX3_needSameWidth_3 ?_
  by_cases hq : wa = wb
  · refine n_eq_t (tgt := 17) hx hb (by omega) dX3_needSameWidth_4 (by decide) ?_
    exact vx_ret (e_void hx hb hr hlk hAe hW (by omega) (by omega) dX3_needSameWidth_17 ⟨rfl, rfl, hq⟩)
  · refine n_eq_f (tgt := 17) hx hb (by omega) (by omega) (by omega) dX3_needSameWidth_4 (by decide) ?_
    exact th_IAE hx hb hst hown hts hG hW hml hl hex hlk (is := 148) (text := "the widths are not the same") (by decide) dX3_needSameWidth_7 dX3_needSameWidth_10 dX3_needSameWidth_11 dX3_needSameWidth_13 dX3_needSameWidth_16 (by omega) (by rw [hRl]; exact Nat.le_of_ble_eq_true rfl) (by omega) (by omega) ⟨rfl, hq⟩ hsm (by omega) (by omega)
set_option maxHeartbeats 4000000 in
set_option maxRecDepth 100000 in
theorem k_needRoom (l : Launch) (hst : l.stackTraces = false) (Z : Zt) (hb0 hk hc hm : Nat) (mo : Int32) (qe n wg g : Nat) (hwg : wg ≤ 100000) (hg : g ≤ 1000000) (hn : n ≤ 512) : MX l yX3_needRoom cX3_needRoom 2 none 6 130 (1) (6) Z ([]) (fun H => zat Z (eo hb0 3 [.ref hk, .ref hc, .ref hm, .int (nI wg)]) H ∧ zat Z (eo hm 5 [.int mo, .ref qe, .int (nI n)]) H) [.ref hb0, .int (nI g)] (fun v w1 => v = none ∧ w1 = [] ∧ g + wg ≤ 100000) (fun E => E = ISE ∧ ¬ g + wg ≤ 100000) := by
  refine mx_of (by decide) (Nat.le_of_ble_eq_true rfl) (fun p e s m below meth c ls A hx hb hr hts hown hlk hml hex hK hG hW hA hAe hro hl R hRf hRc hRs hRl => ?_)
  have hl : lv_has ls 2 [(0, .ref hb0), (1, .int (nI g))] := hl
  have hsm : ∀ q : Nat, q < s.heap.size → s.heap[q]? = s.heap[q]? := fun _ _ => rfl
  refine lv_aload_n hx hb dX3_needRoom_0 rfl (lv_at hl 0 rfl) ?_
  refine r_get hx hb hts hown hK ((RO.nil hro.1).here hAe hW) rfl in_X3 2 (by decide) tb_99 (fun _ h => h) rfl dX3_needRoom_1 ?_
  have hsz0 := hW.2.2.1
  refine c_virt (As := []) (rest := []) (wc := []) (wr := []) (nl := 0) hx hb hml hown hts hK hG rfl hA hl (k_size l Z hm mo qe n) hW ((RO.nil hro.2).here hAe hW) ((RO.nil hro.2).here hAe hW) rfl rfl tb_118 tb_119 tb_120 tb_6 tb_121 (nA := 0) (by decide +kernel) rfl ⟨by omega, by omega⟩ ⟨by omega, by omega⟩ rfl (Nat.le_of_ble_eq_true rfl) dX3_needRoom_4 (fun v w1 H1 L1 hp hW hzz hkk hdd => ?_)
  obtain ⟨rfl, rfl⟩ := hp
  have hsm := sm_step hsz0 hkk hsm
  clear hzz hkk hdd
  generalize H1 = H at hW hsm ⊢
  generalize L1 = locs at hW ⊢
  have hW : Wd Z A s.heap ([]) _ _ := hW
  refine W.eq (g2 := F0 m 7 ls [.int (nI n)]) rfl ?_
  refine lv_sipush (v := nI 4000) hx hb dX3_needRoom_7 (by decide) ?_
  refine n_ge_f (tgt := 24) hx hb (by omega) (by omega) dX3_needRoom_10 (by decide) ?_
  refine lv_iload_n hx hb dX3_needRoom_13 rfl (lv_at hl 1 rfl) ?_
  refine lv_ldc (v := nI 100000) hx hb hown (hts _ tb_205) dX3_needRoom_14 ?_
  refine lv_aload_n hx hb dX3_needRoom_16 rfl (lv_at hl 0 rfl) ?_
  refine r_get hx hb hts hown hK ((RO.nil hro.1).here hAe hW) rfl in_X3 3 (by decide) tb_100 (fun _ h => h) rfl dX3_needRoom_17 ?_
  refine n_isub hx hb (by omega) dX3_needRoom_20 ?_
  by_cases hq : g + wg ≤ 100000
  · refine n_le_t (tgt := 34) hx hb (by omega) (by omega) dX3_needRoom_21 (by decide) ?_
    exact vx_ret (e_void hx hb hr hlk hAe hW (by omega) (by omega) dX3_needRoom_34 ⟨rfl, rfl, hq⟩)
  · refine n_le_f (tgt := 34) hx hb (by omega) (by omega) dX3_needRoom_21 (by decide) ?_
    exact th_ISE hx hb hst hown hts hG hW hml hl hex hlk (is := 153) (text := "there are 4000 vectors, or they would weigh more than 100000") (by decide) dX3_needRoom_24 dX3_needRoom_27 dX3_needRoom_28 dX3_needRoom_30 dX3_needRoom_33 (by omega) (by rw [hRl]; exact Nat.le_of_ble_eq_true rfl) (by omega) (by omega) ⟨rfl, hq⟩ hsm (by omega) (by omega)
set_option maxHeartbeats 4000000 in
set_option maxRecDepth 100000 in
theorem k_bitsOf (l : Launch) (hst : l.stackTraces = false) (Z : Zt) (hb0 hk hc hm : Nat) (mo : Int32) (n wg : Nat) (o : Option (Nat × Nat × (Nat → Option Nat))) (vd vb stb : Nat → Nat) (xv : Int32) (ho : lok n o vd) : MX l yX3_bitsOf cX3_bitsOf 2 (some (.array .int)) 6 130 (1) (6) Z ([]) (fun H => zat Z (eo hb0 3 [.ref hk, .ref hc, .ref hm, .int (nI wg)]) H ∧ va_P Z.1 classes (lst Z hm mo n o) H ∧ ∀ i, i < n → zat Z (eo (vd i) 2 [.ref (vb i), .int (nI (stb i))]) H) [.ref hb0, .int xv] (fun v w1 => w1 = [] ∧ ∃ i, i < n ∧ xv = nI i ∧ v = some (.ref (vb i))) (fun E => E = IAE ∧ ¬ vix xv n) := by
  refine mx_of (by decide) (Nat.le_of_ble_eq_true rfl) (fun p e s m below meth c ls A hx hb hr hts hown hlk hml hex hK hG hW hA hAe hro hl R hRf hRc hRs hRl => ?_)
  have hl : lv_has ls 2 [(0, .ref hb0), (1, .int xv)] := hl
  have hsm : ∀ q : Nat, q < s.heap.size → s.heap[q]? = s.heap[q]? := fun _ _ => rfl
  have hn := ho.1
  have hlo := hro.2.1 0 _ rfl
  refine lv_iload_n hx hb dX3_bitsOf_0 rfl (lv_at hl 1 rfl) ?_
  refine lv_if_lt (tgt := 15) hx hb dX3_bitsOf_1 (by decide) (fun q1 => ?_) (fun q1 => ?_)
  all_goals rw [i_neg] at q1
  · exact th_IAE hx hb hst hown hts hG hW hml hl hex hlk (is := 156) (text := "there is no such vector") (by decide) dX3_bitsOf_15 dX3_bitsOf_18 dX3_bitsOf_19 dX3_bitsOf_21 dX3_bitsOf_24 (by omega) (by rw [hRl]; exact Nat.le_of_ble_eq_true rfl) (by omega) (by omega) ⟨rfl, fun h => by rw [vix_iff _ (by omega)] at h; omega⟩ hsm (by omega) (by omega)
  · refine lv_iload_n hx hb dX3_bitsOf_4 rfl (lv_at hl 1 rfl) ?_
    refine lv_aload_n hx hb dX3_bitsOf_5 rfl (lv_at hl 0 rfl) ?_
    refine r_get hx hb hts hown hK ((RO.nil hro.1).here hAe hW) rfl in_X3 2 (by decide) tb_99 (fun _ h => h) rfl dX3_bitsOf_6 ?_
    have hsz0 := hW.2.2.1
    refine c_virt (As := []) (rest := [.int xv]) (wc := []) (wr := []) (nl := 0) hx hb hml hown hts hK hG rfl hA hl (k_size l Z hm mo (lsq Z o) n) hW ((RO.nil hlo).here hAe hW) ((RO.nil hlo).here hAe hW) rfl rfl tb_118 tb_119 tb_120 tb_6 tb_121 (nA := 0) (by decide +kernel) rfl ⟨by omega, by omega⟩ ⟨by omega, by omega⟩ rfl (Nat.le_of_ble_eq_true rfl) dX3_bitsOf_9 (fun v w1 H1 L1 hp hW hzz hkk hdd => ?_)
    obtain ⟨rfl, rfl⟩ := hp
    have hsm := sm_step hsz0 hkk hsm
    clear hzz hkk hdd
    generalize H1 = H at hW hsm ⊢
    generalize L1 = locs at hW ⊢
    have hW : Wd Z A s.heap ([]) _ _ := hW
    refine W.eq (g2 := F0 m 12 ls [.int (nI n), .int xv]) rfl ?_
    refine lv_icmp_lt (tgt := 25) hx hb dX3_bitsOf_12 (by decide) (fun q2 => ?_) (fun q2 => ?_)
    all_goals rw [i_lt _ (by omega)] at q2
    · obtain ⟨i, hi, exv⟩ := (vix_iff xv (by omega)).mpr ⟨by omega, q2⟩
      subst exv
      obtain ⟨ce, f, hce, hnc, hf, hzf⟩ : ∃ (ce : Nat) (f : Nat → Option Nat), ce ≤ 768 ∧ n ≤ ce ∧ f i = some (vd i) ∧ zat Z (er Z (lsq Z o) ce f) s.heap := by
        cases o with
        | none => exact absurd ho.2 (by omega)
        | some z => exact ⟨z.2.1, z.2.2, ho.2.2.1, ho.2.1, ho.2.2.2.2.1 i hi, hro.2.1 1 _ rfl⟩
      refine lv_aload_n hx hb dX3_bitsOf_25 rfl (lv_at hl 0 rfl) ?_
      refine r_get hx hb hts hown hK ((RO.nil hro.1).here hAe hW) rfl in_X3 2 (by decide) tb_99 (fun _ h => h) rfl dX3_bitsOf_26 ?_
      refine lv_iload_n hx hb dX3_bitsOf_29 rfl (lv_at hl 1 rfl) ?_
      refine c_virt (As := [.int (nI i)]) (rest := []) (wc := []) (wr := []) (nl := 0) hx hb hml hown hts hK hG rfl hA hl (k_get l Z hm mo (lsq Z o) n i ce (vd i) f hi hnc (by omega) hf) hW ⟨((RO.nil hlo).here hAe hW), ((RO.nil hzf).here hAe hW)⟩ ((RO.nil hlo).here hAe hW) rfl rfl tb_342 tb_343 tb_344 tb_6 tb_345 (nA := 1) (by decide +kernel) rfl ⟨by omega, by omega⟩ ⟨by omega, by omega⟩ rfl (Nat.le_of_ble_eq_true rfl) dX3_bitsOf_30 (fun v w1 H1 L1 hp hW hzz hkk hdd => ?_)
      obtain ⟨rfl, rfl⟩ := hp
      clear hzz hkk hdd
      generalize H1 = H at hW  ⊢
      generalize L1 = locs at hW ⊢
      have hW : Wd Z A s.heap ([]) _ _ := hW
      refine W.eq (g2 := F0 m 33 ls [.ref (vd i)]) rfl ?_
      refine va_castY hx hb hown (hts _ tb_246) (hG.1.1 (RX2, RX2) (by simp [nw_cast])) (va_recv (q0 := 0) (ci := 2) (q := (RX2, TX2, 2)) hK (zat_one ((RO.nil (hro.2.2 i hi)).here hAe hW)) rfl rfl) dX3_bitsOf_33 ?_
      refine r_get hx hb hts hown hK ((RO.nil (hro.2.2 i hi)).here hAe hW) rfl in_X2 0 (by decide) tb_253 (fun _ h => h) rfl dX3_bitsOf_36 ?_
      exact vx_ret (e_ref hx hb hr (Or.inr ⟨_, rfl⟩) hlk hAe hW (by omega) (by omega) dX3_bitsOf_39 ⟨rfl, i, hi, rfl, rfl⟩)
    · exact th_IAE hx hb hst hown hts hG hW hml hl hex hlk (is := 156) (text := "there is no such vector") (by decide) dX3_bitsOf_15 dX3_bitsOf_18 dX3_bitsOf_19 dX3_bitsOf_21 dX3_bitsOf_24 (by omega) (by rw [hRl]; exact Nat.le_of_ble_eq_true rfl) (by omega) (by omega) ⟨rfl, fun h => by rw [vix_iff _ (by omega)] at h; omega⟩ hsm (by omega) (by omega)
