theorem nI_long {n : Nat} (h : n < 2 ^ 31) : (nI n).toInt64 = lN n := by
  apply Int64.toInt_inj.mp
  show (Int32.ofNat n).toInt64.toInt = (Int64.ofNat n).toInt
  rw [Int32.toInt_toInt64, Int32.toInt_ofNat_of_lt h, Int64.toInt_ofNat_of_lt (by omega)]
/-- what a wrapper answers: 0 with the answer in 'out', or the number of the exception -/
def WQ (Z : Zt) (wc : va_W) (out N : Nat) (r : Nat → Nat) (post : Option Value → va_W → Prop) (px : String → Prop) (v : Option Value) (w1 : va_W) : Prop :=
  (v = some (.int (nI 0)) ∧ ∃ v0 w0, post v0 w0 ∧ w1 = el Z out 1 (up r 0 N) :: w0) ∨ (v = some (.int (nI 1)) ∧ px IAE ∧ w1 = el Z out 1 r :: wc) ∨ (v = some (.int (nI 2)) ∧ px ISE ∧ w1 = el Z out 1 r :: wc)
theorem nw_iae {Z : Zt} {U : State} {a : Array Value} (h : GSv Z U) : (Cond.castable IAE IAE).before a U = true := va_Nw.use rfl (h.1 (IAE, IAE) (by decide))
theorem nw_ise {Z : Zt} {U : State} {a : Array Value} (h : GSv Z U) : (Cond.castable ISE ISE).before a U = true := va_Nw.use rfl (h.1 (ISE, ISE) (by decide))
set_option maxHeartbeats 4000000 in
set_option maxRecDepth 100000 in
theorem w_input (l : Launch) (Z : Zt) (hb0 hk hc hm : Nat) (x : CS) (mo : Int32) (n wg : Nat) (o : Option (Nat × Nat × (Nat → Option Nat))) (vd vb stb wd : Nat → Nat) (rw : Nat → Nat → Nat) (x0 : Int32) (out N mc ms : Nat) (r : Nat → Nat) {post : Option Value → va_W → Prop} {px : String → Prop} (hM : MX l yX3_input cX3_input 4 (some .int) 11 600 mc ms Z (cw Z hc x ++ bl Z hb0 hk hc hm wg mo n o) (fun H => BRO Z (cw Z hc x ++ bl Z hb0 hk hc hm wg mo n o) hk hc n vd vb stb wd rw H) [.ref hb0, .int x0] post px) (hp0 : ∀ v w1, post v w1 → v = some (.int (nI N))) (hN : N < 2 ^ 31) (hpx : ∀ E, px E → E = IAE ∨ E = ISE) : MH l yL_input cL_input 4 (some .int) [(0, 9, 12, 13), (0, 9, 15, 15)] 12 640 mc ms Z (el Z out 1 r :: (cw Z hc x ++ bl Z hb0 hk hc hm wg mo n o)) (fun H => BRO Z (el Z out 1 r :: (cw Z hc x ++ bl Z hb0 hk hc hm wg mo n o)) hk hc n vd vb stb wd rw H) [.ref hb0, .int x0, .ref out] (WQ Z (cw Z hc x ++ bl Z hb0 hk hc hm wg mo n o) out N r post px) := by
  refine mh_of (by decide) (Nat.le_of_ble_eq_true rfl) (fun p e s m below meth c ls A hx hb hr hts hown hlk hml hex hnc hK hG hW hA hAe hro hl R hRf hRc hRs hRl => ?_)
  have hl : lv_has ls 4 [(0, .ref hb0), (1, .int x0), (2, .ref out)] := hl
  have hW : Wd Z A s.heap (cw Z hc x ++ bl Z hb0 hk hc hm wg mo n o ++ [el Z out 1 r]) _ _ := Wd.swap2 (w1 := [el Z out 1 r]) (wc := cw Z hc x ++ bl Z hb0 hk hc hm wg mo n o) hW
  have mv : ∀ {H : Heap} {L : List Loc} (q : Nat × va_E), Wd Z A s.heap (cw Z hc x ++ bl Z hb0 hk hc hm wg mo n o ++ [el Z out 1 r]) H L → RO Z (el Z out 1 r :: (cw Z hc x ++ bl Z hb0 hk hc hm wg mo n o)) q s.heap → RO Z (cw Z hc x ++ bl Z hb0 hk hc hm wg mo n o) q H := fun q hW h => RO.pass h hAe hW
  refine lv_aload_n hx hb dL_input_0 rfl (lv_at hl 2 rfl) ?_
  refine lv_iconst (v := nI 0) hx hb dL_input_1 (by decide) ?_
  refine lv_aload_n hx hb dL_input_2 rfl (lv_at hl 0 rfl) ?_
  refine lv_iload_n hx hb dL_input_3 rfl (lv_at hl 1 rfl) ?_
  refine x_virt (As := [.int x0]) (rest := [.int (nI 0), .ref out]) (wc := cw Z hc x ++ bl Z hb0 hk hc hm wg mo n o) (wr := [el Z out 1 r]) hx hb hml hown hts hK hG rfl hA hl hM hW ⟨mv _ hW hro.1, fun i hi => ⟨mv _ hW (hro.2 i hi).1, mv _ hW (hro.2 i hi).2⟩⟩ (hW.at 5 rfl) rfl rfl tb_127 tb_128 tb_129 tb_1 tb_130 (nA := 1) (by decide +kernel) rfl ⟨by omega, by omega⟩ ⟨by omega, by omega⟩ rfl (Nat.le_of_ble_eq_true rfl) dL_input_4 (fun E q9 ce H9 L9 hpx0 hWx hzx hkx hce hcv hcl => ?_) (fun v w0 H1 L1 hp hW hzz hkk hdd => ?_)
  · clear hW
    have hW : Wd Z A s.heap (el Z out 1 r :: (cw Z hc x ++ bl Z hb0 hk hc hm wg mo n o)) _ _ := Wd.swap2 (w1 := cw Z hc x ++ bl Z hb0 hk hc hm wg mo n o) (wc := [el Z out 1 r]) hWx
    rcases hpx E hpx0 with h9 | h9
    · subst h9
      refine vx_catch (own := RL) (name := IAE) (E := IAE) hown [] ⟨0, 9, 12, 13⟩ [⟨0, 9, 15, 15⟩] hex (fun z hz => absurd hz List.not_mem_nil) (by decide) (by decide) (hts _ tb_125) (nw_iae hG.1) hce hcv hcl ?_
      refine lv_astore_n (lv' := [(3, .ref q9), (0, .ref hb0), (1, .int x0), (2, .ref out)]) hx hb dL_input_12 rfl hl (by decide) rfl (fun ls hl => ?_)
      refine lv_iconst (v := nI 1) hx hb dL_input_13 (by decide) ?_
      exact e_int hx hb hr hlk hAe hW (by omega) (by omega) dL_input_14 (Or.inr (Or.inl ⟨rfl, hpx0, rfl⟩))
    · subst h9
      refine vx_catch (own := RL) (name := ISE) (E := ISE) hown [⟨0, 9, 12, 13⟩] ⟨0, 9, 15, 15⟩ [] hex (fun z hz => Or.inr (by cases List.mem_singleton.mp hz; exact ⟨by decide, IAE, hts _ tb_125, hnc⟩)) (by decide) (by decide) (hts _ tb_126) (nw_ise hG.1) hce hcv hcl ?_
      refine lv_astore_n (lv' := [(3, .ref q9), (0, .ref hb0), (1, .int x0), (2, .ref out)]) hx hb dL_input_15 rfl hl (by decide) rfl (fun ls hl => ?_)
      refine lv_iconst (v := nI 2) hx hb dL_input_16 (by decide) ?_
      exact e_int hx hb hr hlk hAe hW (by omega) (by omega) dL_input_17 (Or.inr (Or.inr ⟨rfl, hpx0, rfl⟩))
  · have hv := hp0 v w0 hp
    subst hv
    clear hzz hkk hdd
    refine W.eq (g2 := F0 m 7 ls [.int (nI N), .int (nI 0), .ref out]) rfl ?_
    refine lv_i2l (v := lN N) hx hb dL_input_7 (nI_long hN) ?_
    have hW : Wd Z A s.heap (el Z out 1 r :: w0) _ _ := Wd.swap2 (w1 := w0) (wc := [el Z out 1 r]) hW
    refine r_last (i := 0) (x := N) hx hb hK hW 0 rfl (by omega) (by omega) dL_input_8 (fun H locs hW => ?_)
    have hW : Wd Z A s.heap (el Z out 1 (up r 0 N) :: w0) _ _ := hW
    refine lv_goto (tgt := 18) hx hb dL_input_9 (by decide) ?_
    refine lv_iconst (v := nI 0) hx hb dL_input_18 (by decide) ?_
    exact e_int hx hb hr hlk hAe hW (by omega) (by omega) dL_input_19 (Or.inl ⟨rfl, _, w0, hp, rfl⟩)
set_option maxHeartbeats 4000000 in
set_option maxRecDepth 100000 in
theorem w_constant (l : Launch) (Z : Zt) (hb0 hk hc hm : Nat) (x : CS) (mo : Int32) (n wg : Nat) (o : Option (Nat × Nat × (Nat → Option Nat))) (vd vb stb wd : Nat → Nat) (rw : Nat → Nat → Nat) (x0 : Int32) (x1 : Int64) (out N mc ms : Nat) (r : Nat → Nat) {post : Option Value → va_W → Prop} {px : String → Prop} (hM : MX l yX3_constant cX3_constant 6 (some .int) 11 600 mc ms Z (cw Z hc x ++ bl Z hb0 hk hc hm wg mo n o) (fun H => BRO Z (cw Z hc x ++ bl Z hb0 hk hc hm wg mo n o) hk hc n vd vb stb wd rw H) [.ref hb0, .int x0, .long x1] post px) (hp0 : ∀ v w1, post v w1 → v = some (.int (nI N))) (hN : N < 2 ^ 31) (hpx : ∀ E, px E → E = IAE ∨ E = ISE) : MH l yL_constant cL_constant 6 (some .int) [(0, 11, 14, 13), (0, 11, 18, 15)] 12 640 mc ms Z (el Z out 1 r :: (cw Z hc x ++ bl Z hb0 hk hc hm wg mo n o)) (fun H => BRO Z (el Z out 1 r :: (cw Z hc x ++ bl Z hb0 hk hc hm wg mo n o)) hk hc n vd vb stb wd rw H) [.ref hb0, .int x0, .long x1, .ref out] (WQ Z (cw Z hc x ++ bl Z hb0 hk hc hm wg mo n o) out N r post px) := by
  refine mh_of (by decide) (Nat.le_of_ble_eq_true rfl) (fun p e s m below meth c ls A hx hb hr hts hown hlk hml hex hnc hK hG hW hA hAe hro hl R hRf hRc hRs hRl => ?_)
  have hl : lv_has ls 6 [(0, .ref hb0), (1, .int x0), (2, .long x1), (4, .ref out)] := hl
  have hW : Wd Z A s.heap (cw Z hc x ++ bl Z hb0 hk hc hm wg mo n o ++ [el Z out 1 r]) _ _ := Wd.swap2 (w1 := [el Z out 1 r]) (wc := cw Z hc x ++ bl Z hb0 hk hc hm wg mo n o) hW
  have mv : ∀ {H : Heap} {L : List Loc} (q : Nat × va_E), Wd Z A s.heap (cw Z hc x ++ bl Z hb0 hk hc hm wg mo n o ++ [el Z out 1 r]) H L → RO Z (el Z out 1 r :: (cw Z hc x ++ bl Z hb0 hk hc hm wg mo n o)) q s.heap → RO Z (cw Z hc x ++ bl Z hb0 hk hc hm wg mo n o) q H := fun q hW h => RO.pass h hAe hW
  refine lv_aload hx hb dL_constant_0 (lv_at hl 3 rfl) ?_
  refine lv_iconst (v := nI 0) hx hb dL_constant_2 (by decide) ?_
  refine lv_aload_n hx hb dL_constant_3 rfl (lv_at hl 0 rfl) ?_
  refine lv_iload_n hx hb dL_constant_4 rfl (lv_at hl 1 rfl) ?_
  refine lv_lload_n hx hb dL_constant_5 rfl (lv_at hl 2 rfl) ?_
  refine x_virt (As := [.int x0, .long x1]) (rest := [.int (nI 0), .ref out]) (wc := cw Z hc x ++ bl Z hb0 hk hc hm wg mo n o) (wr := [el Z out 1 r]) hx hb hml hown hts hK hG rfl hA hl hM hW ⟨mv _ hW hro.1, fun i hi => ⟨mv _ hW (hro.2 i hi).1, mv _ hW (hro.2 i hi).2⟩⟩ (hW.at 5 rfl) rfl rfl tb_319 tb_320 tb_321 tb_1 tb_322 (nA := 2) (by decide +kernel) rfl ⟨by omega, by omega⟩ ⟨by omega, by omega⟩ rfl (Nat.le_of_ble_eq_true rfl) dL_constant_6 (fun E q9 ce H9 L9 hpx0 hWx hzx hkx hce hcv hcl => ?_) (fun v w0 H1 L1 hp hW hzz hkk hdd => ?_)
  · clear hW
    have hW : Wd Z A s.heap (el Z out 1 r :: (cw Z hc x ++ bl Z hb0 hk hc hm wg mo n o)) _ _ := Wd.swap2 (w1 := cw Z hc x ++ bl Z hb0 hk hc hm wg mo n o) (wc := [el Z out 1 r]) hWx
    rcases hpx E hpx0 with h9 | h9
    · subst h9
      refine vx_catch (own := RL) (name := IAE) (E := IAE) hown [] ⟨0, 11, 14, 13⟩ [⟨0, 11, 18, 15⟩] hex (fun z hz => absurd hz List.not_mem_nil) (by decide) (by decide) (hts _ tb_125) (nw_iae hG.1) hce hcv hcl ?_
      refine lv_astore (lv' := [(5, .ref q9), (0, .ref hb0), (1, .int x0), (2, .long x1), (4, .ref out)]) hx hb dL_constant_14 hl (by decide) rfl (fun ls hl => ?_)
      refine lv_iconst (v := nI 1) hx hb dL_constant_16 (by decide) ?_
      exact e_int hx hb hr hlk hAe hW (by omega) (by omega) dL_constant_17 (Or.inr (Or.inl ⟨rfl, hpx0, rfl⟩))
    · subst h9
      refine vx_catch (own := RL) (name := ISE) (E := ISE) hown [⟨0, 11, 14, 13⟩] ⟨0, 11, 18, 15⟩ [] hex (fun z hz => Or.inr (by cases List.mem_singleton.mp hz; exact ⟨by decide, IAE, hts _ tb_125, hnc⟩)) (by decide) (by decide) (hts _ tb_126) (nw_ise hG.1) hce hcv hcl ?_
      refine lv_astore (lv' := [(5, .ref q9), (0, .ref hb0), (1, .int x0), (2, .long x1), (4, .ref out)]) hx hb dL_constant_18 hl (by decide) rfl (fun ls hl => ?_)
      refine lv_iconst (v := nI 2) hx hb dL_constant_20 (by decide) ?_
      exact e_int hx hb hr hlk hAe hW (by omega) (by omega) dL_constant_21 (Or.inr (Or.inr ⟨rfl, hpx0, rfl⟩))
  · have hv := hp0 v w0 hp
    subst hv
    clear hzz hkk hdd
    refine W.eq (g2 := F0 m 9 ls [.int (nI N), .int (nI 0), .ref out]) rfl ?_
    refine lv_i2l (v := lN N) hx hb dL_constant_9 (nI_long hN) ?_
    have hW : Wd Z A s.heap (el Z out 1 r :: w0) _ _ := Wd.swap2 (w1 := w0) (wc := [el Z out 1 r]) hW
    refine r_last (i := 0) (x := N) hx hb hK hW 0 rfl (by omega) (by omega) dL_constant_10 (fun H locs hW => ?_)
    have hW : Wd Z A s.heap (el Z out 1 (up r 0 N) :: w0) _ _ := hW
    refine lv_goto (tgt := 22) hx hb dL_constant_11 (by decide) ?_
    refine lv_iconst (v := nI 0) hx hb dL_constant_22 (by decide) ?_
    exact e_int hx hb hr hlk hAe hW (by omega) (by omega) dL_constant_23 (Or.inl ⟨rfl, _, w0, hp, rfl⟩)
set_option maxHeartbeats 4000000 in
set_option maxRecDepth 100000 in
theorem w_one (l : Launch) (Z : Zt) (hb0 hk hc hm : Nat) (x : CS) (mo : Int32) (n wg : Nat) (o : Option (Nat × Nat × (Nat → Option Nat))) (vd vb stb wd : Nat → Nat) (rw : Nat → Nat → Nat) (x0 : Int32) (x1 : Int32) (out N mc ms : Nat) (r : Nat → Nat) {post : Option Value → va_W → Prop} {px : String → Prop} (hM : MX l yX3_one cX3_one 6 (some .int) 11 600 mc ms Z (cw Z hc x ++ bl Z hb0 hk hc hm wg mo n o) (fun H => BRO Z (cw Z hc x ++ bl Z hb0 hk hc hm wg mo n o) hk hc n vd vb stb wd rw H) [.ref hb0, .int x0, .int x1] post px) (hp0 : ∀ v w1, post v w1 → v = some (.int (nI N))) (hN : N < 2 ^ 31) (hpx : ∀ E, px E → E = IAE ∨ E = ISE) : MH l yL_one cL_one 5 (some .int) [(0, 10, 13, 13), (0, 10, 17, 15)] 12 640 mc ms Z (el Z out 1 r :: (cw Z hc x ++ bl Z hb0 hk hc hm wg mo n o)) (fun H => BRO Z (el Z out 1 r :: (cw Z hc x ++ bl Z hb0 hk hc hm wg mo n o)) hk hc n vd vb stb wd rw H) [.ref hb0, .int x0, .int x1, .ref out] (WQ Z (cw Z hc x ++ bl Z hb0 hk hc hm wg mo n o) out N r post px) := by
  refine mh_of (by decide) (Nat.le_of_ble_eq_true rfl) (fun p e s m below meth c ls A hx hb hr hts hown hlk hml hex hnc hK hG hW hA hAe hro hl R hRf hRc hRs hRl => ?_)
  have hl : lv_has ls 5 [(0, .ref hb0), (1, .int x0), (2, .int x1), (3, .ref out)] := hl
  have hW : Wd Z A s.heap (cw Z hc x ++ bl Z hb0 hk hc hm wg mo n o ++ [el Z out 1 r]) _ _ := Wd.swap2 (w1 := [el Z out 1 r]) (wc := cw Z hc x ++ bl Z hb0 hk hc hm wg mo n o) hW
  have mv : ∀ {H : Heap} {L : List Loc} (q : Nat × va_E), Wd Z A s.heap (cw Z hc x ++ bl Z hb0 hk hc hm wg mo n o ++ [el Z out 1 r]) H L → RO Z (el Z out 1 r :: (cw Z hc x ++ bl Z hb0 hk hc hm wg mo n o)) q s.heap → RO Z (cw Z hc x ++ bl Z hb0 hk hc hm wg mo n o) q H := fun q hW h => RO.pass h hAe hW
  refine lv_aload_n hx hb dL_one_0 rfl (lv_at hl 3 rfl) ?_
  refine lv_iconst (v := nI 0) hx hb dL_one_1 (by decide) ?_
  refine lv_aload_n hx hb dL_one_2 rfl (lv_at hl 0 rfl) ?_
  refine lv_iload_n hx hb dL_one_3 rfl (lv_at hl 1 rfl) ?_
  refine lv_iload_n hx hb dL_one_4 rfl (lv_at hl 2 rfl) ?_
  refine x_virt (As := [.int x0, .int x1]) (rest := [.int (nI 0), .ref out]) (wc := cw Z hc x ++ bl Z hb0 hk hc hm wg mo n o) (wr := [el Z out 1 r]) hx hb hml hown hts hK hG rfl hA hl hM hW ⟨mv _ hW hro.1, fun i hi => ⟨mv _ hW (hro.2 i hi).1, mv _ hW (hro.2 i hi).2⟩⟩ (hW.at 5 rfl) rfl rfl tb_329 tb_330 tb_331 tb_1 tb_332 (nA := 2) (by decide +kernel) rfl ⟨by omega, by omega⟩ ⟨by omega, by omega⟩ rfl (Nat.le_of_ble_eq_true rfl) dL_one_5 (fun E q9 ce H9 L9 hpx0 hWx hzx hkx hce hcv hcl => ?_) (fun v w0 H1 L1 hp hW hzz hkk hdd => ?_)
  · clear hW
    have hW : Wd Z A s.heap (el Z out 1 r :: (cw Z hc x ++ bl Z hb0 hk hc hm wg mo n o)) _ _ := Wd.swap2 (w1 := cw Z hc x ++ bl Z hb0 hk hc hm wg mo n o) (wc := [el Z out 1 r]) hWx
    rcases hpx E hpx0 with h9 | h9
    · subst h9
      refine vx_catch (own := RL) (name := IAE) (E := IAE) hown [] ⟨0, 10, 13, 13⟩ [⟨0, 10, 17, 15⟩] hex (fun z hz => absurd hz List.not_mem_nil) (by decide) (by decide) (hts _ tb_125) (nw_iae hG.1) hce hcv hcl ?_
      refine lv_astore (lv' := [(4, .ref q9), (0, .ref hb0), (1, .int x0), (2, .int x1), (3, .ref out)]) hx hb dL_one_13 hl (by decide) rfl (fun ls hl => ?_)
      refine lv_iconst (v := nI 1) hx hb dL_one_15 (by decide) ?_
      exact e_int hx hb hr hlk hAe hW (by omega) (by omega) dL_one_16 (Or.inr (Or.inl ⟨rfl, hpx0, rfl⟩))
    · subst h9
      refine vx_catch (own := RL) (name := ISE) (E := ISE) hown [⟨0, 10, 13, 13⟩] ⟨0, 10, 17, 15⟩ [] hex (fun z hz => Or.inr (by cases List.mem_singleton.mp hz; exact ⟨by decide, IAE, hts _ tb_125, hnc⟩)) (by decide) (by decide) (hts _ tb_126) (nw_ise hG.1) hce hcv hcl ?_
      refine lv_astore (lv' := [(4, .ref q9), (0, .ref hb0), (1, .int x0), (2, .int x1), (3, .ref out)]) hx hb dL_one_17 hl (by decide) rfl (fun ls hl => ?_)
      refine lv_iconst (v := nI 2) hx hb dL_one_19 (by decide) ?_
      exact e_int hx hb hr hlk hAe hW (by omega) (by omega) dL_one_20 (Or.inr (Or.inr ⟨rfl, hpx0, rfl⟩))
  · have hv := hp0 v w0 hp
    subst hv
    clear hzz hkk hdd
    refine W.eq (g2 := F0 m 8 ls [.int (nI N), .int (nI 0), .ref out]) rfl ?_
    refine lv_i2l (v := lN N) hx hb dL_one_8 (nI_long hN) ?_
    have hW : Wd Z A s.heap (el Z out 1 r :: w0) _ _ := Wd.swap2 (w1 := w0) (wc := [el Z out 1 r]) hW
    refine r_last (i := 0) (x := N) hx hb hK hW 0 rfl (by omega) (by omega) dL_one_9 (fun H locs hW => ?_)
    have hW : Wd Z A s.heap (el Z out 1 (up r 0 N) :: w0) _ _ := hW
    refine lv_goto (tgt := 21) hx hb dL_one_10 (by decide) ?_
    refine lv_iconst (v := nI 0) hx hb dL_one_21 (by decide) ?_
    exact e_int hx hb hr hlk hAe hW (by omega) (by omega) dL_one_22 (Or.inl ⟨rfl, _, w0, hp, rfl⟩)
set_option maxHeartbeats 4000000 in
set_option maxRecDepth 100000 in
theorem w_two (l : Launch) (Z : Zt) (hb0 hk hc hm : Nat) (x : CS) (mo : Int32) (n wg : Nat) (o : Option (Nat × Nat × (Nat → Option Nat))) (vd vb stb wd : Nat → Nat) (rw : Nat → Nat → Nat) (x0 : Int32) (x1 : Int32) (x2 : Int32) (out N mc ms : Nat) (r : Nat → Nat) {post : Option Value → va_W → Prop} {px : String → Prop} (hM : MX l yX3_two cX3_two 7 (some .int) 11 600 mc ms Z (cw Z hc x ++ bl Z hb0 hk hc hm wg mo n o) (fun H => BRO Z (cw Z hc x ++ bl Z hb0 hk hc hm wg mo n o) hk hc n vd vb stb wd rw H) [.ref hb0, .int x0, .int x1, .int x2] post px) (hp0 : ∀ v w1, post v w1 → v = some (.int (nI N))) (hN : N < 2 ^ 31) (hpx : ∀ E, px E → E = IAE ∨ E = ISE) : MH l yL_two cL_two 6 (some .int) [(0, 12, 15, 13), (0, 12, 19, 15)] 12 640 mc ms Z (el Z out 1 r :: (cw Z hc x ++ bl Z hb0 hk hc hm wg mo n o)) (fun H => BRO Z (el Z out 1 r :: (cw Z hc x ++ bl Z hb0 hk hc hm wg mo n o)) hk hc n vd vb stb wd rw H) [.ref hb0, .int x0, .int x1, .int x2, .ref out] (WQ Z (cw Z hc x ++ bl Z hb0 hk hc hm wg mo n o) out N r post px) := by
  refine mh_of (by decide) (Nat.le_of_ble_eq_true rfl) (fun p e s m below meth c ls A hx hb hr hts hown hlk hml hex hnc hK hG hW hA hAe hro hl R hRf hRc hRs hRl => ?_)
  have hl : lv_has ls 6 [(0, .ref hb0), (1, .int x0), (2, .int x1), (3, .int x2), (4, .ref out)] := hl
  have hW : Wd Z A s.heap (cw Z hc x ++ bl Z hb0 hk hc hm wg mo n o ++ [el Z out 1 r]) _ _ := Wd.swap2 (w1 := [el Z out 1 r]) (wc := cw Z hc x ++ bl Z hb0 hk hc hm wg mo n o) hW
  have mv : ∀ {H : Heap} {L : List Loc} (q : Nat × va_E), Wd Z A s.heap (cw Z hc x ++ bl Z hb0 hk hc hm wg mo n o ++ [el Z out 1 r]) H L → RO Z (el Z out 1 r :: (cw Z hc x ++ bl Z hb0 hk hc hm wg mo n o)) q s.heap → RO Z (cw Z hc x ++ bl Z hb0 hk hc hm wg mo n o) q H := fun q hW h => RO.pass h hAe hW
  refine lv_aload hx hb dL_two_0 (lv_at hl 4 rfl) ?_
  refine lv_iconst (v := nI 0) hx hb dL_two_2 (by decide) ?_
  refine lv_aload_n hx hb dL_two_3 rfl (lv_at hl 0 rfl) ?_
  refine lv_iload_n hx hb dL_two_4 rfl (lv_at hl 1 rfl) ?_
  refine lv_iload_n hx hb dL_two_5 rfl (lv_at hl 2 rfl) ?_
  refine lv_iload_n hx hb dL_two_6 rfl (lv_at hl 3 rfl) ?_
  refine x_virt (As := [.int x0, .int x1, .int x2]) (rest := [.int (nI 0), .ref out]) (wc := cw Z hc x ++ bl Z hb0 hk hc hm wg mo n o) (wr := [el Z out 1 r]) hx hb hml hown hts hK hG rfl hA hl hM hW ⟨mv _ hW hro.1, fun i hi => ⟨mv _ hW (hro.2 i hi).1, mv _ hW (hro.2 i hi).2⟩⟩ (hW.at 5 rfl) rfl rfl tb_392 tb_393 tb_394 tb_1 tb_395 (nA := 3) (by decide +kernel) rfl ⟨by omega, by omega⟩ ⟨by omega, by omega⟩ rfl (Nat.le_of_ble_eq_true rfl) dL_two_7 (fun E q9 ce H9 L9 hpx0 hWx hzx hkx hce hcv hcl => ?_) (fun v w0 H1 L1 hp hW hzz hkk hdd => ?_)
  · clear hW
    have hW : Wd Z A s.heap (el Z out 1 r :: (cw Z hc x ++ bl Z hb0 hk hc hm wg mo n o)) _ _ := Wd.swap2 (w1 := cw Z hc x ++ bl Z hb0 hk hc hm wg mo n o) (wc := [el Z out 1 r]) hWx
    rcases hpx E hpx0 with h9 | h9
    · subst h9
      refine vx_catch (own := RL) (name := IAE) (E := IAE) hown [] ⟨0, 12, 15, 13⟩ [⟨0, 12, 19, 15⟩] hex (fun z hz => absurd hz List.not_mem_nil) (by decide) (by decide) (hts _ tb_125) (nw_iae hG.1) hce hcv hcl ?_
      refine lv_astore (lv' := [(5, .ref q9), (0, .ref hb0), (1, .int x0), (2, .int x1), (3, .int x2), (4, .ref out)]) hx hb dL_two_15 hl (by decide) rfl (fun ls hl => ?_)
      refine lv_iconst (v := nI 1) hx hb dL_two_17 (by decide) ?_
      exact e_int hx hb hr hlk hAe hW (by omega) (by omega) dL_two_18 (Or.inr (Or.inl ⟨rfl, hpx0, rfl⟩))
    · subst h9
      refine vx_catch (own := RL) (name := ISE) (E := ISE) hown [⟨0, 12, 15, 13⟩] ⟨0, 12, 19, 15⟩ [] hex (fun z hz => Or.inr (by cases List.mem_singleton.mp hz; exact ⟨by decide, IAE, hts _ tb_125, hnc⟩)) (by decide) (by decide) (hts _ tb_126) (nw_ise hG.1) hce hcv hcl ?_
      refine lv_astore (lv' := [(5, .ref q9), (0, .ref hb0), (1, .int x0), (2, .int x1), (3, .int x2), (4, .ref out)]) hx hb dL_two_19 hl (by decide) rfl (fun ls hl => ?_)
      refine lv_iconst (v := nI 2) hx hb dL_two_21 (by decide) ?_
      exact e_int hx hb hr hlk hAe hW (by omega) (by omega) dL_two_22 (Or.inr (Or.inr ⟨rfl, hpx0, rfl⟩))
  · have hv := hp0 v w0 hp
    subst hv
    clear hzz hkk hdd
    refine W.eq (g2 := F0 m 10 ls [.int (nI N), .int (nI 0), .ref out]) rfl ?_
    refine lv_i2l (v := lN N) hx hb dL_two_10 (nI_long hN) ?_
    have hW : Wd Z A s.heap (el Z out 1 r :: w0) _ _ := Wd.swap2 (w1 := w0) (wc := [el Z out 1 r]) hW
    refine r_last (i := 0) (x := N) hx hb hK hW 0 rfl (by omega) (by omega) dL_two_11 (fun H locs hW => ?_)
    have hW : Wd Z A s.heap (el Z out 1 (up r 0 N) :: w0) _ _ := hW
    refine lv_goto (tgt := 23) hx hb dL_two_12 (by decide) ?_
    refine lv_iconst (v := nI 0) hx hb dL_two_23 (by decide) ?_
    exact e_int hx hb hr hlk hAe hW (by omega) (by omega) dL_two_24 (Or.inl ⟨rfl, _, w0, hp, rfl⟩)
set_option maxHeartbeats 4000000 in
set_option maxRecDepth 100000 in
theorem w_compare (l : Launch) (Z : Zt) (hb0 hk hc hm : Nat) (x : CS) (mo : Int32) (n wg : Nat) (o : Option (Nat × Nat × (Nat → Option Nat))) (vd vb stb wd : Nat → Nat) (rw : Nat → Nat → Nat) (x0 : Int32) (x1 : Int32) (x2 : Int32) (out N mc ms : Nat) (r : Nat → Nat) {post : Option Value → va_W → Prop} {px : String → Prop} (hM : MX l yX3_compare cX3_compare 8 (some .int) 11 600 mc ms Z (cw Z hc x ++ bl Z hb0 hk hc hm wg mo n o) (fun H => BRO Z (cw Z hc x ++ bl Z hb0 hk hc hm wg mo n o) hk hc n vd vb stb wd rw H) [.ref hb0, .int x0, .int x1, .int x2] post px) (hp0 : ∀ v w1, post v w1 → v = some (.int (nI N))) (hN : N < 2 ^ 31) (hpx : ∀ E, px E → E = IAE ∨ E = ISE) : MH l yL_compare cL_compare 6 (some .int) [(0, 12, 15, 13), (0, 12, 19, 15)] 12 640 mc ms Z (el Z out 1 r :: (cw Z hc x ++ bl Z hb0 hk hc hm wg mo n o)) (fun H => BRO Z (el Z out 1 r :: (cw Z hc x ++ bl Z hb0 hk hc hm wg mo n o)) hk hc n vd vb stb wd rw H) [.ref hb0, .int x0, .int x1, .int x2, .ref out] (WQ Z (cw Z hc x ++ bl Z hb0 hk hc hm wg mo n o) out N r post px) := by
  refine mh_of (by decide) (Nat.le_of_ble_eq_true rfl) (fun p e s m below meth c ls A hx hb hr hts hown hlk hml hex hnc hK hG hW hA hAe hro hl R hRf hRc hRs hRl => ?_)
  have hl : lv_has ls 6 [(0, .ref hb0), (1, .int x0), (2, .int x1), (3, .int x2), (4, .ref out)] := hl
  have hW : Wd Z A s.heap (cw Z hc x ++ bl Z hb0 hk hc hm wg mo n o ++ [el Z out 1 r]) _ _ := Wd.swap2 (w1 := [el Z out 1 r]) (wc := cw Z hc x ++ bl Z hb0 hk hc hm wg mo n o) hW
  have mv : ∀ {H : Heap} {L : List Loc} (q : Nat × va_E), Wd Z A s.heap (cw Z hc x ++ bl Z hb0 hk hc hm wg mo n o ++ [el Z out 1 r]) H L → RO Z (el Z out 1 r :: (cw Z hc x ++ bl Z hb0 hk hc hm wg mo n o)) q s.heap → RO Z (cw Z hc x ++ bl Z hb0 hk hc hm wg mo n o) q H := fun q hW h => RO.pass h hAe hW
  refine lv_aload hx hb dL_compare_0 (lv_at hl 4 rfl) ?_
  refine lv_iconst (v := nI 0) hx hb dL_compare_2 (by decide) ?_
  refine lv_aload_n hx hb dL_compare_3 rfl (lv_at hl 0 rfl) ?_
  refine lv_iload_n hx hb dL_compare_4 rfl (lv_at hl 1 rfl) ?_
  refine lv_iload_n hx hb dL_compare_5 rfl (lv_at hl 2 rfl) ?_
  refine lv_iload_n hx hb dL_compare_6 rfl (lv_at hl 3 rfl) ?_
  refine x_virt (As := [.int x0, .int x1, .int x2]) (rest := [.int (nI 0), .ref out]) (wc := cw Z hc x ++ bl Z hb0 hk hc hm wg mo n o) (wr := [el Z out 1 r]) hx hb hml hown hts hK hG rfl hA hl hM hW ⟨mv _ hW hro.1, fun i hi => ⟨mv _ hW (hro.2 i hi).1, mv _ hW (hro.2 i hi).2⟩⟩ (hW.at 5 rfl) rfl rfl tb_672 tb_673 tb_674 tb_1 tb_675 (nA := 3) (by decide +kernel) rfl ⟨by omega, by omega⟩ ⟨by omega, by omega⟩ rfl (Nat.le_of_ble_eq_true rfl) dL_compare_7 (fun E q9 ce H9 L9 hpx0 hWx hzx hkx hce hcv hcl => ?_) (fun v w0 H1 L1 hp hW hzz hkk hdd => ?_)
  · clear hW
    have hW : Wd Z A s.heap (el Z out 1 r :: (cw Z hc x ++ bl Z hb0 hk hc hm wg mo n o)) _ _ := Wd.swap2 (w1 := cw Z hc x ++ bl Z hb0 hk hc hm wg mo n o) (wc := [el Z out 1 r]) hWx
    rcases hpx E hpx0 with h9 | h9
    · subst h9
      refine vx_catch (own := RL) (name := IAE) (E := IAE) hown [] ⟨0, 12, 15, 13⟩ [⟨0, 12, 19, 15⟩] hex (fun z hz => absurd hz List.not_mem_nil) (by decide) (by decide) (hts _ tb_125) (nw_iae hG.1) hce hcv hcl ?_
      refine lv_astore (lv' := [(5, .ref q9), (0, .ref hb0), (1, .int x0), (2, .int x1), (3, .int x2), (4, .ref out)]) hx hb dL_compare_15 hl (by decide) rfl (fun ls hl => ?_)
      refine lv_iconst (v := nI 1) hx hb dL_compare_17 (by decide) ?_
      exact e_int hx hb hr hlk hAe hW (by omega) (by omega) dL_compare_18 (Or.inr (Or.inl ⟨rfl, hpx0, rfl⟩))
    · subst h9
      refine vx_catch (own := RL) (name := ISE) (E := ISE) hown [⟨0, 12, 15, 13⟩] ⟨0, 12, 19, 15⟩ [] hex (fun z hz => Or.inr (by cases List.mem_singleton.mp hz; exact ⟨by decide, IAE, hts _ tb_125, hnc⟩)) (by decide) (by decide) (hts _ tb_126) (nw_ise hG.1) hce hcv hcl ?_
      refine lv_astore (lv' := [(5, .ref q9), (0, .ref hb0), (1, .int x0), (2, .int x1), (3, .int x2), (4, .ref out)]) hx hb dL_compare_19 hl (by decide) rfl (fun ls hl => ?_)
      refine lv_iconst (v := nI 2) hx hb dL_compare_21 (by decide) ?_
      exact e_int hx hb hr hlk hAe hW (by omega) (by omega) dL_compare_22 (Or.inr (Or.inr ⟨rfl, hpx0, rfl⟩))
  · have hv := hp0 v w0 hp
    subst hv
    clear hzz hkk hdd
    refine W.eq (g2 := F0 m 10 ls [.int (nI N), .int (nI 0), .ref out]) rfl ?_
    refine lv_i2l (v := lN N) hx hb dL_compare_10 (nI_long hN) ?_
    have hW : Wd Z A s.heap (el Z out 1 r :: w0) _ _ := Wd.swap2 (w1 := w0) (wc := [el Z out 1 r]) hW
    refine r_last (i := 0) (x := N) hx hb hK hW 0 rfl (by omega) (by omega) dL_compare_11 (fun H locs hW => ?_)
    have hW : Wd Z A s.heap (el Z out 1 (up r 0 N) :: w0) _ _ := hW
    refine lv_goto (tgt := 23) hx hb dL_compare_12 (by decide) ?_
    refine lv_iconst (v := nI 0) hx hb dL_compare_23 (by decide) ?_
    exact e_int hx hb hr hlk hAe hW (by omega) (by omega) dL_compare_24 (Or.inl ⟨rfl, _, w0, hp, rfl⟩)
set_option maxHeartbeats 4000000 in
set_option maxRecDepth 100000 in
theorem w_choose (l : Launch) (Z : Zt) (hb0 hk hc hm : Nat) (x : CS) (mo : Int32) (n wg : Nat) (o : Option (Nat × Nat × (Nat → Option Nat))) (vd vb stb wd : Nat → Nat) (rw : Nat → Nat → Nat) (x0 : Int32) (x1 : Int32) (x2 : Int32) (out N mc ms : Nat) (r : Nat → Nat) {post : Option Value → va_W → Prop} {px : String → Prop} (hM : MX l yX3_choose cX3_choose 8 (some .int) 11 600 mc ms Z (cw Z hc x ++ bl Z hb0 hk hc hm wg mo n o) (fun H => BRO Z (cw Z hc x ++ bl Z hb0 hk hc hm wg mo n o) hk hc n vd vb stb wd rw H) [.ref hb0, .int x0, .int x1, .int x2] post px) (hp0 : ∀ v w1, post v w1 → v = some (.int (nI N))) (hN : N < 2 ^ 31) (hpx : ∀ E, px E → E = IAE ∨ E = ISE) : MH l yL_choose cL_choose 6 (some .int) [(0, 12, 15, 13), (0, 12, 19, 15)] 12 640 mc ms Z (el Z out 1 r :: (cw Z hc x ++ bl Z hb0 hk hc hm wg mo n o)) (fun H => BRO Z (el Z out 1 r :: (cw Z hc x ++ bl Z hb0 hk hc hm wg mo n o)) hk hc n vd vb stb wd rw H) [.ref hb0, .int x0, .int x1, .int x2, .ref out] (WQ Z (cw Z hc x ++ bl Z hb0 hk hc hm wg mo n o) out N r post px) := by
  refine mh_of (by decide) (Nat.le_of_ble_eq_true rfl) (fun p e s m below meth c ls A hx hb hr hts hown hlk hml hex hnc hK hG hW hA hAe hro hl R hRf hRc hRs hRl => ?_)
  have hl : lv_has ls 6 [(0, .ref hb0), (1, .int x0), (2, .int x1), (3, .int x2), (4, .ref out)] := hl
  have hW : Wd Z A s.heap (cw Z hc x ++ bl Z hb0 hk hc hm wg mo n o ++ [el Z out 1 r]) _ _ := Wd.swap2 (w1 := [el Z out 1 r]) (wc := cw Z hc x ++ bl Z hb0 hk hc hm wg mo n o) hW
  have mv : ∀ {H : Heap} {L : List Loc} (q : Nat × va_E), Wd Z A s.heap (cw Z hc x ++ bl Z hb0 hk hc hm wg mo n o ++ [el Z out 1 r]) H L → RO Z (el Z out 1 r :: (cw Z hc x ++ bl Z hb0 hk hc hm wg mo n o)) q s.heap → RO Z (cw Z hc x ++ bl Z hb0 hk hc hm wg mo n o) q H := fun q hW h => RO.pass h hAe hW
  refine lv_aload hx hb dL_choose_0 (lv_at hl 4 rfl) ?_
  refine lv_iconst (v := nI 0) hx hb dL_choose_2 (by decide) ?_
  refine lv_aload_n hx hb dL_choose_3 rfl (lv_at hl 0 rfl) ?_
  refine lv_iload_n hx hb dL_choose_4 rfl (lv_at hl 1 rfl) ?_
  refine lv_iload_n hx hb dL_choose_5 rfl (lv_at hl 2 rfl) ?_
  refine lv_iload_n hx hb dL_choose_6 rfl (lv_at hl 3 rfl) ?_
  refine x_virt (As := [.int x0, .int x1, .int x2]) (rest := [.int (nI 0), .ref out]) (wc := cw Z hc x ++ bl Z hb0 hk hc hm wg mo n o) (wr := [el Z out 1 r]) hx hb hml hown hts hK hG rfl hA hl hM hW ⟨mv _ hW hro.1, fun i hi => ⟨mv _ hW (hro.2 i hi).1, mv _ hW (hro.2 i hi).2⟩⟩ (hW.at 5 rfl) rfl rfl tb_696 tb_697 tb_698 tb_1 tb_699 (nA := 3) (by decide +kernel) rfl ⟨by omega, by omega⟩ ⟨by omega, by omega⟩ rfl (Nat.le_of_ble_eq_true rfl) dL_choose_7 (fun E q9 ce H9 L9 hpx0 hWx hzx hkx hce hcv hcl => ?_) (fun v w0 H1 L1 hp hW hzz hkk hdd => ?_)
  · clear hW
    have hW : Wd Z A s.heap (el Z out 1 r :: (cw Z hc x ++ bl Z hb0 hk hc hm wg mo n o)) _ _ := Wd.swap2 (w1 := cw Z hc x ++ bl Z hb0 hk hc hm wg mo n o) (wc := [el Z out 1 r]) hWx
    rcases hpx E hpx0 with h9 | h9
    · subst h9
      refine vx_catch (own := RL) (name := IAE) (E := IAE) hown [] ⟨0, 12, 15, 13⟩ [⟨0, 12, 19, 15⟩] hex (fun z hz => absurd hz List.not_mem_nil) (by decide) (by decide) (hts _ tb_125) (nw_iae hG.1) hce hcv hcl ?_
      refine lv_astore (lv' := [(5, .ref q9), (0, .ref hb0), (1, .int x0), (2, .int x1), (3, .int x2), (4, .ref out)]) hx hb dL_choose_15 hl (by decide) rfl (fun ls hl => ?_)
      refine lv_iconst (v := nI 1) hx hb dL_choose_17 (by decide) ?_
      exact e_int hx hb hr hlk hAe hW (by omega) (by omega) dL_choose_18 (Or.inr (Or.inl ⟨rfl, hpx0, rfl⟩))
    · subst h9
      refine vx_catch (own := RL) (name := ISE) (E := ISE) hown [⟨0, 12, 15, 13⟩] ⟨0, 12, 19, 15⟩ [] hex (fun z hz => Or.inr (by cases List.mem_singleton.mp hz; exact ⟨by decide, IAE, hts _ tb_125, hnc⟩)) (by decide) (by decide) (hts _ tb_126) (nw_ise hG.1) hce hcv hcl ?_
      refine lv_astore (lv' := [(5, .ref q9), (0, .ref hb0), (1, .int x0), (2, .int x1), (3, .int x2), (4, .ref out)]) hx hb dL_choose_19 hl (by decide) rfl (fun ls hl => ?_)
      refine lv_iconst (v := nI 2) hx hb dL_choose_21 (by decide) ?_
      exact e_int hx hb hr hlk hAe hW (by omega) (by omega) dL_choose_22 (Or.inr (Or.inr ⟨rfl, hpx0, rfl⟩))
  · have hv := hp0 v w0 hp
    subst hv
    clear hzz hkk hdd
    refine W.eq (g2 := F0 m 10 ls [.int (nI N), .int (nI 0), .ref out]) rfl ?_
    refine lv_i2l (v := lN N) hx hb dL_choose_10 (nI_long hN) ?_
    have hW : Wd Z A s.heap (el Z out 1 r :: w0) _ _ := Wd.swap2 (w1 := w0) (wc := [el Z out 1 r]) hW
    refine r_last (i := 0) (x := N) hx hb hK hW 0 rfl (by omega) (by omega) dL_choose_11 (fun H locs hW => ?_)
    have hW : Wd Z A s.heap (el Z out 1 (up r 0 N) :: w0) _ _ := hW
    refine lv_goto (tgt := 23) hx hb dL_choose_12 (by decide) ?_
    refine lv_iconst (v := nI 0) hx hb dL_choose_23 (by decide) ?_
    exact e_int hx hb hr hlk hAe hW (by omega) (by omega) dL_choose_24 (Or.inl ⟨rfl, _, w0, hp, rfl⟩)
set_option maxHeartbeats 4000000 in
set_option maxRecDepth 100000 in
theorem w_concat (l : Launch) (Z : Zt) (hb0 hk hc hm : Nat) (x : CS) (mo : Int32) (n wg : Nat) (o : Option (Nat × Nat × (Nat → Option Nat))) (vd vb stb wd : Nat → Nat) (rw : Nat → Nat → Nat) (x0 : Int32) (x1 : Int32) (out N mc ms : Nat) (r : Nat → Nat) {post : Option Value → va_W → Prop} {px : String → Prop} (hM : MX l yX3_concat cX3_concat 7 (some .int) 11 600 mc ms Z (cw Z hc x ++ bl Z hb0 hk hc hm wg mo n o) (fun H => BRO Z (cw Z hc x ++ bl Z hb0 hk hc hm wg mo n o) hk hc n vd vb stb wd rw H) [.ref hb0, .int x0, .int x1] post px) (hp0 : ∀ v w1, post v w1 → v = some (.int (nI N))) (hN : N < 2 ^ 31) (hpx : ∀ E, px E → E = IAE ∨ E = ISE) : MH l yL_concat cL_concat 5 (some .int) [(0, 10, 13, 13), (0, 10, 17, 15)] 12 640 mc ms Z (el Z out 1 r :: (cw Z hc x ++ bl Z hb0 hk hc hm wg mo n o)) (fun H => BRO Z (el Z out 1 r :: (cw Z hc x ++ bl Z hb0 hk hc hm wg mo n o)) hk hc n vd vb stb wd rw H) [.ref hb0, .int x0, .int x1, .ref out] (WQ Z (cw Z hc x ++ bl Z hb0 hk hc hm wg mo n o) out N r post px) := by
  refine mh_of (by decide) (Nat.le_of_ble_eq_true rfl) (fun p e s m below meth c ls A hx hb hr hts hown hlk hml hex hnc hK hG hW hA hAe hro hl R hRf hRc hRs hRl => ?_)
  have hl : lv_has ls 5 [(0, .ref hb0), (1, .int x0), (2, .int x1), (3, .ref out)] := hl
  have hW : Wd Z A s.heap (cw Z hc x ++ bl Z hb0 hk hc hm wg mo n o ++ [el Z out 1 r]) _ _ := Wd.swap2 (w1 := [el Z out 1 r]) (wc := cw Z hc x ++ bl Z hb0 hk hc hm wg mo n o) hW
  have mv : ∀ {H : Heap} {L : List Loc} (q : Nat × va_E), Wd Z A s.heap (cw Z hc x ++ bl Z hb0 hk hc hm wg mo n o ++ [el Z out 1 r]) H L → RO Z (el Z out 1 r :: (cw Z hc x ++ bl Z hb0 hk hc hm wg mo n o)) q s.heap → RO Z (cw Z hc x ++ bl Z hb0 hk hc hm wg mo n o) q H := fun q hW h => RO.pass h hAe hW
  refine lv_aload_n hx hb dL_concat_0 rfl (lv_at hl 3 rfl) ?_
  refine lv_iconst (v := nI 0) hx hb dL_concat_1 (by decide) ?_
  refine lv_aload_n hx hb dL_concat_2 rfl (lv_at hl 0 rfl) ?_
  refine lv_iload_n hx hb dL_concat_3 rfl (lv_at hl 1 rfl) ?_
  refine lv_iload_n hx hb dL_concat_4 rfl (lv_at hl 2 rfl) ?_
  refine x_virt (As := [.int x0, .int x1]) (rest := [.int (nI 0), .ref out]) (wc := cw Z hc x ++ bl Z hb0 hk hc hm wg mo n o) (wr := [el Z out 1 r]) hx hb hml hown hts hK hG rfl hA hl hM hW ⟨mv _ hW hro.1, fun i hi => ⟨mv _ hW (hro.2 i hi).1, mv _ hW (hro.2 i hi).2⟩⟩ (hW.at 5 rfl) rfl rfl tb_705 tb_706 tb_707 tb_1 tb_708 (nA := 2) (by decide +kernel) rfl ⟨by omega, by omega⟩ ⟨by omega, by omega⟩ rfl (Nat.le_of_ble_eq_true rfl) dL_concat_5 (fun E q9 ce H9 L9 hpx0 hWx hzx hkx hce hcv hcl => ?_) (fun v w0 H1 L1 hp hW hzz hkk hdd => ?_)
  · clear hW
    have hW : Wd Z A s.heap (el Z out 1 r :: (cw Z hc x ++ bl Z hb0 hk hc hm wg mo n o)) _ _ := Wd.swap2 (w1 := cw Z hc x ++ bl Z hb0 hk hc hm wg mo n o) (wc := [el Z out 1 r]) hWx
    rcases hpx E hpx0 with h9 | h9
    · subst h9
      refine vx_catch (own := RL) (name := IAE) (E := IAE) hown [] ⟨0, 10, 13, 13⟩ [⟨0, 10, 17, 15⟩] hex (fun z hz => absurd hz List.not_mem_nil) (by decide) (by decide) (hts _ tb_125) (nw_iae hG.1) hce hcv hcl ?_
      refine lv_astore (lv' := [(4, .ref q9), (0, .ref hb0), (1, .int x0), (2, .int x1), (3, .ref out)]) hx hb dL_concat_13 hl (by decide) rfl (fun ls hl => ?_)
      refine lv_iconst (v := nI 1) hx hb dL_concat_15 (by decide) ?_
      exact e_int hx hb hr hlk hAe hW (by omega) (by omega) dL_concat_16 (Or.inr (Or.inl ⟨rfl, hpx0, rfl⟩))
    · subst h9
      refine vx_catch (own := RL) (name := ISE) (E := ISE) hown [⟨0, 10, 13, 13⟩] ⟨0, 10, 17, 15⟩ [] hex (fun z hz => Or.inr (by cases List.mem_singleton.mp hz; exact ⟨by decide, IAE, hts _ tb_125, hnc⟩)) (by decide) (by decide) (hts _ tb_126) (nw_ise hG.1) hce hcv hcl ?_
      refine lv_astore (lv' := [(4, .ref q9), (0, .ref hb0), (1, .int x0), (2, .int x1), (3, .ref out)]) hx hb dL_concat_17 hl (by decide) rfl (fun ls hl => ?_)
      refine lv_iconst (v := nI 2) hx hb dL_concat_19 (by decide) ?_
      exact e_int hx hb hr hlk hAe hW (by omega) (by omega) dL_concat_20 (Or.inr (Or.inr ⟨rfl, hpx0, rfl⟩))
  · have hv := hp0 v w0 hp
    subst hv
    clear hzz hkk hdd
    refine W.eq (g2 := F0 m 8 ls [.int (nI N), .int (nI 0), .ref out]) rfl ?_
    refine lv_i2l (v := lN N) hx hb dL_concat_8 (nI_long hN) ?_
    have hW : Wd Z A s.heap (el Z out 1 r :: w0) _ _ := Wd.swap2 (w1 := w0) (wc := [el Z out 1 r]) hW
    refine r_last (i := 0) (x := N) hx hb hK hW 0 rfl (by omega) (by omega) dL_concat_9 (fun H locs hW => ?_)
    have hW : Wd Z A s.heap (el Z out 1 (up r 0 N) :: w0) _ _ := hW
    refine lv_goto (tgt := 21) hx hb dL_concat_10 (by decide) ?_
    refine lv_iconst (v := nI 0) hx hb dL_concat_21 (by decide) ?_
    exact e_int hx hb hr hlk hAe hW (by omega) (by omega) dL_concat_22 (Or.inl ⟨rfl, _, w0, hp, rfl⟩)
set_option maxHeartbeats 4000000 in
set_option maxRecDepth 100000 in
theorem w_extract (l : Launch) (Z : Zt) (hb0 hk hc hm : Nat) (x : CS) (mo : Int32) (n wg : Nat) (o : Option (Nat × Nat × (Nat → Option Nat))) (vd vb stb wd : Nat → Nat) (rw : Nat → Nat → Nat) (x0 : Int32) (x1 : Int32) (x2 : Int32) (out N mc ms : Nat) (r : Nat → Nat) {post : Option Value → va_W → Prop} {px : String → Prop} (hM : MX l yX3_extract cX3_extract 6 (some .int) 11 600 mc ms Z (cw Z hc x ++ bl Z hb0 hk hc hm wg mo n o) (fun H => BRO Z (cw Z hc x ++ bl Z hb0 hk hc hm wg mo n o) hk hc n vd vb stb wd rw H) [.ref hb0, .int x0, .int x1, .int x2] post px) (hp0 : ∀ v w1, post v w1 → v = some (.int (nI N))) (hN : N < 2 ^ 31) (hpx : ∀ E, px E → E = IAE ∨ E = ISE) : MH l yL_extract cL_extract 6 (some .int) [(0, 12, 15, 13), (0, 12, 19, 15)] 12 640 mc ms Z (el Z out 1 r :: (cw Z hc x ++ bl Z hb0 hk hc hm wg mo n o)) (fun H => BRO Z (el Z out 1 r :: (cw Z hc x ++ bl Z hb0 hk hc hm wg mo n o)) hk hc n vd vb stb wd rw H) [.ref hb0, .int x0, .int x1, .int x2, .ref out] (WQ Z (cw Z hc x ++ bl Z hb0 hk hc hm wg mo n o) out N r post px) := by
  refine mh_of (by decide) (Nat.le_of_ble_eq_true rfl) (fun p e s m below meth c ls A hx hb hr hts hown hlk hml hex hnc hK hG hW hA hAe hro hl R hRf hRc hRs hRl => ?_)
  have hl : lv_has ls 6 [(0, .ref hb0), (1, .int x0), (2, .int x1), (3, .int x2), (4, .ref out)] := hl
  have hW : Wd Z A s.heap (cw Z hc x ++ bl Z hb0 hk hc hm wg mo n o ++ [el Z out 1 r]) _ _ := Wd.swap2 (w1 := [el Z out 1 r]) (wc := cw Z hc x ++ bl Z hb0 hk hc hm wg mo n o) hW
  have mv : ∀ {H : Heap} {L : List Loc} (q : Nat × va_E), Wd Z A s.heap (cw Z hc x ++ bl Z hb0 hk hc hm wg mo n o ++ [el Z out 1 r]) H L → RO Z (el Z out 1 r :: (cw Z hc x ++ bl Z hb0 hk hc hm wg mo n o)) q s.heap → RO Z (cw Z hc x ++ bl Z hb0 hk hc hm wg mo n o) q H := fun q hW h => RO.pass h hAe hW
  refine lv_aload hx hb dL_extract_0 (lv_at hl 4 rfl) ?_
  refine lv_iconst (v := nI 0) hx hb dL_extract_2 (by decide) ?_
  refine lv_aload_n hx hb dL_extract_3 rfl (lv_at hl 0 rfl) ?_
  refine lv_iload_n hx hb dL_extract_4 rfl (lv_at hl 1 rfl) ?_
  refine lv_iload_n hx hb dL_extract_5 rfl (lv_at hl 2 rfl) ?_
  refine lv_iload_n hx hb dL_extract_6 rfl (lv_at hl 3 rfl) ?_
  refine x_virt (As := [.int x0, .int x1, .int x2]) (rest := [.int (nI 0), .ref out]) (wc := cw Z hc x ++ bl Z hb0 hk hc hm wg mo n o) (wr := [el Z out 1 r]) hx hb hml hown hts hK hG rfl hA hl hM hW ⟨mv _ hW hro.1, fun i hi => ⟨mv _ hW (hro.2 i hi).1, mv _ hW (hro.2 i hi).2⟩⟩ (hW.at 5 rfl) rfl rfl tb_714 tb_715 tb_716 tb_1 tb_717 (nA := 3) (by decide +kernel) rfl ⟨by omega, by omega⟩ ⟨by omega, by omega⟩ rfl (Nat.le_of_ble_eq_true rfl) dL_extract_7 (fun E q9 ce H9 L9 hpx0 hWx hzx hkx hce hcv hcl => ?_) (fun v w0 H1 L1 hp hW hzz hkk hdd => ?_)
  · clear hW
    have hW : Wd Z A s.heap (el Z out 1 r :: (cw Z hc x ++ bl Z hb0 hk hc hm wg mo n o)) _ _ := Wd.swap2 (w1 := cw Z hc x ++ bl Z hb0 hk hc hm wg mo n o) (wc := [el Z out 1 r]) hWx
    rcases hpx E hpx0 with h9 | h9
    · subst h9
      refine vx_catch (own := RL) (name := IAE) (E := IAE) hown [] ⟨0, 12, 15, 13⟩ [⟨0, 12, 19, 15⟩] hex (fun z hz => absurd hz List.not_mem_nil) (by decide) (by decide) (hts _ tb_125) (nw_iae hG.1) hce hcv hcl ?_
      refine lv_astore (lv' := [(5, .ref q9), (0, .ref hb0), (1, .int x0), (2, .int x1), (3, .int x2), (4, .ref out)]) hx hb dL_extract_15 hl (by decide) rfl (fun ls hl => ?_)
      refine lv_iconst (v := nI 1) hx hb dL_extract_17 (by decide) ?_
      exact e_int hx hb hr hlk hAe hW (by omega) (by omega) dL_extract_18 (Or.inr (Or.inl ⟨rfl, hpx0, rfl⟩))
    · subst h9
      refine vx_catch (own := RL) (name := ISE) (E := ISE) hown [⟨0, 12, 15, 13⟩] ⟨0, 12, 19, 15⟩ [] hex (fun z hz => Or.inr (by cases List.mem_singleton.mp hz; exact ⟨by decide, IAE, hts _ tb_125, hnc⟩)) (by decide) (by decide) (hts _ tb_126) (nw_ise hG.1) hce hcv hcl ?_
      refine lv_astore (lv' := [(5, .ref q9), (0, .ref hb0), (1, .int x0), (2, .int x1), (3, .int x2), (4, .ref out)]) hx hb dL_extract_19 hl (by decide) rfl (fun ls hl => ?_)
      refine lv_iconst (v := nI 2) hx hb dL_extract_21 (by decide) ?_
      exact e_int hx hb hr hlk hAe hW (by omega) (by omega) dL_extract_22 (Or.inr (Or.inr ⟨rfl, hpx0, rfl⟩))
  · have hv := hp0 v w0 hp
    subst hv
    clear hzz hkk hdd
    refine W.eq (g2 := F0 m 10 ls [.int (nI N), .int (nI 0), .ref out]) rfl ?_
    refine lv_i2l (v := lN N) hx hb dL_extract_10 (nI_long hN) ?_
    have hW : Wd Z A s.heap (el Z out 1 r :: w0) _ _ := Wd.swap2 (w1 := w0) (wc := [el Z out 1 r]) hW
    refine r_last (i := 0) (x := N) hx hb hK hW 0 rfl (by omega) (by omega) dL_extract_11 (fun H locs hW => ?_)
    have hW : Wd Z A s.heap (el Z out 1 (up r 0 N) :: w0) _ _ := hW
    refine lv_goto (tgt := 23) hx hb dL_extract_12 (by decide) ?_
    refine lv_iconst (v := nI 0) hx hb dL_extract_23 (by decide) ?_
    exact e_int hx hb hr hlk hAe hW (by omega) (by omega) dL_extract_24 (Or.inl ⟨rfl, _, w0, hp, rfl⟩)
set_option maxHeartbeats 4000000 in
set_option maxRecDepth 100000 in
theorem w_extend (l : Launch) (Z : Zt) (hb0 hk hc hm : Nat) (x : CS) (mo : Int32) (n wg : Nat) (o : Option (Nat × Nat × (Nat → Option Nat))) (vd vb stb wd : Nat → Nat) (rw : Nat → Nat → Nat) (x0 : Int32) (x1 : Int32) (x2 : Int32) (out N mc ms : Nat) (r : Nat → Nat) {post : Option Value → va_W → Prop} {px : String → Prop} (hM : MX l yX3_extend cX3_extend 7 (some .int) 11 600 mc ms Z (cw Z hc x ++ bl Z hb0 hk hc hm wg mo n o) (fun H => BRO Z (cw Z hc x ++ bl Z hb0 hk hc hm wg mo n o) hk hc n vd vb stb wd rw H) [.ref hb0, .int x0, .int x1, .int x2] post px) (hp0 : ∀ v w1, post v w1 → v = some (.int (nI N))) (hN : N < 2 ^ 31) (hpx : ∀ E, px E → E = IAE ∨ E = ISE) : MH l yL_extend cL_extend 6 (some .int) [(0, 12, 15, 13), (0, 12, 19, 15)] 12 640 mc ms Z (el Z out 1 r :: (cw Z hc x ++ bl Z hb0 hk hc hm wg mo n o)) (fun H => BRO Z (el Z out 1 r :: (cw Z hc x ++ bl Z hb0 hk hc hm wg mo n o)) hk hc n vd vb stb wd rw H) [.ref hb0, .int x0, .int x1, .int x2, .ref out] (WQ Z (cw Z hc x ++ bl Z hb0 hk hc hm wg mo n o) out N r post px) := by
  refine mh_of (by decide) (Nat.le_of_ble_eq_true rfl) (fun p e s m below meth c ls A hx hb hr hts hown hlk hml hex hnc hK hG hW hA hAe hro hl R hRf hRc hRs hRl => ?_)
  have hl : lv_has ls 6 [(0, .ref hb0), (1, .int x0), (2, .int x1), (3, .int x2), (4, .ref out)] := hl
  have hW : Wd Z A s.heap (cw Z hc x ++ bl Z hb0 hk hc hm wg mo n o ++ [el Z out 1 r]) _ _ := Wd.swap2 (w1 := [el Z out 1 r]) (wc := cw Z hc x ++ bl Z hb0 hk hc hm wg mo n o) hW
  have mv : ∀ {H : Heap} {L : List Loc} (q : Nat × va_E), Wd Z A s.heap (cw Z hc x ++ bl Z hb0 hk hc hm wg mo n o ++ [el Z out 1 r]) H L → RO Z (el Z out 1 r :: (cw Z hc x ++ bl Z hb0 hk hc hm wg mo n o)) q s.heap → RO Z (cw Z hc x ++ bl Z hb0 hk hc hm wg mo n o) q H := fun q hW h => RO.pass h hAe hW
  refine lv_aload hx hb dL_extend_0 (lv_at hl 4 rfl) ?_
  refine lv_iconst (v := nI 0) hx hb dL_extend_2 (by decide) ?_
  refine lv_aload_n hx hb dL_extend_3 rfl (lv_at hl 0 rfl) ?_
  refine lv_iload_n hx hb dL_extend_4 rfl (lv_at hl 1 rfl) ?_
  refine lv_iload_n hx hb dL_extend_5 rfl (lv_at hl 2 rfl) ?_
  refine lv_iload_n hx hb dL_extend_6 rfl (lv_at hl 3 rfl) ?_
  refine x_virt (As := [.int x0, .int x1, .int x2]) (rest := [.int (nI 0), .ref out]) (wc := cw Z hc x ++ bl Z hb0 hk hc hm wg mo n o) (wr := [el Z out 1 r]) hx hb hml hown hts hK hG rfl hA hl hM hW ⟨mv _ hW hro.1, fun i hi => ⟨mv _ hW (hro.2 i hi).1, mv _ hW (hro.2 i hi).2⟩⟩ (hW.at 5 rfl) rfl rfl tb_723 tb_724 tb_725 tb_1 tb_726 (nA := 3) (by decide +kernel) rfl ⟨by omega, by omega⟩ ⟨by omega, by omega⟩ rfl (Nat.le_of_ble_eq_true rfl) dL_extend_7 (fun E q9 ce H9 L9 hpx0 hWx hzx hkx hce hcv hcl => ?_) (fun v w0 H1 L1 hp hW hzz hkk hdd => ?_)
  · clear hW
    have hW : Wd Z A s.heap (el Z out 1 r :: (cw Z hc x ++ bl Z hb0 hk hc hm wg mo n o)) _ _ := Wd.swap2 (w1 := cw Z hc x ++ bl Z hb0 hk hc hm wg mo n o) (wc := [el Z out 1 r]) hWx
    rcases hpx E hpx0 with h9 | h9
    · subst h9
      refine vx_catch (own := RL) (name := IAE) (E := IAE) hown [] ⟨0, 12, 15, 13⟩ [⟨0, 12, 19, 15⟩] hex (fun z hz => absurd hz List.not_mem_nil) (by decide) (by decide) (hts _ tb_125) (nw_iae hG.1) hce hcv hcl ?_
      refine lv_astore (lv' := [(5, .ref q9), (0, .ref hb0), (1, .int x0), (2, .int x1), (3, .int x2), (4, .ref out)]) hx hb dL_extend_15 hl (by decide) rfl (fun ls hl => ?_)
      refine lv_iconst (v := nI 1) hx hb dL_extend_17 (by decide) ?_
      exact e_int hx hb hr hlk hAe hW (by omega) (by omega) dL_extend_18 (Or.inr (Or.inl ⟨rfl, hpx0, rfl⟩))
    · subst h9
      refine vx_catch (own := RL) (name := ISE) (E := ISE) hown [⟨0, 12, 15, 13⟩] ⟨0, 12, 19, 15⟩ [] hex (fun z hz => Or.inr (by cases List.mem_singleton.mp hz; exact ⟨by decide, IAE, hts _ tb_125, hnc⟩)) (by decide) (by decide) (hts _ tb_126) (nw_ise hG.1) hce hcv hcl ?_
      refine lv_astore (lv' := [(5, .ref q9), (0, .ref hb0), (1, .int x0), (2, .int x1), (3, .int x2), (4, .ref out)]) hx hb dL_extend_19 hl (by decide) rfl (fun ls hl => ?_)
      refine lv_iconst (v := nI 2) hx hb dL_extend_21 (by decide) ?_
      exact e_int hx hb hr hlk hAe hW (by omega) (by omega) dL_extend_22 (Or.inr (Or.inr ⟨rfl, hpx0, rfl⟩))
  · have hv := hp0 v w0 hp
    subst hv
    clear hzz hkk hdd
    refine W.eq (g2 := F0 m 10 ls [.int (nI N), .int (nI 0), .ref out]) rfl ?_
    refine lv_i2l (v := lN N) hx hb dL_extend_10 (nI_long hN) ?_
    have hW : Wd Z A s.heap (el Z out 1 r :: w0) _ _ := Wd.swap2 (w1 := w0) (wc := [el Z out 1 r]) hW
    refine r_last (i := 0) (x := N) hx hb hK hW 0 rfl (by omega) (by omega) dL_extend_11 (fun H locs hW => ?_)
    have hW : Wd Z A s.heap (el Z out 1 (up r 0 N) :: w0) _ _ := hW
    refine lv_goto (tgt := 23) hx hb dL_extend_12 (by decide) ?_
    refine lv_iconst (v := nI 0) hx hb dL_extend_23 (by decide) ?_
    exact e_int hx hb hr hlk hAe hW (by omega) (by omega) dL_extend_24 (Or.inl ⟨rfl, _, w0, hp, rfl⟩)
set_option maxHeartbeats 4000000 in
set_option maxRecDepth 100000 in
theorem w_set (l : Launch) (Z : Zt) (hb0 hk hc hm : Nat) (x : CS) (mo : Int32) (n wg : Nat) (o : Option (Nat × Nat × (Nat → Option Nat))) (vd vb stb wd : Nat → Nat) (rw : Nat → Nat → Nat) (x0 : Int32) (x1 : Int64) (out N mc ms : Nat) (r : Nat → Nat) {post : Option Value → va_W → Prop} {px : String → Prop} (hM : MX l yX3_set cX3_set 8 (some .long) 11 600 mc ms Z (cw Z hc x ++ bl Z hb0 hk hc hm wg mo n o) (fun H => BRO Z (cw Z hc x ++ bl Z hb0 hk hc hm wg mo n o) hk hc n vd vb stb wd rw H) [.ref hb0, .int x0, .long x1] post px) (hp0 : ∀ v w1, post v w1 → v = some (.long (lN N))) (hpx : ∀ E, px E → E = IAE ) : MH l yL_set cL_set 6 (some .int) [(0, 10, 13, 13)] 12 640 mc ms Z (el Z out 1 r :: (cw Z hc x ++ bl Z hb0 hk hc hm wg mo n o)) (fun H => BRO Z (el Z out 1 r :: (cw Z hc x ++ bl Z hb0 hk hc hm wg mo n o)) hk hc n vd vb stb wd rw H) [.ref hb0, .int x0, .long x1, .ref out] (WQ Z (cw Z hc x ++ bl Z hb0 hk hc hm wg mo n o) out N r post px) := by
  refine mh_of (by decide) (Nat.le_of_ble_eq_true rfl) (fun p e s m below meth c ls A hx hb hr hts hown hlk hml hex hnc hK hG hW hA hAe hro hl R hRf hRc hRs hRl => ?_)
  have hl : lv_has ls 6 [(0, .ref hb0), (1, .int x0), (2, .long x1), (4, .ref out)] := hl
  have hW : Wd Z A s.heap (cw Z hc x ++ bl Z hb0 hk hc hm wg mo n o ++ [el Z out 1 r]) _ _ := Wd.swap2 (w1 := [el Z out 1 r]) (wc := cw Z hc x ++ bl Z hb0 hk hc hm wg mo n o) hW
  have mv : ∀ {H : Heap} {L : List Loc} (q : Nat × va_E), Wd Z A s.heap (cw Z hc x ++ bl Z hb0 hk hc hm wg mo n o ++ [el Z out 1 r]) H L → RO Z (el Z out 1 r :: (cw Z hc x ++ bl Z hb0 hk hc hm wg mo n o)) q s.heap → RO Z (cw Z hc x ++ bl Z hb0 hk hc hm wg mo n o) q H := fun q hW h => RO.pass h hAe hW
  refine lv_aload hx hb dL_set_0 (lv_at hl 3 rfl) ?_
  refine lv_iconst (v := nI 0) hx hb dL_set_2 (by decide) ?_
  refine lv_aload_n hx hb dL_set_3 rfl (lv_at hl 0 rfl) ?_
  refine lv_iload_n hx hb dL_set_4 rfl (lv_at hl 1 rfl) ?_
  refine lv_lload_n hx hb dL_set_5 rfl (lv_at hl 2 rfl) ?_
  refine x_virt (As := [.int x0, .long x1]) (rest := [.int (nI 0), .ref out]) (wc := cw Z hc x ++ bl Z hb0 hk hc hm wg mo n o) (wr := [el Z out 1 r]) hx hb hml hown hts hK hG rfl hA hl hM hW ⟨mv _ hW hro.1, fun i hi => ⟨mv _ hW (hro.2 i hi).1, mv _ hW (hro.2 i hi).2⟩⟩ (hW.at 5 rfl) rfl rfl tb_740 tb_741 tb_742 tb_1 tb_743 (nA := 2) (by decide +kernel) rfl ⟨by omega, by omega⟩ ⟨by omega, by omega⟩ rfl (Nat.le_of_ble_eq_true rfl) dL_set_6 (fun E q9 ce H9 L9 hpx0 hWx hzx hkx hce hcv hcl => ?_) (fun v w0 H1 L1 hp hW hzz hkk hdd => ?_)
  · clear hW
    have hW : Wd Z A s.heap (el Z out 1 r :: (cw Z hc x ++ bl Z hb0 hk hc hm wg mo n o)) _ _ := Wd.swap2 (w1 := cw Z hc x ++ bl Z hb0 hk hc hm wg mo n o) (wc := [el Z out 1 r]) hWx
    have h9 := hpx E hpx0
    subst h9
    refine vx_catch (own := RL) (name := IAE) (E := IAE) hown [] ⟨0, 10, 13, 13⟩ [] hex (fun z hz => absurd hz List.not_mem_nil) (by decide) (by decide) (hts _ tb_125) (nw_iae hG.1) hce hcv hcl ?_
    refine lv_astore (lv' := [(5, .ref q9), (0, .ref hb0), (1, .int x0), (2, .long x1), (4, .ref out)]) hx hb dL_set_13 hl (by decide) rfl (fun ls hl => ?_)
    refine lv_iconst (v := nI 1) hx hb dL_set_15 (by decide) ?_
    exact e_int hx hb hr hlk hAe hW (by omega) (by omega) dL_set_16 (Or.inr (Or.inl ⟨rfl, hpx0, rfl⟩))
  · have hv := hp0 v w0 hp
    subst hv
    clear hzz hkk hdd
    refine W.eq (g2 := F0 m 9 ls [.long (lN N), .int (nI 0), .ref out]) rfl ?_
    have hW : Wd Z A s.heap (el Z out 1 r :: w0) _ _ := Wd.swap2 (w1 := w0) (wc := [el Z out 1 r]) hW
    refine r_last (i := 0) (x := N) hx hb hK hW 0 rfl (by omega) (by omega) dL_set_9 (fun H locs hW => ?_)
    have hW : Wd Z A s.heap (el Z out 1 (up r 0 N) :: w0) _ _ := hW
    refine lv_goto (tgt := 17) hx hb dL_set_10 (by decide) ?_
    refine lv_iconst (v := nI 0) hx hb dL_set_17 (by decide) ?_
    exact e_int hx hb hr hlk hAe hW (by omega) (by omega) dL_set_18 (Or.inl ⟨rfl, _, w0, hp, rfl⟩)
set_option maxHeartbeats 4000000 in
set_option maxRecDepth 100000 in
theorem w_value (l : Launch) (Z : Zt) (hb0 hk hc hm : Nat) (x : CS) (mo : Int32) (n wg : Nat) (o : Option (Nat × Nat × (Nat → Option Nat))) (vd vb stb wd : Nat → Nat) (rw : Nat → Nat → Nat) (x0 : Int32) (out N mc ms : Nat) (r : Nat → Nat) {post : Option Value → va_W → Prop} {px : String → Prop} (hM : MX l yX3_value cX3_value 6 (some .long) 11 600 mc ms Z (cw Z hc x ++ bl Z hb0 hk hc hm wg mo n o) (fun H => BRO Z (cw Z hc x ++ bl Z hb0 hk hc hm wg mo n o) hk hc n vd vb stb wd rw H) [.ref hb0, .int x0] post px) (hp0 : ∀ v w1, post v w1 → v = some (.long (lN N))) (hpx : ∀ E, px E → E = IAE ) : MH l yL_value cL_value 4 (some .int) [(0, 8, 11, 13)] 12 640 mc ms Z (el Z out 1 r :: (cw Z hc x ++ bl Z hb0 hk hc hm wg mo n o)) (fun H => BRO Z (el Z out 1 r :: (cw Z hc x ++ bl Z hb0 hk hc hm wg mo n o)) hk hc n vd vb stb wd rw H) [.ref hb0, .int x0, .ref out] (WQ Z (cw Z hc x ++ bl Z hb0 hk hc hm wg mo n o) out N r post px) := by
  refine mh_of (by decide) (Nat.le_of_ble_eq_true rfl) (fun p e s m below meth c ls A hx hb hr hts hown hlk hml hex hnc hK hG hW hA hAe hro hl R hRf hRc hRs hRl => ?_)
  have hl : lv_has ls 4 [(0, .ref hb0), (1, .int x0), (2, .ref out)] := hl
  have hW : Wd Z A s.heap (cw Z hc x ++ bl Z hb0 hk hc hm wg mo n o ++ [el Z out 1 r]) _ _ := Wd.swap2 (w1 := [el Z out 1 r]) (wc := cw Z hc x ++ bl Z hb0 hk hc hm wg mo n o) hW
  have mv : ∀ {H : Heap} {L : List Loc} (q : Nat × va_E), Wd Z A s.heap (cw Z hc x ++ bl Z hb0 hk hc hm wg mo n o ++ [el Z out 1 r]) H L → RO Z (el Z out 1 r :: (cw Z hc x ++ bl Z hb0 hk hc hm wg mo n o)) q s.heap → RO Z (cw Z hc x ++ bl Z hb0 hk hc hm wg mo n o) q H := fun q hW h => RO.pass h hAe hW
  refine lv_aload_n hx hb dL_value_0 rfl (lv_at hl 2 rfl) ?_
  refine lv_iconst (v := nI 0) hx hb dL_value_1 (by decide) ?_
  refine lv_aload_n hx hb dL_value_2 rfl (lv_at hl 0 rfl) ?_
  refine lv_iload_n hx hb dL_value_3 rfl (lv_at hl 1 rfl) ?_
  refine x_virt (As := [.int x0]) (rest := [.int (nI 0), .ref out]) (wc := cw Z hc x ++ bl Z hb0 hk hc hm wg mo n o) (wr := [el Z out 1 r]) hx hb hml hown hts hK hG rfl hA hl hM hW ⟨mv _ hW hro.1, fun i hi => ⟨mv _ hW (hro.2 i hi).1, mv _ hW (hro.2 i hi).2⟩⟩ (hW.at 5 rfl) rfl rfl tb_753 tb_754 tb_755 tb_1 tb_756 (nA := 1) (by decide +kernel) rfl ⟨by omega, by omega⟩ ⟨by omega, by omega⟩ rfl (Nat.le_of_ble_eq_true rfl) dL_value_4 (fun E q9 ce H9 L9 hpx0 hWx hzx hkx hce hcv hcl => ?_) (fun v w0 H1 L1 hp hW hzz hkk hdd => ?_)
  · clear hW
    have hW : Wd Z A s.heap (el Z out 1 r :: (cw Z hc x ++ bl Z hb0 hk hc hm wg mo n o)) _ _ := Wd.swap2 (w1 := cw Z hc x ++ bl Z hb0 hk hc hm wg mo n o) (wc := [el Z out 1 r]) hWx
    have h9 := hpx E hpx0
    subst h9
    refine vx_catch (own := RL) (name := IAE) (E := IAE) hown [] ⟨0, 8, 11, 13⟩ [] hex (fun z hz => absurd hz List.not_mem_nil) (by decide) (by decide) (hts _ tb_125) (nw_iae hG.1) hce hcv hcl ?_
    refine lv_astore_n (lv' := [(3, .ref q9), (0, .ref hb0), (1, .int x0), (2, .ref out)]) hx hb dL_value_11 rfl hl (by decide) rfl (fun ls hl => ?_)
    refine lv_iconst (v := nI 1) hx hb dL_value_12 (by decide) ?_
    exact e_int hx hb hr hlk hAe hW (by omega) (by omega) dL_value_13 (Or.inr (Or.inl ⟨rfl, hpx0, rfl⟩))
  · have hv := hp0 v w0 hp
    subst hv
    clear hzz hkk hdd
    refine W.eq (g2 := F0 m 7 ls [.long (lN N), .int (nI 0), .ref out]) rfl ?_
    have hW : Wd Z A s.heap (el Z out 1 r :: w0) _ _ := Wd.swap2 (w1 := w0) (wc := [el Z out 1 r]) hW
    refine r_last (i := 0) (x := N) hx hb hK hW 0 rfl (by omega) (by omega) dL_value_7 (fun H locs hW => ?_)
    have hW : Wd Z A s.heap (el Z out 1 (up r 0 N) :: w0) _ _ := hW
    refine lv_goto (tgt := 14) hx hb dL_value_8 (by decide) ?_
    refine lv_iconst (v := nI 0) hx hb dL_value_14 (by decide) ?_
    exact e_int hx hb hr hlk hAe hW (by omega) (by omega) dL_value_15 (Or.inl ⟨rfl, _, w0, hp, rfl⟩)
set_option maxHeartbeats 4000000 in
set_option maxRecDepth 100000 in
theorem w_width (l : Launch) (Z : Zt) (hb0 hk hc hm : Nat) (x : CS) (mo : Int32) (n wg : Nat) (o : Option (Nat × Nat × (Nat → Option Nat))) (vd vb stb wd : Nat → Nat) (rw : Nat → Nat → Nat) (x0 : Int32) (out N mc ms : Nat) (r : Nat → Nat) {post : Option Value → va_W → Prop} {px : String → Prop} (hM : MX l yX3_width cX3_width 2 (some .int) 7 160 mc ms Z (cw Z hc x ++ bl Z hb0 hk hc hm wg mo n o) (fun H => BRO Z (cw Z hc x ++ bl Z hb0 hk hc hm wg mo n o) hk hc n vd vb stb wd rw H) [.ref hb0, .int x0] post px) (hp0 : ∀ v w1, post v w1 → v = some (.int (nI N))) (hN : N < 2 ^ 31) (hpx : ∀ E, px E → E = IAE ) : MH l yL_width cL_width 4 (some .int) [(0, 9, 12, 13)] 12 640 mc ms Z (el Z out 1 r :: (cw Z hc x ++ bl Z hb0 hk hc hm wg mo n o)) (fun H => BRO Z (el Z out 1 r :: (cw Z hc x ++ bl Z hb0 hk hc hm wg mo n o)) hk hc n vd vb stb wd rw H) [.ref hb0, .int x0, .ref out] (WQ Z (cw Z hc x ++ bl Z hb0 hk hc hm wg mo n o) out N r post px) := by
  refine mh_of (by decide) (Nat.le_of_ble_eq_true rfl) (fun p e s m below meth c ls A hx hb hr hts hown hlk hml hex hnc hK hG hW hA hAe hro hl R hRf hRc hRs hRl => ?_)
  have hl : lv_has ls 4 [(0, .ref hb0), (1, .int x0), (2, .ref out)] := hl
  have hW : Wd Z A s.heap (cw Z hc x ++ bl Z hb0 hk hc hm wg mo n o ++ [el Z out 1 r]) _ _ := Wd.swap2 (w1 := [el Z out 1 r]) (wc := cw Z hc x ++ bl Z hb0 hk hc hm wg mo n o) hW
  have mv : ∀ {H : Heap} {L : List Loc} (q : Nat × va_E), Wd Z A s.heap (cw Z hc x ++ bl Z hb0 hk hc hm wg mo n o ++ [el Z out 1 r]) H L → RO Z (el Z out 1 r :: (cw Z hc x ++ bl Z hb0 hk hc hm wg mo n o)) q s.heap → RO Z (cw Z hc x ++ bl Z hb0 hk hc hm wg mo n o) q H := fun q hW h => RO.pass h hAe hW
  refine lv_aload_n hx hb dL_width_0 rfl (lv_at hl 2 rfl) ?_
  refine lv_iconst (v := nI 0) hx hb dL_width_1 (by decide) ?_
  refine lv_aload_n hx hb dL_width_2 rfl (lv_at hl 0 rfl) ?_
  refine lv_iload_n hx hb dL_width_3 rfl (lv_at hl 1 rfl) ?_
  refine x_virt (As := [.int x0]) (rest := [.int (nI 0), .ref out]) (wc := cw Z hc x ++ bl Z hb0 hk hc hm wg mo n o) (wr := [el Z out 1 r]) hx hb hml hown hts hK hG rfl hA hl hM hW ⟨mv _ hW hro.1, fun i hi => ⟨mv _ hW (hro.2 i hi).1, mv _ hW (hro.2 i hi).2⟩⟩ (hW.at 5 rfl) rfl rfl tb_769 tb_770 tb_771 tb_1 tb_772 (nA := 1) (by decide +kernel) rfl ⟨by omega, by omega⟩ ⟨by omega, by omega⟩ rfl (Nat.le_of_ble_eq_true rfl) dL_width_4 (fun E q9 ce H9 L9 hpx0 hWx hzx hkx hce hcv hcl => ?_) (fun v w0 H1 L1 hp hW hzz hkk hdd => ?_)
  · clear hW
    have hW : Wd Z A s.heap (el Z out 1 r :: (cw Z hc x ++ bl Z hb0 hk hc hm wg mo n o)) _ _ := Wd.swap2 (w1 := cw Z hc x ++ bl Z hb0 hk hc hm wg mo n o) (wc := [el Z out 1 r]) hWx
    have h9 := hpx E hpx0
    subst h9
    refine vx_catch (own := RL) (name := IAE) (E := IAE) hown [] ⟨0, 9, 12, 13⟩ [] hex (fun z hz => absurd hz List.not_mem_nil) (by decide) (by decide) (hts _ tb_125) (nw_iae hG.1) hce hcv hcl ?_
    refine lv_astore_n (lv' := [(3, .ref q9), (0, .ref hb0), (1, .int x0), (2, .ref out)]) hx hb dL_width_12 rfl hl (by decide) rfl (fun ls hl => ?_)
    refine lv_iconst (v := nI 1) hx hb dL_width_13 (by decide) ?_
    exact e_int hx hb hr hlk hAe hW (by omega) (by omega) dL_width_14 (Or.inr (Or.inl ⟨rfl, hpx0, rfl⟩))
  · have hv := hp0 v w0 hp
    subst hv
    clear hzz hkk hdd
    refine W.eq (g2 := F0 m 7 ls [.int (nI N), .int (nI 0), .ref out]) rfl ?_
    refine lv_i2l (v := lN N) hx hb dL_width_7 (nI_long hN) ?_
    have hW : Wd Z A s.heap (el Z out 1 r :: w0) _ _ := Wd.swap2 (w1 := w0) (wc := [el Z out 1 r]) hW
    refine r_last (i := 0) (x := N) hx hb hK hW 0 rfl (by omega) (by omega) dL_width_8 (fun H locs hW => ?_)
    have hW : Wd Z A s.heap (el Z out 1 (up r 0 N) :: w0) _ _ := hW
    refine lv_goto (tgt := 15) hx hb dL_width_9 (by decide) ?_
    refine lv_iconst (v := nI 0) hx hb dL_width_15 (by decide) ?_
    exact e_int hx hb hr hlk hAe hW (by omega) (by omega) dL_width_16 (Or.inl ⟨rfl, _, w0, hp, rfl⟩)
