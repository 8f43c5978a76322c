set_option maxHeartbeats 8000000 in
set_option maxRecDepth 100000 in
theorem r_X6_writeBlock_s0_s1 {D : va_G} {y : Nat → ClassId} {o : Nat → Nat} {ad av : Nat → Nat} {x2 : Int32} {σ : Sto} {σ2 : Sto} (hf : f_X6_writeBlock_s0_s1 x2 σ = some σ2) (l : Launch) (sz : Nat) : Met l yX6_writeBlock (Cond.code yX6_writeBlock cX6_writeBlock 4 none :: ALW) { frames := 9, cells := 0, slots := 0, locals := 222 } (va_Pc [.ref (o 76), .ref (ad 0), .int x2, .ref (ad 1)] (PZ D y ad av (WX y o σ) sz)) (QZv D (WX y o σ) (WX y o σ2) sz) 0 0 (va_A (WX y o σ) sz) := by
  refine met_v (by decide) (Nat.le_of_ble_eq_true rfl) ?_
  intro p e R s m args below meth c Q A ls hx hb hml hta hown hRc hRs hRf hRl hN hK hV hA hret hC hl
  have hl : lv_has ls 4 [(0, .ref (o 76)), (1, .ref (ad 0)), (2, .int x2), (3, .ref (ad 1))] := hl
  unfold f_X6_writeBlock_s0_s1 at hf
  refine lv_aload_n hx hb dX6_writeBlock_0 rfl (lv_at hl 0 rfl) ?_
  refine lv_aload_n hx hb dX6_writeBlock_1 rfl (lv_at hl 1 rfl) ?_
  obtain ⟨s_1, hc_1, hf⟩ := cals_inv hf
  refine cc_Vv (r_X6_write_s0 (D := D) (y := y) (o := o) (ad := ad) (av := av) hc_1 l) hx hb hml hta hown hK hN hV hA hC hRc hRs (by omega) (by omega) wq_541 (q := 76) (ci := 6) rfl rfl wq_542 wq_543 wq_480 wq_534 hd_X6_write (As := [.ref (ad 0)]) (rest := []) rfl rfl hl.1 rfl dX6_writeBlock_2 (fun H locs hC => ?_)
  refine lv_aload_n hx hb dX6_writeBlock_5 rfl (lv_at hl 0 rfl) ?_
  refine lv_iload_n hx hb dX6_writeBlock_6 rfl (lv_at hl 2 rfl) ?_
  obtain ⟨s_2, hc_2, hf⟩ := cals_inv hf
  refine cc_Vv (r_X6_writeNumber (D := D) (y := y) (o := o) (ad := ad) (av := av) hc_2 l) hx hb hml hta hown hK hN hV hA hC hRc hRs (by omega) (by omega) wq_482 (q := 76) (ci := 6) rfl rfl wq_483 wq_484 wq_480 wq_476 hd_X6_writeNumber (As := [.int x2]) (rest := []) rfl rfl hl.1 rfl dX6_writeBlock_7 (fun H locs hC => ?_)
  refine lv_aload_n hx hb dX6_writeBlock_10 rfl (lv_at hl 0 rfl) ?_
  refine lv_aload_n hx hb dX6_writeBlock_11 rfl (lv_at hl 3 rfl) ?_
  obtain ⟨s_3, hc_3, hf⟩ := cals_inv hf
  refine cc_Vv (r_X6_write_s1 (D := D) (y := y) (o := o) (ad := ad) (av := av) hc_3 l) hx hb hml hta hown hK hN hV hA hC hRc hRs (by omega) (by omega) wq_541 (q := 76) (ci := 6) rfl rfl wq_542 wq_543 wq_480 wq_534 hd_X6_write (As := [.ref (ad 1)]) (rest := []) rfl rfl hl.1 rfl dX6_writeBlock_12 (fun H locs hC => ?_)
  exact hret _ _ _ _ _ (congrArg (WX y o) (Option.some.inj hf)) dX6_writeBlock_15 hC

set_option maxHeartbeats 8000000 in
set_option maxRecDepth 100000 in
theorem r_X6_write_s2 {D : va_G} {y : Nat → ClassId} {o : Nat → Nat} {ad av : Nat → Nat} {σ : Sto} {σ2 : Sto} (hf : f_X6_write_s2 σ = some σ2) (l : Launch) (sz : Nat) : Met l yX6_write (Cond.code yX6_write cX6_write 3 none :: ALW) { frames := 8, cells := 0, slots := 0, locals := 200 } (va_Pc [.ref (o 76), .ref (ad 2)] (PZ D y ad av (WX y o σ) sz)) (QZv D (WX y o σ) (WX y o σ2) sz) 0 0 (va_A (WX y o σ) sz) := by
  refine met_v (by decide) (Nat.le_of_ble_eq_true rfl) ?_
  intro p e R s m args below meth c Q A ls hx hb hml hta hown hRc hRs hRf hRl hN hK hV hA hret hC hl
  have hl : lv_has ls 3 [(0, .ref (o 76)), (1, .ref (ad 2))] := hl
  unfold f_X6_write_s2 at hf
  refine lv_iconst (v := 0) hx hb dX6_write_0 (by decide) ?_
  refine lv_istore_n (lv' := [(2, .int 0), (0, .ref (o 76)), (1, .ref (ad 2))]) hx hb dX6_write_1 rfl hl (by decide) rfl (fun ls hl => ?_)
  refine itr_inv2 (P := fun (x2_1 : Int32) (s_1 : Sto) => ∀ (H : Heap) (locs : List Loc) (ls : Array Slot), CZ D A s H locs (WX y o s_1) → lv_has ls 3 [(0, .ref (o 76)), (1, .ref (ad 2)), (2, .int x2_1)] → W p l e R s m args below meth c H locs 0 0 Q (F0 m 2 ls [])) hf ?_ _ _ _ hC (lv_sub hl [1, 2, 0] rfl)
  intro a_2 x2_1 s_1 ha_2 hf H locs ls hC hl
  refine lv_iload_n hx hb dX6_write_2 rfl (lv_at hl 2 rfl) ?_
  refine lv_aload_n hx hb dX6_write_3 rfl (lv_at hl 1 rfl) ?_
  refine cc_length hx hb hml hta hown hK hN hV hA hC hRc hRs (by omega) (by omega) wq_528 (i := 2) (n := 7) (by decide) (by decide) (by decide) hl.1 rfl dX6_write_4 (fun H locs hC => ?_)
  refine lv_icmp_ge (tgt := 25) hx hb dX6_write_7 (by decide) (fun c_2 => ?_) (fun c_2 => ?_)
  · have hf := it_t c_2 hf
    exact hret _ _ _ _ _ (congrArg (WX y o) (Option.some.inj hf)) dX6_write_25 hC
  · have hf := it_f c_2 hf
    refine lv_aload_n hx hb dX6_write_10 rfl (lv_at hl 0 rfl) ?_
    refine lv_aload_n hx hb dX6_write_11 rfl (lv_at hl 1 rfl) ?_
    refine lv_iload_n hx hb dX6_write_12 rfl (lv_at hl 2 rfl) ?_
    obtain ⟨hi_3, hf⟩ := ix_inv hf
    obtain ⟨v_3, e_3, hf⟩ := lt_inv hf
    refine cc_charAt hx hb hml hta hown hK hN hV hA hC hRc hRs (by omega) (by omega) wq_531 (i := 2) (n := 7) (by decide) (by decide) (by decide) hi_3 e_3 hl.1 rfl dX6_write_13 (fun H locs hC => ?_)
    obtain ⟨s_4, hc_4, hf⟩ := cals_inv hf
    refine cc_Vv (r_X6_writeSign (D := D) (y := y) (o := o) (ad := ad) (av := av) hc_4 l) hx hb hml hta hown hK hN hV hA hC hRc hRs (by omega) (by omega) wq_477 (q := 76) (ci := 6) rfl rfl wq_478 wq_479 wq_480 wq_475 hd_X6_writeSign (As := [.int v_3]) (rest := []) rfl rfl hl.1 rfl dX6_write_16 (fun H locs hC => ?_)
    obtain ⟨x2_5, e_5, hf⟩ := lt_inv hf
    refine lv_iinc (v := x2_5) (lv' := [(2, .int x2_5), (0, .ref (o 76)), (1, .ref (ad 2))]) hx hb dX6_write_19 hl (k := 2) rfl e_5.symm (by decide) rfl (fun ls hl => ?_)
    refine lv_goto (tgt := 2) hx hb dX6_write_22 (by decide) ?_
    exact ha_2 _ _ hf _ _ _ hC (lv_sub hl [1, 2, 0] rfl)

set_option maxHeartbeats 8000000 in
set_option maxRecDepth 100000 in
theorem r_X6_writeBlock_s2_s1 {D : va_G} {y : Nat → ClassId} {o : Nat → Nat} {ad av : Nat → Nat} {x2 : Int32} {σ : Sto} {σ2 : Sto} (hf : f_X6_writeBlock_s2_s1 x2 σ = some σ2) (l : Launch) (sz : Nat) : Met l yX6_writeBlock (Cond.code yX6_writeBlock cX6_writeBlock 4 none :: ALW) { frames := 9, cells := 0, slots := 0, locals := 222 } (va_Pc [.ref (o 76), .ref (ad 2), .int x2, .ref (ad 1)] (PZ D y ad av (WX y o σ) sz)) (QZv D (WX y o σ) (WX y o σ2) sz) 0 0 (va_A (WX y o σ) sz) := by
  refine met_v (by decide) (Nat.le_of_ble_eq_true rfl) ?_
  intro p e R s m args below meth c Q A ls hx hb hml hta hown hRc hRs hRf hRl hN hK hV hA hret hC hl
  have hl : lv_has ls 4 [(0, .ref (o 76)), (1, .ref (ad 2)), (2, .int x2), (3, .ref (ad 1))] := hl
  unfold f_X6_writeBlock_s2_s1 at hf
  refine lv_aload_n hx hb dX6_writeBlock_0 rfl (lv_at hl 0 rfl) ?_
  refine lv_aload_n hx hb dX6_writeBlock_1 rfl (lv_at hl 1 rfl) ?_
  obtain ⟨s_1, hc_1, hf⟩ := cals_inv hf
  refine cc_Vv (r_X6_write_s2 (D := D) (y := y) (o := o) (ad := ad) (av := av) hc_1 l) hx hb hml hta hown hK hN hV hA hC hRc hRs (by omega) (by omega) wq_541 (q := 76) (ci := 6) rfl rfl wq_542 wq_543 wq_480 wq_534 hd_X6_write (As := [.ref (ad 2)]) (rest := []) rfl rfl hl.1 rfl dX6_writeBlock_2 (fun H locs hC => ?_)
  refine lv_aload_n hx hb dX6_writeBlock_5 rfl (lv_at hl 0 rfl) ?_
  refine lv_iload_n hx hb dX6_writeBlock_6 rfl (lv_at hl 2 rfl) ?_
  obtain ⟨s_2, hc_2, hf⟩ := cals_inv hf
  refine cc_Vv (r_X6_writeNumber (D := D) (y := y) (o := o) (ad := ad) (av := av) hc_2 l) hx hb hml hta hown hK hN hV hA hC hRc hRs (by omega) (by omega) wq_482 (q := 76) (ci := 6) rfl rfl wq_483 wq_484 wq_480 wq_476 hd_X6_writeNumber (As := [.int x2]) (rest := []) rfl rfl hl.1 rfl dX6_writeBlock_7 (fun H locs hC => ?_)
  refine lv_aload_n hx hb dX6_writeBlock_10 rfl (lv_at hl 0 rfl) ?_
  refine lv_aload_n hx hb dX6_writeBlock_11 rfl (lv_at hl 3 rfl) ?_
  obtain ⟨s_3, hc_3, hf⟩ := cals_inv hf
  refine cc_Vv (r_X6_write_s1 (D := D) (y := y) (o := o) (ad := ad) (av := av) hc_3 l) hx hb hml hta hown hK hN hV hA hC hRc hRs (by omega) (by omega) wq_541 (q := 76) (ci := 6) rfl rfl wq_542 wq_543 wq_480 wq_534 hd_X6_write (As := [.ref (ad 1)]) (rest := []) rfl rfl hl.1 rfl dX6_writeBlock_12 (fun H locs hC => ?_)
  exact hret _ _ _ _ _ (congrArg (WX y o) (Option.some.inj hf)) dX6_writeBlock_15 hC

set_option maxHeartbeats 8000000 in
set_option maxRecDepth 100000 in
theorem r_X6_write_s3 {D : va_G} {y : Nat → ClassId} {o : Nat → Nat} {ad av : Nat → Nat} {σ : Sto} {σ2 : Sto} (hf : f_X6_write_s3 σ = some σ2) (l : Launch) (sz : Nat) : Met l yX6_write (Cond.code yX6_write cX6_write 3 none :: ALW) { frames := 8, cells := 0, slots := 0, locals := 200 } (va_Pc [.ref (o 76), .ref (ad 3)] (PZ D y ad av (WX y o σ) sz)) (QZv D (WX y o σ) (WX y o σ2) sz) 0 0 (va_A (WX y o σ) sz) := by
  refine met_v (by decide) (Nat.le_of_ble_eq_true rfl) ?_
  intro p e R s m args below meth c Q A ls hx hb hml hta hown hRc hRs hRf hRl hN hK hV hA hret hC hl
  have hl : lv_has ls 3 [(0, .ref (o 76)), (1, .ref (ad 3))] := hl
  unfold f_X6_write_s3 at hf
  refine lv_iconst (v := 0) hx hb dX6_write_0 (by decide) ?_
  refine lv_istore_n (lv' := [(2, .int 0), (0, .ref (o 76)), (1, .ref (ad 3))]) hx hb dX6_write_1 rfl hl (by decide) rfl (fun ls hl => ?_)
  refine itr_inv2 (P := fun (x2_1 : Int32) (s_1 : Sto) => ∀ (H : Heap) (locs : List Loc) (ls : Array Slot), CZ D A s H locs (WX y o s_1) → lv_has ls 3 [(0, .ref (o 76)), (1, .ref (ad 3)), (2, .int x2_1)] → W p l e R s m args below meth c H locs 0 0 Q (F0 m 2 ls [])) hf ?_ _ _ _ hC (lv_sub hl [1, 2, 0] rfl)
  intro a_2 x2_1 s_1 ha_2 hf H locs ls hC hl
  refine lv_iload_n hx hb dX6_write_2 rfl (lv_at hl 2 rfl) ?_
  refine lv_aload_n hx hb dX6_write_3 rfl (lv_at hl 1 rfl) ?_
  refine cc_length hx hb hml hta hown hK hN hV hA hC hRc hRs (by omega) (by omega) wq_528 (i := 3) (n := 3) (by decide) (by decide) (by decide) hl.1 rfl dX6_write_4 (fun H locs hC => ?_)
  refine lv_icmp_ge (tgt := 25) hx hb dX6_write_7 (by decide) (fun c_2 => ?_) (fun c_2 => ?_)
  · have hf := it_t c_2 hf
    exact hret _ _ _ _ _ (congrArg (WX y o) (Option.some.inj hf)) dX6_write_25 hC
  · have hf := it_f c_2 hf
    refine lv_aload_n hx hb dX6_write_10 rfl (lv_at hl 0 rfl) ?_
    refine lv_aload_n hx hb dX6_write_11 rfl (lv_at hl 1 rfl) ?_
    refine lv_iload_n hx hb dX6_write_12 rfl (lv_at hl 2 rfl) ?_
    obtain ⟨hi_3, hf⟩ := ix_inv hf
    obtain ⟨v_3, e_3, hf⟩ := lt_inv hf
    refine cc_charAt hx hb hml hta hown hK hN hV hA hC hRc hRs (by omega) (by omega) wq_531 (i := 3) (n := 3) (by decide) (by decide) (by decide) hi_3 e_3 hl.1 rfl dX6_write_13 (fun H locs hC => ?_)
    obtain ⟨s_4, hc_4, hf⟩ := cals_inv hf
    refine cc_Vv (r_X6_writeSign (D := D) (y := y) (o := o) (ad := ad) (av := av) hc_4 l) hx hb hml hta hown hK hN hV hA hC hRc hRs (by omega) (by omega) wq_477 (q := 76) (ci := 6) rfl rfl wq_478 wq_479 wq_480 wq_475 hd_X6_writeSign (As := [.int v_3]) (rest := []) rfl rfl hl.1 rfl dX6_write_16 (fun H locs hC => ?_)
    obtain ⟨x2_5, e_5, hf⟩ := lt_inv hf
    refine lv_iinc (v := x2_5) (lv' := [(2, .int x2_5), (0, .ref (o 76)), (1, .ref (ad 3))]) hx hb dX6_write_19 hl (k := 2) rfl e_5.symm (by decide) rfl (fun ls hl => ?_)
    refine lv_goto (tgt := 2) hx hb dX6_write_22 (by decide) ?_
    exact ha_2 _ _ hf _ _ _ hC (lv_sub hl [1, 2, 0] rfl)

set_option maxHeartbeats 8000000 in
set_option maxRecDepth 100000 in
theorem r_X6_write_s4 {D : va_G} {y : Nat → ClassId} {o : Nat → Nat} {ad av : Nat → Nat} {σ : Sto} {σ2 : Sto} (hf : f_X6_write_s4 σ = some σ2) (l : Launch) (sz : Nat) : Met l yX6_write (Cond.code yX6_write cX6_write 3 none :: ALW) { frames := 8, cells := 0, slots := 0, locals := 200 } (va_Pc [.ref (o 76), .ref (ad 4)] (PZ D y ad av (WX y o σ) sz)) (QZv D (WX y o σ) (WX y o σ2) sz) 0 0 (va_A (WX y o σ) sz) := by
  refine met_v (by decide) (Nat.le_of_ble_eq_true rfl) ?_
  intro p e R s m args below meth c Q A ls hx hb hml hta hown hRc hRs hRf hRl hN hK hV hA hret hC hl
  have hl : lv_has ls 3 [(0, .ref (o 76)), (1, .ref (ad 4))] := hl
  unfold f_X6_write_s4 at hf
  refine lv_iconst (v := 0) hx hb dX6_write_0 (by decide) ?_
  refine lv_istore_n (lv' := [(2, .int 0), (0, .ref (o 76)), (1, .ref (ad 4))]) hx hb dX6_write_1 rfl hl (by decide) rfl (fun ls hl => ?_)
  refine itr_inv2 (P := fun (x2_1 : Int32) (s_1 : Sto) => ∀ (H : Heap) (locs : List Loc) (ls : Array Slot), CZ D A s H locs (WX y o s_1) → lv_has ls 3 [(0, .ref (o 76)), (1, .ref (ad 4)), (2, .int x2_1)] → W p l e R s m args below meth c H locs 0 0 Q (F0 m 2 ls [])) hf ?_ _ _ _ hC (lv_sub hl [1, 2, 0] rfl)
  intro a_2 x2_1 s_1 ha_2 hf H locs ls hC hl
  refine lv_iload_n hx hb dX6_write_2 rfl (lv_at hl 2 rfl) ?_
  refine lv_aload_n hx hb dX6_write_3 rfl (lv_at hl 1 rfl) ?_
  refine cc_length hx hb hml hta hown hK hN hV hA hC hRc hRs (by omega) (by omega) wq_528 (i := 4) (n := 5) (by decide) (by decide) (by decide) hl.1 rfl dX6_write_4 (fun H locs hC => ?_)
  refine lv_icmp_ge (tgt := 25) hx hb dX6_write_7 (by decide) (fun c_2 => ?_) (fun c_2 => ?_)
  · have hf := it_t c_2 hf
    exact hret _ _ _ _ _ (congrArg (WX y o) (Option.some.inj hf)) dX6_write_25 hC
  · have hf := it_f c_2 hf
    refine lv_aload_n hx hb dX6_write_10 rfl (lv_at hl 0 rfl) ?_
    refine lv_aload_n hx hb dX6_write_11 rfl (lv_at hl 1 rfl) ?_
    refine lv_iload_n hx hb dX6_write_12 rfl (lv_at hl 2 rfl) ?_
    obtain ⟨hi_3, hf⟩ := ix_inv hf
    obtain ⟨v_3, e_3, hf⟩ := lt_inv hf
    refine cc_charAt hx hb hml hta hown hK hN hV hA hC hRc hRs (by omega) (by omega) wq_531 (i := 4) (n := 5) (by decide) (by decide) (by decide) hi_3 e_3 hl.1 rfl dX6_write_13 (fun H locs hC => ?_)
    obtain ⟨s_4, hc_4, hf⟩ := cals_inv hf
    refine cc_Vv (r_X6_writeSign (D := D) (y := y) (o := o) (ad := ad) (av := av) hc_4 l) hx hb hml hta hown hK hN hV hA hC hRc hRs (by omega) (by omega) wq_477 (q := 76) (ci := 6) rfl rfl wq_478 wq_479 wq_480 wq_475 hd_X6_writeSign (As := [.int v_3]) (rest := []) rfl rfl hl.1 rfl dX6_write_16 (fun H locs hC => ?_)
    obtain ⟨x2_5, e_5, hf⟩ := lt_inv hf
    refine lv_iinc (v := x2_5) (lv' := [(2, .int x2_5), (0, .ref (o 76)), (1, .ref (ad 4))]) hx hb dX6_write_19 hl (k := 2) rfl e_5.symm (by decide) rfl (fun ls hl => ?_)
    refine lv_goto (tgt := 2) hx hb dX6_write_22 (by decide) ?_
    exact ha_2 _ _ hf _ _ _ hC (lv_sub hl [1, 2, 0] rfl)

set_option maxHeartbeats 8000000 in
set_option maxRecDepth 100000 in
theorem r_X6_write_s5 {D : va_G} {y : Nat → ClassId} {o : Nat → Nat} {ad av : Nat → Nat} {σ : Sto} {σ2 : Sto} (hf : f_X6_write_s5 σ = some σ2) (l : Launch) (sz : Nat) : Met l yX6_write (Cond.code yX6_write cX6_write 3 none :: ALW) { frames := 8, cells := 0, slots := 0, locals := 200 } (va_Pc [.ref (o 76), .ref (ad 5)] (PZ D y ad av (WX y o σ) sz)) (QZv D (WX y o σ) (WX y o σ2) sz) 0 0 (va_A (WX y o σ) sz) := by
  refine met_v (by decide) (Nat.le_of_ble_eq_true rfl) ?_
  intro p e R s m args below meth c Q A ls hx hb hml hta hown hRc hRs hRf hRl hN hK hV hA hret hC hl
  have hl : lv_has ls 3 [(0, .ref (o 76)), (1, .ref (ad 5))] := hl
  unfold f_X6_write_s5 at hf
  refine lv_iconst (v := 0) hx hb dX6_write_0 (by decide) ?_
  refine lv_istore_n (lv' := [(2, .int 0), (0, .ref (o 76)), (1, .ref (ad 5))]) hx hb dX6_write_1 rfl hl (by decide) rfl (fun ls hl => ?_)
  refine itr_inv2 (P := fun (x2_1 : Int32) (s_1 : Sto) => ∀ (H : Heap) (locs : List Loc) (ls : Array Slot), CZ D A s H locs (WX y o s_1) → lv_has ls 3 [(0, .ref (o 76)), (1, .ref (ad 5)), (2, .int x2_1)] → W p l e R s m args below meth c H locs 0 0 Q (F0 m 2 ls [])) hf ?_ _ _ _ hC (lv_sub hl [1, 2, 0] rfl)
  intro a_2 x2_1 s_1 ha_2 hf H locs ls hC hl
  refine lv_iload_n hx hb dX6_write_2 rfl (lv_at hl 2 rfl) ?_
  refine lv_aload_n hx hb dX6_write_3 rfl (lv_at hl 1 rfl) ?_
  refine cc_length hx hb hml hta hown hK hN hV hA hC hRc hRs (by omega) (by omega) wq_528 (i := 5) (n := 1) (by decide) (by decide) (by decide) hl.1 rfl dX6_write_4 (fun H locs hC => ?_)
  refine lv_icmp_ge (tgt := 25) hx hb dX6_write_7 (by decide) (fun c_2 => ?_) (fun c_2 => ?_)
  · have hf := it_t c_2 hf
    exact hret _ _ _ _ _ (congrArg (WX y o) (Option.some.inj hf)) dX6_write_25 hC
  · have hf := it_f c_2 hf
    refine lv_aload_n hx hb dX6_write_10 rfl (lv_at hl 0 rfl) ?_
    refine lv_aload_n hx hb dX6_write_11 rfl (lv_at hl 1 rfl) ?_
    refine lv_iload_n hx hb dX6_write_12 rfl (lv_at hl 2 rfl) ?_
    obtain ⟨hi_3, hf⟩ := ix_inv hf
    obtain ⟨v_3, e_3, hf⟩ := lt_inv hf
    refine cc_charAt hx hb hml hta hown hK hN hV hA hC hRc hRs (by omega) (by omega) wq_531 (i := 5) (n := 1) (by decide) (by decide) (by decide) hi_3 e_3 hl.1 rfl dX6_write_13 (fun H locs hC => ?_)
    obtain ⟨s_4, hc_4, hf⟩ := cals_inv hf
    refine cc_Vv (r_X6_writeSign (D := D) (y := y) (o := o) (ad := ad) (av := av) hc_4 l) hx hb hml hta hown hK hN hV hA hC hRc hRs (by omega) (by omega) wq_477 (q := 76) (ci := 6) rfl rfl wq_478 wq_479 wq_480 wq_475 hd_X6_writeSign (As := [.int v_3]) (rest := []) rfl rfl hl.1 rfl dX6_write_16 (fun H locs hC => ?_)
    obtain ⟨x2_5, e_5, hf⟩ := lt_inv hf
    refine lv_iinc (v := x2_5) (lv' := [(2, .int x2_5), (0, .ref (o 76)), (1, .ref (ad 5))]) hx hb dX6_write_19 hl (k := 2) rfl e_5.symm (by decide) rfl (fun ls hl => ?_)
    refine lv_goto (tgt := 2) hx hb dX6_write_22 (by decide) ?_
    exact ha_2 _ _ hf _ _ _ hC (lv_sub hl [1, 2, 0] rfl)

set_option maxHeartbeats 8000000 in
set_option maxRecDepth 100000 in
theorem r_X6_write_s6 {D : va_G} {y : Nat → ClassId} {o : Nat → Nat} {ad av : Nat → Nat} {σ : Sto} {σ2 : Sto} (hf : f_X6_write_s6 σ = some σ2) (l : Launch) (sz : Nat) : Met l yX6_write (Cond.code yX6_write cX6_write 3 none :: ALW) { frames := 8, cells := 0, slots := 0, locals := 200 } (va_Pc [.ref (o 76), .ref (ad 6)] (PZ D y ad av (WX y o σ) sz)) (QZv D (WX y o σ) (WX y o σ2) sz) 0 0 (va_A (WX y o σ) sz) := by
  refine met_v (by decide) (Nat.le_of_ble_eq_true rfl) ?_
  intro p e R s m args below meth c Q A ls hx hb hml hta hown hRc hRs hRf hRl hN hK hV hA hret hC hl
  have hl : lv_has ls 3 [(0, .ref (o 76)), (1, .ref (ad 6))] := hl
  unfold f_X6_write_s6 at hf
  refine lv_iconst (v := 0) hx hb dX6_write_0 (by decide) ?_
  refine lv_istore_n (lv' := [(2, .int 0), (0, .ref (o 76)), (1, .ref (ad 6))]) hx hb dX6_write_1 rfl hl (by decide) rfl (fun ls hl => ?_)
  refine itr_inv2 (P := fun (x2_1 : Int32) (s_1 : Sto) => ∀ (H : Heap) (locs : List Loc) (ls : Array Slot), CZ D A s H locs (WX y o s_1) → lv_has ls 3 [(0, .ref (o 76)), (1, .ref (ad 6)), (2, .int x2_1)] → W p l e R s m args below meth c H locs 0 0 Q (F0 m 2 ls [])) hf ?_ _ _ _ hC (lv_sub hl [1, 2, 0] rfl)
  intro a_2 x2_1 s_1 ha_2 hf H locs ls hC hl
  refine lv_iload_n hx hb dX6_write_2 rfl (lv_at hl 2 rfl) ?_
  refine lv_aload_n hx hb dX6_write_3 rfl (lv_at hl 1 rfl) ?_
  refine cc_length hx hb hml hta hown hK hN hV hA hC hRc hRs (by omega) (by omega) wq_528 (i := 6) (n := 7) (by decide) (by decide) (by decide) hl.1 rfl dX6_write_4 (fun H locs hC => ?_)
  refine lv_icmp_ge (tgt := 25) hx hb dX6_write_7 (by decide) (fun c_2 => ?_) (fun c_2 => ?_)
  · have hf := it_t c_2 hf
    exact hret _ _ _ _ _ (congrArg (WX y o) (Option.some.inj hf)) dX6_write_25 hC
  · have hf := it_f c_2 hf
    refine lv_aload_n hx hb dX6_write_10 rfl (lv_at hl 0 rfl) ?_
    refine lv_aload_n hx hb dX6_write_11 rfl (lv_at hl 1 rfl) ?_
    refine lv_iload_n hx hb dX6_write_12 rfl (lv_at hl 2 rfl) ?_
    obtain ⟨hi_3, hf⟩ := ix_inv hf
    obtain ⟨v_3, e_3, hf⟩ := lt_inv hf
    refine cc_charAt hx hb hml hta hown hK hN hV hA hC hRc hRs (by omega) (by omega) wq_531 (i := 6) (n := 7) (by decide) (by decide) (by decide) hi_3 e_3 hl.1 rfl dX6_write_13 (fun H locs hC => ?_)
    obtain ⟨s_4, hc_4, hf⟩ := cals_inv hf
    refine cc_Vv (r_X6_writeSign (D := D) (y := y) (o := o) (ad := ad) (av := av) hc_4 l) hx hb hml hta hown hK hN hV hA hC hRc hRs (by omega) (by omega) wq_477 (q := 76) (ci := 6) rfl rfl wq_478 wq_479 wq_480 wq_475 hd_X6_writeSign (As := [.int v_3]) (rest := []) rfl rfl hl.1 rfl dX6_write_16 (fun H locs hC => ?_)
    obtain ⟨x2_5, e_5, hf⟩ := lt_inv hf
    refine lv_iinc (v := x2_5) (lv' := [(2, .int x2_5), (0, .ref (o 76)), (1, .ref (ad 6))]) hx hb dX6_write_19 hl (k := 2) rfl e_5.symm (by decide) rfl (fun ls hl => ?_)
    refine lv_goto (tgt := 2) hx hb dX6_write_22 (by decide) ?_
    exact ha_2 _ _ hf _ _ _ hC (lv_sub hl [1, 2, 0] rfl)

set_option maxHeartbeats 8000000 in
set_option maxRecDepth 100000 in
theorem r_X6_writeBlock_s6_s7 {D : va_G} {y : Nat → ClassId} {o : Nat → Nat} {ad av : Nat → Nat} {x2 : Int32} {σ : Sto} {σ2 : Sto} (hf : f_X6_writeBlock_s6_s7 x2 σ = some σ2) (l : Launch) (sz : Nat) : Met l yX6_writeBlock (Cond.code yX6_writeBlock cX6_writeBlock 4 none :: ALW) { frames := 9, cells := 0, slots := 0, locals := 222 } (va_Pc [.ref (o 76), .ref (ad 6), .int x2, .ref (ad 7)] (PZ D y ad av (WX y o σ) sz)) (QZv D (WX y o σ) (WX y o σ2) sz) 0 0 (va_A (WX y o σ) sz) := by
  refine met_v (by decide) (Nat.le_of_ble_eq_true rfl) ?_
  intro p e R s m args below meth c Q A ls hx hb hml hta hown hRc hRs hRf hRl hN hK hV hA hret hC hl
  have hl : lv_has ls 4 [(0, .ref (o 76)), (1, .ref (ad 6)), (2, .int x2), (3, .ref (ad 7))] := hl
  unfold f_X6_writeBlock_s6_s7 at hf
  refine lv_aload_n hx hb dX6_writeBlock_0 rfl (lv_at hl 0 rfl) ?_
  refine lv_aload_n hx hb dX6_writeBlock_1 rfl (lv_at hl 1 rfl) ?_
  obtain ⟨s_1, hc_1, hf⟩ := cals_inv hf
  refine cc_Vv (r_X6_write_s6 (D := D) (y := y) (o := o) (ad := ad) (av := av) hc_1 l) hx hb hml hta hown hK hN hV hA hC hRc hRs (by omega) (by omega) wq_541 (q := 76) (ci := 6) rfl rfl wq_542 wq_543 wq_480 wq_534 hd_X6_write (As := [.ref (ad 6)]) (rest := []) rfl rfl hl.1 rfl dX6_writeBlock_2 (fun H locs hC => ?_)
  refine lv_aload_n hx hb dX6_writeBlock_5 rfl (lv_at hl 0 rfl) ?_
  refine lv_iload_n hx hb dX6_writeBlock_6 rfl (lv_at hl 2 rfl) ?_
  obtain ⟨s_2, hc_2, hf⟩ := cals_inv hf
  refine cc_Vv (r_X6_writeNumber (D := D) (y := y) (o := o) (ad := ad) (av := av) hc_2 l) hx hb hml hta hown hK hN hV hA hC hRc hRs (by omega) (by omega) wq_482 (q := 76) (ci := 6) rfl rfl wq_483 wq_484 wq_480 wq_476 hd_X6_writeNumber (As := [.int x2]) (rest := []) rfl rfl hl.1 rfl dX6_writeBlock_7 (fun H locs hC => ?_)
  refine lv_aload_n hx hb dX6_writeBlock_10 rfl (lv_at hl 0 rfl) ?_
  refine lv_aload_n hx hb dX6_writeBlock_11 rfl (lv_at hl 3 rfl) ?_
  obtain ⟨s_3, hc_3, hf⟩ := cals_inv hf
  refine cc_Vv (r_X6_write_s7 (D := D) (y := y) (o := o) (ad := ad) (av := av) hc_3 l) hx hb hml hta hown hK hN hV hA hC hRc hRs (by omega) (by omega) wq_541 (q := 76) (ci := 6) rfl rfl wq_542 wq_543 wq_480 wq_534 hd_X6_write (As := [.ref (ad 7)]) (rest := []) rfl rfl hl.1 rfl dX6_writeBlock_12 (fun H locs hC => ?_)
  exact hret _ _ _ _ _ (congrArg (WX y o) (Option.some.inj hf)) dX6_writeBlock_15 hC

set_option maxHeartbeats 8000000 in
set_option maxRecDepth 100000 in
theorem r_X6_write_s8 {D : va_G} {y : Nat → ClassId} {o : Nat → Nat} {ad av : Nat → Nat} {σ : Sto} {σ2 : Sto} (hf : f_X6_write_s8 σ = some σ2) (l : Launch) (sz : Nat) : Met l yX6_write (Cond.code yX6_write cX6_write 3 none :: ALW) { frames := 8, cells := 0, slots := 0, locals := 200 } (va_Pc [.ref (o 76), .ref (ad 8)] (PZ D y ad av (WX y o σ) sz)) (QZv D (WX y o σ) (WX y o σ2) sz) 0 0 (va_A (WX y o σ) sz) := by
  refine met_v (by decide) (Nat.le_of_ble_eq_true rfl) ?_
  intro p e R s m args below meth c Q A ls hx hb hml hta hown hRc hRs hRf hRl hN hK hV hA hret hC hl
  have hl : lv_has ls 3 [(0, .ref (o 76)), (1, .ref (ad 8))] := hl
  unfold f_X6_write_s8 at hf
  refine lv_iconst (v := 0) hx hb dX6_write_0 (by decide) ?_
  refine lv_istore_n (lv' := [(2, .int 0), (0, .ref (o 76)), (1, .ref (ad 8))]) hx hb dX6_write_1 rfl hl (by decide) rfl (fun ls hl => ?_)
  refine itr_inv2 (P := fun (x2_1 : Int32) (s_1 : Sto) => ∀ (H : Heap) (locs : List Loc) (ls : Array Slot), CZ D A s H locs (WX y o s_1) → lv_has ls 3 [(0, .ref (o 76)), (1, .ref (ad 8)), (2, .int x2_1)] → W p l e R s m args below meth c H locs 0 0 Q (F0 m 2 ls [])) hf ?_ _ _ _ hC (lv_sub hl [1, 2, 0] rfl)
  intro a_2 x2_1 s_1 ha_2 hf H locs ls hC hl
  refine lv_iload_n hx hb dX6_write_2 rfl (lv_at hl 2 rfl) ?_
  refine lv_aload_n hx hb dX6_write_3 rfl (lv_at hl 1 rfl) ?_
  refine cc_length hx hb hml hta hown hK hN hV hA hC hRc hRs (by omega) (by omega) wq_528 (i := 8) (n := 10) (by decide) (by decide) (by decide) hl.1 rfl dX6_write_4 (fun H locs hC => ?_)
  refine lv_icmp_ge (tgt := 25) hx hb dX6_write_7 (by decide) (fun c_2 => ?_) (fun c_2 => ?_)
  · have hf := it_t c_2 hf
    exact hret _ _ _ _ _ (congrArg (WX y o) (Option.some.inj hf)) dX6_write_25 hC
  · have hf := it_f c_2 hf
    refine lv_aload_n hx hb dX6_write_10 rfl (lv_at hl 0 rfl) ?_
    refine lv_aload_n hx hb dX6_write_11 rfl (lv_at hl 1 rfl) ?_
    refine lv_iload_n hx hb dX6_write_12 rfl (lv_at hl 2 rfl) ?_
    obtain ⟨hi_3, hf⟩ := ix_inv hf
    obtain ⟨v_3, e_3, hf⟩ := lt_inv hf
    refine cc_charAt hx hb hml hta hown hK hN hV hA hC hRc hRs (by omega) (by omega) wq_531 (i := 8) (n := 10) (by decide) (by decide) (by decide) hi_3 e_3 hl.1 rfl dX6_write_13 (fun H locs hC => ?_)
    obtain ⟨s_4, hc_4, hf⟩ := cals_inv hf
    refine cc_Vv (r_X6_writeSign (D := D) (y := y) (o := o) (ad := ad) (av := av) hc_4 l) hx hb hml hta hown hK hN hV hA hC hRc hRs (by omega) (by omega) wq_477 (q := 76) (ci := 6) rfl rfl wq_478 wq_479 wq_480 wq_475 hd_X6_writeSign (As := [.int v_3]) (rest := []) rfl rfl hl.1 rfl dX6_write_16 (fun H locs hC => ?_)
    obtain ⟨x2_5, e_5, hf⟩ := lt_inv hf
    refine lv_iinc (v := x2_5) (lv' := [(2, .int x2_5), (0, .ref (o 76)), (1, .ref (ad 8))]) hx hb dX6_write_19 hl (k := 2) rfl e_5.symm (by decide) rfl (fun ls hl => ?_)
    refine lv_goto (tgt := 2) hx hb dX6_write_22 (by decide) ?_
    exact ha_2 _ _ hf _ _ _ hC (lv_sub hl [1, 2, 0] rfl)

set_option maxHeartbeats 8000000 in
set_option maxRecDepth 100000 in
theorem r_X6_writeBlock_s8_s7 {D : va_G} {y : Nat → ClassId} {o : Nat → Nat} {ad av : Nat → Nat} {x2 : Int32} {σ : Sto} {σ2 : Sto} (hf : f_X6_writeBlock_s8_s7 x2 σ = some σ2) (l : Launch) (sz : Nat) : Met l yX6_writeBlock (Cond.code yX6_writeBlock cX6_writeBlock 4 none :: ALW) { frames := 9, cells := 0, slots := 0, locals := 222 } (va_Pc [.ref (o 76), .ref (ad 8), .int x2, .ref (ad 7)] (PZ D y ad av (WX y o σ) sz)) (QZv D (WX y o σ) (WX y o σ2) sz) 0 0 (va_A (WX y o σ) sz) := by
  refine met_v (by decide) (Nat.le_of_ble_eq_true rfl) ?_
  intro p e R s m args below meth c Q A ls hx hb hml hta hown hRc hRs hRf hRl hN hK hV hA hret hC hl
  have hl : lv_has ls 4 [(0, .ref (o 76)), (1, .ref (ad 8)), (2, .int x2), (3, .ref (ad 7))] := hl
  unfold f_X6_writeBlock_s8_s7 at hf
  refine lv_aload_n hx hb dX6_writeBlock_0 rfl (lv_at hl 0 rfl) ?_
  refine lv_aload_n hx hb dX6_writeBlock_1 rfl (lv_at hl 1 rfl) ?_
  obtain ⟨s_1, hc_1, hf⟩ := cals_inv hf
  refine cc_Vv (r_X6_write_s8 (D := D) (y := y) (o := o) (ad := ad) (av := av) hc_1 l) hx hb hml hta hown hK hN hV hA hC hRc hRs (by omega) (by omega) wq_541 (q := 76) (ci := 6) rfl rfl wq_542 wq_543 wq_480 wq_534 hd_X6_write (As := [.ref (ad 8)]) (rest := []) rfl rfl hl.1 rfl dX6_writeBlock_2 (fun H locs hC => ?_)
  refine lv_aload_n hx hb dX6_writeBlock_5 rfl (lv_at hl 0 rfl) ?_
  refine lv_iload_n hx hb dX6_writeBlock_6 rfl (lv_at hl 2 rfl) ?_
  obtain ⟨s_2, hc_2, hf⟩ := cals_inv hf
  refine cc_Vv (r_X6_writeNumber (D := D) (y := y) (o := o) (ad := ad) (av := av) hc_2 l) hx hb hml hta hown hK hN hV hA hC hRc hRs (by omega) (by omega) wq_482 (q := 76) (ci := 6) rfl rfl wq_483 wq_484 wq_480 wq_476 hd_X6_writeNumber (As := [.int x2]) (rest := []) rfl rfl hl.1 rfl dX6_writeBlock_7 (fun H locs hC => ?_)
  refine lv_aload_n hx hb dX6_writeBlock_10 rfl (lv_at hl 0 rfl) ?_
  refine lv_aload_n hx hb dX6_writeBlock_11 rfl (lv_at hl 3 rfl) ?_
  obtain ⟨s_3, hc_3, hf⟩ := cals_inv hf
  refine cc_Vv (r_X6_write_s7 (D := D) (y := y) (o := o) (ad := ad) (av := av) hc_3 l) hx hb hml hta hown hK hN hV hA hC hRc hRs (by omega) (by omega) wq_541 (q := 76) (ci := 6) rfl rfl wq_542 wq_543 wq_480 wq_534 hd_X6_write (As := [.ref (ad 7)]) (rest := []) rfl rfl hl.1 rfl dX6_writeBlock_12 (fun H locs hC => ?_)
  exact hret _ _ _ _ _ (congrArg (WX y o) (Option.some.inj hf)) dX6_writeBlock_15 hC

set_option maxHeartbeats 8000000 in
set_option maxRecDepth 100000 in
theorem r_X6_write_s9 {D : va_G} {y : Nat → ClassId} {o : Nat → Nat} {ad av : Nat → Nat} {σ : Sto} {σ2 : Sto} (hf : f_X6_write_s9 σ = some σ2) (l : Launch) (sz : Nat) : Met l yX6_write (Cond.code yX6_write cX6_write 3 none :: ALW) { frames := 8, cells := 0, slots := 0, locals := 200 } (va_Pc [.ref (o 76), .ref (ad 9)] (PZ D y ad av (WX y o σ) sz)) (QZv D (WX y o σ) (WX y o σ2) sz) 0 0 (va_A (WX y o σ) sz) := by
  refine met_v (by decide) (Nat.le_of_ble_eq_true rfl) ?_
  intro p e R s m args below meth c Q A ls hx hb hml hta hown hRc hRs hRf hRl hN hK hV hA hret hC hl
  have hl : lv_has ls 3 [(0, .ref (o 76)), (1, .ref (ad 9))] := hl
  unfold f_X6_write_s9 at hf
  refine lv_iconst (v := 0) hx hb dX6_write_0 (by decide) ?_
  refine lv_istore_n (lv' := [(2, .int 0), (0, .ref (o 76)), (1, .ref (ad 9))]) hx hb dX6_write_1 rfl hl (by decide) rfl (fun ls hl => ?_)
  refine itr_inv2 (P := fun (x2_1 : Int32) (s_1 : Sto) => ∀ (H : Heap) (locs : List Loc) (ls : Array Slot), CZ D A s H locs (WX y o s_1) → lv_has ls 3 [(0, .ref (o 76)), (1, .ref (ad 9)), (2, .int x2_1)] → W p l e R s m args below meth c H locs 0 0 Q (F0 m 2 ls [])) hf ?_ _ _ _ hC (lv_sub hl [1, 2, 0] rfl)
  intro a_2 x2_1 s_1 ha_2 hf H locs ls hC hl
  refine lv_iload_n hx hb dX6_write_2 rfl (lv_at hl 2 rfl) ?_
  refine lv_aload_n hx hb dX6_write_3 rfl (lv_at hl 1 rfl) ?_
  refine cc_length hx hb hml hta hown hK hN hV hA hC hRc hRs (by omega) (by omega) wq_528 (i := 9) (n := 6) (by decide) (by decide) (by decide) hl.1 rfl dX6_write_4 (fun H locs hC => ?_)
  refine lv_icmp_ge (tgt := 25) hx hb dX6_write_7 (by decide) (fun c_2 => ?_) (fun c_2 => ?_)
  · have hf := it_t c_2 hf
    exact hret _ _ _ _ _ (congrArg (WX y o) (Option.some.inj hf)) dX6_write_25 hC
  · have hf := it_f c_2 hf
    refine lv_aload_n hx hb dX6_write_10 rfl (lv_at hl 0 rfl) ?_
    refine lv_aload_n hx hb dX6_write_11 rfl (lv_at hl 1 rfl) ?_
    refine lv_iload_n hx hb dX6_write_12 rfl (lv_at hl 2 rfl) ?_
    obtain ⟨hi_3, hf⟩ := ix_inv hf
    obtain ⟨v_3, e_3, hf⟩ := lt_inv hf
    refine cc_charAt hx hb hml hta hown hK hN hV hA hC hRc hRs (by omega) (by omega) wq_531 (i := 9) (n := 6) (by decide) (by decide) (by decide) hi_3 e_3 hl.1 rfl dX6_write_13 (fun H locs hC => ?_)
    obtain ⟨s_4, hc_4, hf⟩ := cals_inv hf
    refine cc_Vv (r_X6_writeSign (D := D) (y := y) (o := o) (ad := ad) (av := av) hc_4 l) hx hb hml hta hown hK hN hV hA hC hRc hRs (by omega) (by omega) wq_477 (q := 76) (ci := 6) rfl rfl wq_478 wq_479 wq_480 wq_475 hd_X6_writeSign (As := [.int v_3]) (rest := []) rfl rfl hl.1 rfl dX6_write_16 (fun H locs hC => ?_)
    obtain ⟨x2_5, e_5, hf⟩ := lt_inv hf
    refine lv_iinc (v := x2_5) (lv' := [(2, .int x2_5), (0, .ref (o 76)), (1, .ref (ad 9))]) hx hb dX6_write_19 hl (k := 2) rfl e_5.symm (by decide) rfl (fun ls hl => ?_)
    refine lv_goto (tgt := 2) hx hb dX6_write_22 (by decide) ?_
    exact ha_2 _ _ hf _ _ _ hC (lv_sub hl [1, 2, 0] rfl)

set_option maxHeartbeats 8000000 in
set_option maxRecDepth 100000 in
theorem r_X6_writeBlock_s9_s7 {D : va_G} {y : Nat → ClassId} {o : Nat → Nat} {ad av : Nat → Nat} {x2 : Int32} {σ : Sto} {σ2 : Sto} (hf : f_X6_writeBlock_s9_s7 x2 σ = some σ2) (l : Launch) (sz : Nat) : Met l yX6_writeBlock (Cond.code yX6_writeBlock cX6_writeBlock 4 none :: ALW) { frames := 9, cells := 0, slots := 0, locals := 222 } (va_Pc [.ref (o 76), .ref (ad 9), .int x2, .ref (ad 7)] (PZ D y ad av (WX y o σ) sz)) (QZv D (WX y o σ) (WX y o σ2) sz) 0 0 (va_A (WX y o σ) sz) := by
  refine met_v (by decide) (Nat.le_of_ble_eq_true rfl) ?_
  intro p e R s m args below meth c Q A ls hx hb hml hta hown hRc hRs hRf hRl hN hK hV hA hret hC hl
  have hl : lv_has ls 4 [(0, .ref (o 76)), (1, .ref (ad 9)), (2, .int x2), (3, .ref (ad 7))] := hl
  unfold f_X6_writeBlock_s9_s7 at hf
  refine lv_aload_n hx hb dX6_writeBlock_0 rfl (lv_at hl 0 rfl) ?_
  refine lv_aload_n hx hb dX6_writeBlock_1 rfl (lv_at hl 1 rfl) ?_
  obtain ⟨s_1, hc_1, hf⟩ := cals_inv hf
  refine cc_Vv (r_X6_write_s9 (D := D) (y := y) (o := o) (ad := ad) (av := av) hc_1 l) hx hb hml hta hown hK hN hV hA hC hRc hRs (by omega) (by omega) wq_541 (q := 76) (ci := 6) rfl rfl wq_542 wq_543 wq_480 wq_534 hd_X6_write (As := [.ref (ad 9)]) (rest := []) rfl rfl hl.1 rfl dX6_writeBlock_2 (fun H locs hC => ?_)
  refine lv_aload_n hx hb dX6_writeBlock_5 rfl (lv_at hl 0 rfl) ?_
  refine lv_iload_n hx hb dX6_writeBlock_6 rfl (lv_at hl 2 rfl) ?_
  obtain ⟨s_2, hc_2, hf⟩ := cals_inv hf
  refine cc_Vv (r_X6_writeNumber (D := D) (y := y) (o := o) (ad := ad) (av := av) hc_2 l) hx hb hml hta hown hK hN hV hA hC hRc hRs (by omega) (by omega) wq_482 (q := 76) (ci := 6) rfl rfl wq_483 wq_484 wq_480 wq_476 hd_X6_writeNumber (As := [.int x2]) (rest := []) rfl rfl hl.1 rfl dX6_writeBlock_7 (fun H locs hC => ?_)
  refine lv_aload_n hx hb dX6_writeBlock_10 rfl (lv_at hl 0 rfl) ?_
  refine lv_aload_n hx hb dX6_writeBlock_11 rfl (lv_at hl 3 rfl) ?_
  obtain ⟨s_3, hc_3, hf⟩ := cals_inv hf
  refine cc_Vv (r_X6_write_s7 (D := D) (y := y) (o := o) (ad := ad) (av := av) hc_3 l) hx hb hml hta hown hK hN hV hA hC hRc hRs (by omega) (by omega) wq_541 (q := 76) (ci := 6) rfl rfl wq_542 wq_543 wq_480 wq_534 hd_X6_write (As := [.ref (ad 7)]) (rest := []) rfl rfl hl.1 rfl dX6_writeBlock_12 (fun H locs hC => ?_)
  exact hret _ _ _ _ _ (congrArg (WX y o) (Option.some.inj hf)) dX6_writeBlock_15 hC

set_option maxHeartbeats 8000000 in
set_option maxRecDepth 100000 in
theorem r_X6_write_s10 {D : va_G} {y : Nat → ClassId} {o : Nat → Nat} {ad av : Nat → Nat} {σ : Sto} {σ2 : Sto} (hf : f_X6_write_s10 σ = some σ2) (l : Launch) (sz : Nat) : Met l yX6_write (Cond.code yX6_write cX6_write 3 none :: ALW) { frames := 8, cells := 0, slots := 0, locals := 200 } (va_Pc [.ref (o 76), .ref (ad 10)] (PZ D y ad av (WX y o σ) sz)) (QZv D (WX y o σ) (WX y o σ2) sz) 0 0 (va_A (WX y o σ) sz) := by
  refine met_v (by decide) (Nat.le_of_ble_eq_true rfl) ?_
  intro p e R s m args below meth c Q A ls hx hb hml hta hown hRc hRs hRf hRl hN hK hV hA hret hC hl
  have hl : lv_has ls 3 [(0, .ref (o 76)), (1, .ref (ad 10))] := hl
  unfold f_X6_write_s10 at hf
  refine lv_iconst (v := 0) hx hb dX6_write_0 (by decide) ?_
  refine lv_istore_n (lv' := [(2, .int 0), (0, .ref (o 76)), (1, .ref (ad 10))]) hx hb dX6_write_1 rfl hl (by decide) rfl (fun ls hl => ?_)
  refine itr_inv2 (P := fun (x2_1 : Int32) (s_1 : Sto) => ∀ (H : Heap) (locs : List Loc) (ls : Array Slot), CZ D A s H locs (WX y o s_1) → lv_has ls 3 [(0, .ref (o 76)), (1, .ref (ad 10)), (2, .int x2_1)] → W p l e R s m args below meth c H locs 0 0 Q (F0 m 2 ls [])) hf ?_ _ _ _ hC (lv_sub hl [1, 2, 0] rfl)
  intro a_2 x2_1 s_1 ha_2 hf H locs ls hC hl
  refine lv_iload_n hx hb dX6_write_2 rfl (lv_at hl 2 rfl) ?_
  refine lv_aload_n hx hb dX6_write_3 rfl (lv_at hl 1 rfl) ?_
  refine cc_length hx hb hml hta hown hK hN hV hA hC hRc hRs (by omega) (by omega) wq_528 (i := 10) (n := 4) (by decide) (by decide) (by decide) hl.1 rfl dX6_write_4 (fun H locs hC => ?_)
  refine lv_icmp_ge (tgt := 25) hx hb dX6_write_7 (by decide) (fun c_2 => ?_) (fun c_2 => ?_)
  · have hf := it_t c_2 hf
    exact hret _ _ _ _ _ (congrArg (WX y o) (Option.some.inj hf)) dX6_write_25 hC
  · have hf := it_f c_2 hf
    refine lv_aload_n hx hb dX6_write_10 rfl (lv_at hl 0 rfl) ?_
    refine lv_aload_n hx hb dX6_write_11 rfl (lv_at hl 1 rfl) ?_
    refine lv_iload_n hx hb dX6_write_12 rfl (lv_at hl 2 rfl) ?_
    obtain ⟨hi_3, hf⟩ := ix_inv hf
    obtain ⟨v_3, e_3, hf⟩ := lt_inv hf
    refine cc_charAt hx hb hml hta hown hK hN hV hA hC hRc hRs (by omega) (by omega) wq_531 (i := 10) (n := 4) (by decide) (by decide) (by decide) hi_3 e_3 hl.1 rfl dX6_write_13 (fun H locs hC => ?_)
    obtain ⟨s_4, hc_4, hf⟩ := cals_inv hf
    refine cc_Vv (r_X6_writeSign (D := D) (y := y) (o := o) (ad := ad) (av := av) hc_4 l) hx hb hml hta hown hK hN hV hA hC hRc hRs (by omega) (by omega) wq_477 (q := 76) (ci := 6) rfl rfl wq_478 wq_479 wq_480 wq_475 hd_X6_writeSign (As := [.int v_3]) (rest := []) rfl rfl hl.1 rfl dX6_write_16 (fun H locs hC => ?_)
    obtain ⟨x2_5, e_5, hf⟩ := lt_inv hf
    refine lv_iinc (v := x2_5) (lv' := [(2, .int x2_5), (0, .ref (o 76)), (1, .ref (ad 10))]) hx hb dX6_write_19 hl (k := 2) rfl e_5.symm (by decide) rfl (fun ls hl => ?_)
    refine lv_goto (tgt := 2) hx hb dX6_write_22 (by decide) ?_
    exact ha_2 _ _ hf _ _ _ hC (lv_sub hl [1, 2, 0] rfl)

set_option maxHeartbeats 8000000 in
set_option maxRecDepth 100000 in
theorem r_X6_write_s11 {D : va_G} {y : Nat → ClassId} {o : Nat → Nat} {ad av : Nat → Nat} {σ : Sto} {σ2 : Sto} (hf : f_X6_write_s11 σ = some σ2) (l : Launch) (sz : Nat) : Met l yX6_write (Cond.code yX6_write cX6_write 3 none :: ALW) { frames := 8, cells := 0, slots := 0, locals := 200 } (va_Pc [.ref (o 76), .ref (ad 11)] (PZ D y ad av (WX y o σ) sz)) (QZv D (WX y o σ) (WX y o σ2) sz) 0 0 (va_A (WX y o σ) sz) := by
  refine met_v (by decide) (Nat.le_of_ble_eq_true rfl) ?_
  intro p e R s m args below meth c Q A ls hx hb hml hta hown hRc hRs hRf hRl hN hK hV hA hret hC hl
  have hl : lv_has ls 3 [(0, .ref (o 76)), (1, .ref (ad 11))] := hl
  unfold f_X6_write_s11 at hf
  refine lv_iconst (v := 0) hx hb dX6_write_0 (by decide) ?_
  refine lv_istore_n (lv' := [(2, .int 0), (0, .ref (o 76)), (1, .ref (ad 11))]) hx hb dX6_write_1 rfl hl (by decide) rfl (fun ls hl => ?_)
  refine itr_inv2 (P := fun (x2_1 : Int32) (s_1 : Sto) => ∀ (H : Heap) (locs : List Loc) (ls : Array Slot), CZ D A s H locs (WX y o s_1) → lv_has ls 3 [(0, .ref (o 76)), (1, .ref (ad 11)), (2, .int x2_1)] → W p l e R s m args below meth c H locs 0 0 Q (F0 m 2 ls [])) hf ?_ _ _ _ hC (lv_sub hl [1, 2, 0] rfl)
  intro a_2 x2_1 s_1 ha_2 hf H locs ls hC hl
  refine lv_iload_n hx hb dX6_write_2 rfl (lv_at hl 2 rfl) ?_
  refine lv_aload_n hx hb dX6_write_3 rfl (lv_at hl 1 rfl) ?_
  refine cc_length hx hb hml hta hown hK hN hV hA hC hRc hRs (by omega) (by omega) wq_528 (i := 11) (n := 8) (by decide) (by decide) (by decide) hl.1 rfl dX6_write_4 (fun H locs hC => ?_)
  refine lv_icmp_ge (tgt := 25) hx hb dX6_write_7 (by decide) (fun c_2 => ?_) (fun c_2 => ?_)
  · have hf := it_t c_2 hf
    exact hret _ _ _ _ _ (congrArg (WX y o) (Option.some.inj hf)) dX6_write_25 hC
  · have hf := it_f c_2 hf
    refine lv_aload_n hx hb dX6_write_10 rfl (lv_at hl 0 rfl) ?_
    refine lv_aload_n hx hb dX6_write_11 rfl (lv_at hl 1 rfl) ?_
    refine lv_iload_n hx hb dX6_write_12 rfl (lv_at hl 2 rfl) ?_
    obtain ⟨hi_3, hf⟩ := ix_inv hf
    obtain ⟨v_3, e_3, hf⟩ := lt_inv hf
    refine cc_charAt hx hb hml hta hown hK hN hV hA hC hRc hRs (by omega) (by omega) wq_531 (i := 11) (n := 8) (by decide) (by decide) (by decide) hi_3 e_3 hl.1 rfl dX6_write_13 (fun H locs hC => ?_)
    obtain ⟨s_4, hc_4, hf⟩ := cals_inv hf
    refine cc_Vv (r_X6_writeSign (D := D) (y := y) (o := o) (ad := ad) (av := av) hc_4 l) hx hb hml hta hown hK hN hV hA hC hRc hRs (by omega) (by omega) wq_477 (q := 76) (ci := 6) rfl rfl wq_478 wq_479 wq_480 wq_475 hd_X6_writeSign (As := [.int v_3]) (rest := []) rfl rfl hl.1 rfl dX6_write_16 (fun H locs hC => ?_)
    obtain ⟨x2_5, e_5, hf⟩ := lt_inv hf
    refine lv_iinc (v := x2_5) (lv' := [(2, .int x2_5), (0, .ref (o 76)), (1, .ref (ad 11))]) hx hb dX6_write_19 hl (k := 2) rfl e_5.symm (by decide) rfl (fun ls hl => ?_)
    refine lv_goto (tgt := 2) hx hb dX6_write_22 (by decide) ?_
    exact ha_2 _ _ hf _ _ _ hC (lv_sub hl [1, 2, 0] rfl)

set_option maxHeartbeats 8000000 in
set_option maxRecDepth 100000 in
theorem r_X6_writeBlock_s11_s7 {D : va_G} {y : Nat → ClassId} {o : Nat → Nat} {ad av : Nat → Nat} {x2 : Int32} {σ : Sto} {σ2 : Sto} (hf : f_X6_writeBlock_s11_s7 x2 σ = some σ2) (l : Launch) (sz : Nat) : Met l yX6_writeBlock (Cond.code yX6_writeBlock cX6_writeBlock 4 none :: ALW) { frames := 9, cells := 0, slots := 0, locals := 222 } (va_Pc [.ref (o 76), .ref (ad 11), .int x2, .ref (ad 7)] (PZ D y ad av (WX y o σ) sz)) (QZv D (WX y o σ) (WX y o σ2) sz) 0 0 (va_A (WX y o σ) sz) := by
  refine met_v (by decide) (Nat.le_of_ble_eq_true rfl) ?_
  intro p e R s m args below meth c Q A ls hx hb hml hta hown hRc hRs hRf hRl hN hK hV hA hret hC hl
  have hl : lv_has ls 4 [(0, .ref (o 76)), (1, .ref (ad 11)), (2, .int x2), (3, .ref (ad 7))] := hl
  unfold f_X6_writeBlock_s11_s7 at hf
  refine lv_aload_n hx hb dX6_writeBlock_0 rfl (lv_at hl 0 rfl) ?_
  refine lv_aload_n hx hb dX6_writeBlock_1 rfl (lv_at hl 1 rfl) ?_
  obtain ⟨s_1, hc_1, hf⟩ := cals_inv hf
  refine cc_Vv (r_X6_write_s11 (D := D) (y := y) (o := o) (ad := ad) (av := av) hc_1 l) hx hb hml hta hown hK hN hV hA hC hRc hRs (by omega) (by omega) wq_541 (q := 76) (ci := 6) rfl rfl wq_542 wq_543 wq_480 wq_534 hd_X6_write (As := [.ref (ad 11)]) (rest := []) rfl rfl hl.1 rfl dX6_writeBlock_2 (fun H locs hC => ?_)
  refine lv_aload_n hx hb dX6_writeBlock_5 rfl (lv_at hl 0 rfl) ?_
  refine lv_iload_n hx hb dX6_writeBlock_6 rfl (lv_at hl 2 rfl) ?_
  obtain ⟨s_2, hc_2, hf⟩ := cals_inv hf
  refine cc_Vv (r_X6_writeNumber (D := D) (y := y) (o := o) (ad := ad) (av := av) hc_2 l) hx hb hml hta hown hK hN hV hA hC hRc hRs (by omega) (by omega) wq_482 (q := 76) (ci := 6) rfl rfl wq_483 wq_484 wq_480 wq_476 hd_X6_writeNumber (As := [.int x2]) (rest := []) rfl rfl hl.1 rfl dX6_writeBlock_7 (fun H locs hC => ?_)
  refine lv_aload_n hx hb dX6_writeBlock_10 rfl (lv_at hl 0 rfl) ?_
  refine lv_aload_n hx hb dX6_writeBlock_11 rfl (lv_at hl 3 rfl) ?_
  obtain ⟨s_3, hc_3, hf⟩ := cals_inv hf
  refine cc_Vv (r_X6_write_s7 (D := D) (y := y) (o := o) (ad := ad) (av := av) hc_3 l) hx hb hml hta hown hK hN hV hA hC hRc hRs (by omega) (by omega) wq_541 (q := 76) (ci := 6) rfl rfl wq_542 wq_543 wq_480 wq_534 hd_X6_write (As := [.ref (ad 7)]) (rest := []) rfl rfl hl.1 rfl dX6_writeBlock_12 (fun H locs hC => ?_)
  exact hret _ _ _ _ _ (congrArg (WX y o) (Option.some.inj hf)) dX6_writeBlock_15 hC

set_option maxHeartbeats 8000000 in
set_option maxRecDepth 100000 in
theorem r_X6_write_s12 {D : va_G} {y : Nat → ClassId} {o : Nat → Nat} {ad av : Nat → Nat} {σ : Sto} {σ2 : Sto} (hf : f_X6_write_s12 σ = some σ2) (l : Launch) (sz : Nat) : Met l yX6_write (Cond.code yX6_write cX6_write 3 none :: ALW) { frames := 8, cells := 0, slots := 0, locals := 200 } (va_Pc [.ref (o 76), .ref (ad 12)] (PZ D y ad av (WX y o σ) sz)) (QZv D (WX y o σ) (WX y o σ2) sz) 0 0 (va_A (WX y o σ) sz) := by
  refine met_v (by decide) (Nat.le_of_ble_eq_true rfl) ?_
  intro p e R s m args below meth c Q A ls hx hb hml hta hown hRc hRs hRf hRl hN hK hV hA hret hC hl
  have hl : lv_has ls 3 [(0, .ref (o 76)), (1, .ref (ad 12))] := hl
  unfold f_X6_write_s12 at hf
  refine lv_iconst (v := 0) hx hb dX6_write_0 (by decide) ?_
  refine lv_istore_n (lv' := [(2, .int 0), (0, .ref (o 76)), (1, .ref (ad 12))]) hx hb dX6_write_1 rfl hl (by decide) rfl (fun ls hl => ?_)
  refine itr_inv2 (P := fun (x2_1 : Int32) (s_1 : Sto) => ∀ (H : Heap) (locs : List Loc) (ls : Array Slot), CZ D A s H locs (WX y o s_1) → lv_has ls 3 [(0, .ref (o 76)), (1, .ref (ad 12)), (2, .int x2_1)] → W p l e R s m args below meth c H locs 0 0 Q (F0 m 2 ls [])) hf ?_ _ _ _ hC (lv_sub hl [1, 2, 0] rfl)
  intro a_2 x2_1 s_1 ha_2 hf H locs ls hC hl
  refine lv_iload_n hx hb dX6_write_2 rfl (lv_at hl 2 rfl) ?_
  refine lv_aload_n hx hb dX6_write_3 rfl (lv_at hl 1 rfl) ?_
  refine cc_length hx hb hml hta hown hK hN hV hA hC hRc hRs (by omega) (by omega) wq_528 (i := 12) (n := 1) (by decide) (by decide) (by decide) hl.1 rfl dX6_write_4 (fun H locs hC => ?_)
  refine lv_icmp_ge (tgt := 25) hx hb dX6_write_7 (by decide) (fun c_2 => ?_) (fun c_2 => ?_)
  · have hf := it_t c_2 hf
    exact hret _ _ _ _ _ (congrArg (WX y o) (Option.some.inj hf)) dX6_write_25 hC
  · have hf := it_f c_2 hf
    refine lv_aload_n hx hb dX6_write_10 rfl (lv_at hl 0 rfl) ?_
    refine lv_aload_n hx hb dX6_write_11 rfl (lv_at hl 1 rfl) ?_
    refine lv_iload_n hx hb dX6_write_12 rfl (lv_at hl 2 rfl) ?_
    obtain ⟨hi_3, hf⟩ := ix_inv hf
    obtain ⟨v_3, e_3, hf⟩ := lt_inv hf
    refine cc_charAt hx hb hml hta hown hK hN hV hA hC hRc hRs (by omega) (by omega) wq_531 (i := 12) (n := 1) (by decide) (by decide) (by decide) hi_3 e_3 hl.1 rfl dX6_write_13 (fun H locs hC => ?_)
    obtain ⟨s_4, hc_4, hf⟩ := cals_inv hf
    refine cc_Vv (r_X6_writeSign (D := D) (y := y) (o := o) (ad := ad) (av := av) hc_4 l) hx hb hml hta hown hK hN hV hA hC hRc hRs (by omega) (by omega) wq_477 (q := 76) (ci := 6) rfl rfl wq_478 wq_479 wq_480 wq_475 hd_X6_writeSign (As := [.int v_3]) (rest := []) rfl rfl hl.1 rfl dX6_write_16 (fun H locs hC => ?_)
    obtain ⟨x2_5, e_5, hf⟩ := lt_inv hf
    refine lv_iinc (v := x2_5) (lv' := [(2, .int x2_5), (0, .ref (o 76)), (1, .ref (ad 12))]) hx hb dX6_write_19 hl (k := 2) rfl e_5.symm (by decide) rfl (fun ls hl => ?_)
    refine lv_goto (tgt := 2) hx hb dX6_write_22 (by decide) ?_
    exact ha_2 _ _ hf _ _ _ hC (lv_sub hl [1, 2, 0] rfl)

set_option maxHeartbeats 8000000 in
set_option maxRecDepth 100000 in
theorem r_X6_write_s13 {D : va_G} {y : Nat → ClassId} {o : Nat → Nat} {ad av : Nat → Nat} {σ : Sto} {σ2 : Sto} (hf : f_X6_write_s13 σ = some σ2) (l : Launch) (sz : Nat) : Met l yX6_write (Cond.code yX6_write cX6_write 3 none :: ALW) { frames := 8, cells := 0, slots := 0, locals := 200 } (va_Pc [.ref (o 76), .ref (ad 13)] (PZ D y ad av (WX y o σ) sz)) (QZv D (WX y o σ) (WX y o σ2) sz) 0 0 (va_A (WX y o σ) sz) := by
  refine met_v (by decide) (Nat.le_of_ble_eq_true rfl) ?_
  intro p e R s m args below meth c Q A ls hx hb hml hta hown hRc hRs hRf hRl hN hK hV hA hret hC hl
  have hl : lv_has ls 3 [(0, .ref (o 76)), (1, .ref (ad 13))] := hl
  unfold f_X6_write_s13 at hf
  refine lv_iconst (v := 0) hx hb dX6_write_0 (by decide) ?_
  refine lv_istore_n (lv' := [(2, .int 0), (0, .ref (o 76)), (1, .ref (ad 13))]) hx hb dX6_write_1 rfl hl (by decide) rfl (fun ls hl => ?_)
  refine itr_inv2 (P := fun (x2_1 : Int32) (s_1 : Sto) => ∀ (H : Heap) (locs : List Loc) (ls : Array Slot), CZ D A s H locs (WX y o s_1) → lv_has ls 3 [(0, .ref (o 76)), (1, .ref (ad 13)), (2, .int x2_1)] → W p l e R s m args below meth c H locs 0 0 Q (F0 m 2 ls [])) hf ?_ _ _ _ hC (lv_sub hl [1, 2, 0] rfl)
  intro a_2 x2_1 s_1 ha_2 hf H locs ls hC hl
  refine lv_iload_n hx hb dX6_write_2 rfl (lv_at hl 2 rfl) ?_
  refine lv_aload_n hx hb dX6_write_3 rfl (lv_at hl 1 rfl) ?_
  refine cc_length hx hb hml hta hown hK hN hV hA hC hRc hRs (by omega) (by omega) wq_528 (i := 13) (n := 1) (by decide) (by decide) (by decide) hl.1 rfl dX6_write_4 (fun H locs hC => ?_)
  refine lv_icmp_ge (tgt := 25) hx hb dX6_write_7 (by decide) (fun c_2 => ?_) (fun c_2 => ?_)
  · have hf := it_t c_2 hf
    exact hret _ _ _ _ _ (congrArg (WX y o) (Option.some.inj hf)) dX6_write_25 hC
  · have hf := it_f c_2 hf
    refine lv_aload_n hx hb dX6_write_10 rfl (lv_at hl 0 rfl) ?_
    refine lv_aload_n hx hb dX6_write_11 rfl (lv_at hl 1 rfl) ?_
    refine lv_iload_n hx hb dX6_write_12 rfl (lv_at hl 2 rfl) ?_
    obtain ⟨hi_3, hf⟩ := ix_inv hf
    obtain ⟨v_3, e_3, hf⟩ := lt_inv hf
    refine cc_charAt hx hb hml hta hown hK hN hV hA hC hRc hRs (by omega) (by omega) wq_531 (i := 13) (n := 1) (by decide) (by decide) (by decide) hi_3 e_3 hl.1 rfl dX6_write_13 (fun H locs hC => ?_)
    obtain ⟨s_4, hc_4, hf⟩ := cals_inv hf
    refine cc_Vv (r_X6_writeSign (D := D) (y := y) (o := o) (ad := ad) (av := av) hc_4 l) hx hb hml hta hown hK hN hV hA hC hRc hRs (by omega) (by omega) wq_477 (q := 76) (ci := 6) rfl rfl wq_478 wq_479 wq_480 wq_475 hd_X6_writeSign (As := [.int v_3]) (rest := []) rfl rfl hl.1 rfl dX6_write_16 (fun H locs hC => ?_)
    obtain ⟨x2_5, e_5, hf⟩ := lt_inv hf
    refine lv_iinc (v := x2_5) (lv' := [(2, .int x2_5), (0, .ref (o 76)), (1, .ref (ad 13))]) hx hb dX6_write_19 hl (k := 2) rfl e_5.symm (by decide) rfl (fun ls hl => ?_)
    refine lv_goto (tgt := 2) hx hb dX6_write_22 (by decide) ?_
    exact ha_2 _ _ hf _ _ _ hC (lv_sub hl [1, 2, 0] rfl)

set_option maxHeartbeats 8000000 in
set_option maxRecDepth 100000 in
theorem r_X6_writeBlock_s12_s13 {D : va_G} {y : Nat → ClassId} {o : Nat → Nat} {ad av : Nat → Nat} {x2 : Int32} {σ : Sto} {σ2 : Sto} (hf : f_X6_writeBlock_s12_s13 x2 σ = some σ2) (l : Launch) (sz : Nat) : Met l yX6_writeBlock (Cond.code yX6_writeBlock cX6_writeBlock 4 none :: ALW) { frames := 9, cells := 0, slots := 0, locals := 222 } (va_Pc [.ref (o 76), .ref (ad 12), .int x2, .ref (ad 13)] (PZ D y ad av (WX y o σ) sz)) (QZv D (WX y o σ) (WX y o σ2) sz) 0 0 (va_A (WX y o σ) sz) := by
  refine met_v (by decide) (Nat.le_of_ble_eq_true rfl) ?_
  intro p e R s m args below meth c Q A ls hx hb hml hta hown hRc hRs hRf hRl hN hK hV hA hret hC hl
  have hl : lv_has ls 4 [(0, .ref (o 76)), (1, .ref (ad 12)), (2, .int x2), (3, .ref (ad 13))] := hl
  unfold f_X6_writeBlock_s12_s13 at hf
  refine lv_aload_n hx hb dX6_writeBlock_0 rfl (lv_at hl 0 rfl) ?_
  refine lv_aload_n hx hb dX6_writeBlock_1 rfl (lv_at hl 1 rfl) ?_
  obtain ⟨s_1, hc_1, hf⟩ := cals_inv hf
  refine cc_Vv (r_X6_write_s12 (D := D) (y := y) (o := o) (ad := ad) (av := av) hc_1 l) hx hb hml hta hown hK hN hV hA hC hRc hRs (by omega) (by omega) wq_541 (q := 76) (ci := 6) rfl rfl wq_542 wq_543 wq_480 wq_534 hd_X6_write (As := [.ref (ad 12)]) (rest := []) rfl rfl hl.1 rfl dX6_writeBlock_2 (fun H locs hC => ?_)
  refine lv_aload_n hx hb dX6_writeBlock_5 rfl (lv_at hl 0 rfl) ?_
  refine lv_iload_n hx hb dX6_writeBlock_6 rfl (lv_at hl 2 rfl) ?_
  obtain ⟨s_2, hc_2, hf⟩ := cals_inv hf
  refine cc_Vv (r_X6_writeNumber (D := D) (y := y) (o := o) (ad := ad) (av := av) hc_2 l) hx hb hml hta hown hK hN hV hA hC hRc hRs (by omega) (by omega) wq_482 (q := 76) (ci := 6) rfl rfl wq_483 wq_484 wq_480 wq_476 hd_X6_writeNumber (As := [.int x2]) (rest := []) rfl rfl hl.1 rfl dX6_writeBlock_7 (fun H locs hC => ?_)
  refine lv_aload_n hx hb dX6_writeBlock_10 rfl (lv_at hl 0 rfl) ?_
  refine lv_aload_n hx hb dX6_writeBlock_11 rfl (lv_at hl 3 rfl) ?_
  obtain ⟨s_3, hc_3, hf⟩ := cals_inv hf
  refine cc_Vv (r_X6_write_s13 (D := D) (y := y) (o := o) (ad := ad) (av := av) hc_3 l) hx hb hml hta hown hK hN hV hA hC hRc hRs (by omega) (by omega) wq_541 (q := 76) (ci := 6) rfl rfl wq_542 wq_543 wq_480 wq_534 hd_X6_write (As := [.ref (ad 13)]) (rest := []) rfl rfl hl.1 rfl dX6_writeBlock_12 (fun H locs hC => ?_)
  exact hret _ _ _ _ _ (congrArg (WX y o) (Option.some.inj hf)) dX6_writeBlock_15 hC

set_option maxHeartbeats 8000000 in
set_option maxRecDepth 100000 in
theorem r_X6_widthOfLine {D : va_G} {y : Nat → ClassId} {o : Nat → Nat} {ad av : Nat → Nat} {x1 : Int32} {σ : Sto} {σ2 : Sto} {v : Int32} (hf : f_X6_widthOfLine x1 σ = some (v, σ2)) (l : Launch) (sz : Nat) : Met l yX6_widthOfLine (Cond.code yX6_widthOfLine cX6_widthOfLine 3 (some .int) :: ALW) { frames := 261, cells := 0, slots := 0, locals := 6268 } (va_Pc [.ref (o 76), .int x1] (PZ D y ad av (WX y o σ) sz)) (QZi D (WX y o σ) v (WX y o σ2) sz) 0 0 (va_A (WX y o σ) sz) := by
  refine met_i (by decide) (Nat.le_of_ble_eq_true rfl) ?_
  intro p e R s m args below meth c Q A ls hx hb hml hta hown hRc hRs hRf hRl hN hK hV hA hret hC hl
  have hl : lv_has ls 3 [(0, .ref (o 76)), (1, .int x1)] := hl
  unfold f_X6_widthOfLine at hf
  refine lv_aload_n hx hb dX6_widthOfLine_0 rfl (lv_at hl 0 rfl) ?_
  refine lv_iconst (v := 0) hx hb dX6_widthOfLine_1 (by decide) ?_
  obtain ⟨s_1, e_1, hf⟩ := lt_inv hf
  refine pt_X6_27_pen hx hb hta hown hK hC e_1 dX6_widthOfLine_2 (fun H locs hC => ?_)
  refine lv_aload_n hx hb dX6_widthOfLine_5 rfl (lv_at hl 0 rfl) ?_
  refine gt_X6_23_pen hx hb hta hown hK hC dX6_widthOfLine_6 ?_
  refine gt_X6_35_lines hx hb hta hown hK hC dX6_widthOfLine_9 ?_
  refine lv_iload_n hx hb dX6_widthOfLine_12 rfl (lv_at hl 1 rfl) ?_
  obtain ⟨hi_2, hf⟩ := ix_inv hf
  obtain ⟨v_2, e_2, hf⟩ := lt_inv hf
  refine al_X_65 hx hb hK hC hi_2 e_2 dX6_widthOfLine_13 ?_
  refine lv_istore_n (lv' := [(2, .int v_2), (0, .ref (o 76)), (1, .int x1)]) hx hb dX6_widthOfLine_14 rfl hl (by decide) rfl (fun ls hl => ?_)
  refine lv_aload_n hx hb dX6_widthOfLine_15 rfl (lv_at hl 1 rfl) ?_
  refine gt_X6_23_pen hx hb hta hown hK hC dX6_widthOfLine_16 ?_
  refine gt_X6_40_lines hx hb hta hown hK hC dX6_widthOfLine_19 ?_
  refine lv_iload_n hx hb dX6_widthOfLine_22 rfl (lv_at hl 2 rfl) ?_
  obtain ⟨hi_3, hf⟩ := ix_inv hf
  obtain ⟨v_3, e_3, hf⟩ := lt_inv hf
  refine al_X_64 hx hb hK hC hi_3 e_3 dX6_widthOfLine_23 ?_
  obtain ⟨k_237, hk_237, hf⟩ := jn_inv1 hf
  have hj_237 : ∀ (s_4 : Sto) (H : Heap) (locs : List Loc) (ls : Array Slot), k_237 s_4 = some (v, σ2) → CZ D A s H locs (WX y o s_4) → lv_has ls 3 [(0, .ref (o 76))] → W p l e R s m args below meth c H locs 0 0 Q (F0 m 237 ls []) := by
    intro s_4 H locs ls hf hC hl
    have hf := hk_237 _ hf
    refine lv_aload_n hx hb dX6_widthOfLine_237 rfl (lv_at hl 0 rfl) ?_
    refine gt_X6_27_pen hx hb hta hown hK hC dX6_widthOfLine_238 ?_
    exact hret _ _ _ _ _ _ (rv_inv hf).1 (congrArg (WX y o) (rv_inv hf).2) rfl dX6_widthOfLine_241 hC
  by_cases h_5_0 : v_3.toInt = 0
  · have hf := it_t h_5_0 hf
    refine lv_tab (tgt := 84) hx hb dX6_widthOfLine_24 (Or.inr ⟨60, by omega, by omega, by (rw [h_5_0]; decide), by decide⟩) ?_
    refine lv_aload_n hx hb dX6_widthOfLine_84 rfl (lv_at hl 1 rfl) ?_
    refine lv_aload_n hx hb dX6_widthOfLine_85 rfl (lv_at hl 1 rfl) ?_
    refine gt_X6_23_pen hx hb hta hown hK hC dX6_widthOfLine_86 ?_
    refine gt_X6_43_lines hx hb hta hown hK hC dX6_widthOfLine_89 ?_
    refine lv_iload_n hx hb dX6_widthOfLine_92 rfl (lv_at hl 2 rfl) ?_
    obtain ⟨hi_6, hf⟩ := ix_inv hf
    obtain ⟨v_6, e_6, hf⟩ := lt_inv hf
    refine al_X_67 hx hb hK hC hi_6 e_6 dX6_widthOfLine_93 ?_
    obtain ⟨s_7, hc_7, hf⟩ := cals_inv hf
    refine cc_Vv (r_X6_writeStatement (D := D) (y := y) (o := o) (ad := ad) (av := av) hc_7 l) hx hb hml hta hown hK hN hV hA hC hRc hRs (by omega) (by omega) wq_558 (q := 76) (ci := 6) rfl rfl wq_559 wq_560 wq_480 wq_552 hd_X6_writeStatement (As := [.int v_6]) (rest := []) rfl rfl hl.1 rfl dX6_widthOfLine_94 (fun H locs hC => ?_)
    refine lv_goto (tgt := 237) hx hb dX6_widthOfLine_97 (by decide) ?_
    exact hj_237 _ _ _ _ hf hC (lv_sub hl [1] rfl)
  have hf := it_f h_5_0 hf
  by_cases h_5_1 : v_3.toInt = 1
  · have hf := it_t h_5_1 hf
    refine lv_tab (tgt := 100) hx hb dX6_widthOfLine_24 (Or.inr ⟨76, by omega, by omega, by (rw [h_5_1]; decide), by decide⟩) ?_
    refine lv_aload_n hx hb dX6_widthOfLine_100 rfl (lv_at hl 1 rfl) ?_
    refine va_ldcS hx hb hown (ss_Rp hV 0 rfl) dX6_widthOfLine_101 ?_
    refine lv_iload_n hx hb dX6_widthOfLine_103 rfl (lv_at hl 0 rfl) ?_
    refine va_ldcS hx hb hown (ss_Rp hV 1 rfl) dX6_widthOfLine_104 ?_
    obtain ⟨s_8, hc_8, hf⟩ := cals_inv hf
    refine cc_Vv (r_X6_writeBlock_s0_s1 (D := D) (y := y) (o := o) (ad := ad) (av := av) hc_8 l) hx hb hml hta hown hK hN hV hA hC hRc hRs (by omega) (by omega) wq_561 (q := 76) (ci := 6) rfl rfl wq_562 wq_563 wq_480 wq_553 hd_X6_writeBlock (As := [.ref (ad 0), .int v_2, .ref (ad 1)]) (rest := []) rfl rfl hl.1 rfl dX6_widthOfLine_106 (fun H locs hC => ?_)
    refine lv_goto (tgt := 237) hx hb dX6_widthOfLine_109 (by decide) ?_
    exact hj_237 _ _ _ _ hf hC (lv_sub hl [1] rfl)
  have hf := it_f h_5_1 hf
  by_cases h_5_2 : v_3.toInt = 2
  · have hf := it_t h_5_2 hf
    refine lv_tab (tgt := 112) hx hb dX6_widthOfLine_24 (Or.inr ⟨88, by omega, by omega, by (rw [h_5_2]; decide), by decide⟩) ?_
    refine lv_aload_n hx hb dX6_widthOfLine_112 rfl (lv_at hl 1 rfl) ?_
    refine va_ldcS hx hb hown (ss_Rp hV 2 rfl) dX6_widthOfLine_113 ?_
    refine lv_iload_n hx hb dX6_widthOfLine_115 rfl (lv_at hl 0 rfl) ?_
    refine va_ldcS hx hb hown (ss_Rp hV 1 rfl) dX6_widthOfLine_116 ?_
    obtain ⟨s_9, hc_9, hf⟩ := cals_inv hf
    refine cc_Vv (r_X6_writeBlock_s2_s1 (D := D) (y := y) (o := o) (ad := ad) (av := av) hc_9 l) hx hb hml hta hown hK hN hV hA hC hRc hRs (by omega) (by omega) wq_561 (q := 76) (ci := 6) rfl rfl wq_562 wq_563 wq_480 wq_553 hd_X6_writeBlock (As := [.ref (ad 2), .int v_2, .ref (ad 1)]) (rest := []) rfl rfl hl.1 rfl dX6_widthOfLine_118 (fun H locs hC => ?_)
    refine lv_goto (tgt := 237) hx hb dX6_widthOfLine_121 (by decide) ?_
    exact hj_237 _ _ _ _ hf hC (lv_sub hl [1] rfl)
  have hf := it_f h_5_2 hf
  by_cases h_5_3 : v_3.toInt = 3
  · have hf := it_t h_5_3 hf
    refine lv_tab (tgt := 124) hx hb dX6_widthOfLine_24 (Or.inr ⟨100, by omega, by omega, by (rw [h_5_3]; decide), by decide⟩) ?_
    refine lv_aload_n hx hb dX6_widthOfLine_124 rfl (lv_at hl 1 rfl) ?_
    refine va_ldcS hx hb hown (ss_Rp hV 3 rfl) dX6_widthOfLine_125 ?_
    obtain ⟨s_10, hc_10, hf⟩ := cals_inv hf
    refine cc_Vv (r_X6_write_s3 (D := D) (y := y) (o := o) (ad := ad) (av := av) hc_10 l) hx hb hml hta hown hK hN hV hA hC hRc hRs (by omega) (by omega) wq_541 (q := 76) (ci := 6) rfl rfl wq_542 wq_543 wq_480 wq_534 hd_X6_write (As := [.ref (ad 3)]) (rest := []) rfl rfl hl.1 rfl dX6_widthOfLine_127 (fun H locs hC => ?_)
    refine lv_aload_n hx hb dX6_widthOfLine_130 rfl (lv_at hl 1 rfl) ?_
    refine lv_aload_n hx hb dX6_widthOfLine_131 rfl (lv_at hl 1 rfl) ?_
    refine gt_X6_19_pen hx hb hta hown hK hC dX6_widthOfLine_132 ?_
    refine gt_X6_66_lifted hx hb hta hown hK hC dX6_widthOfLine_135 ?_
    refine lv_iload_n hx hb dX6_widthOfLine_138 rfl (lv_at hl 0 rfl) ?_
    obtain ⟨hi_11, hf⟩ := ix_inv hf
    obtain ⟨v_11, e_11, hf⟩ := lt_inv hf
    refine al_X_53 hx hb hK hC hi_11 e_11 dX6_widthOfLine_139 ?_
    refine lv_iconst (v := 0) hx hb dX6_widthOfLine_140 (by decide) ?_
    obtain ⟨s_12, hc_12, hf⟩ := cals_inv hf
    refine cc_Vv (r_X6_writeExpression 250 (D := D) (y := y) (o := o) (ad := ad) (av := av) hc_12 l) hx hb hml hta hown hK hN hV hA hC hRc hRs (by omega) (by omega) wq_544 (q := 76) (ci := 6) rfl rfl wq_545 wq_546 wq_480 wq_547 hd_X6_writeExpression (As := [.int v_11, .int 0]) (rest := []) rfl rfl hl.1 rfl dX6_widthOfLine_141 (fun H locs hC => ?_)
    refine lv_aload_n hx hb dX6_widthOfLine_144 rfl (lv_at hl 1 rfl) ?_
    refine va_ldcS hx hb hown (ss_Rp hV 1 rfl) dX6_widthOfLine_145 ?_
    obtain ⟨s_13, hc_13, hf⟩ := cals_inv hf
    refine cc_Vv (r_X6_write_s1 (D := D) (y := y) (o := o) (ad := ad) (av := av) hc_13 l) hx hb hml hta hown hK hN hV hA hC hRc hRs (by omega) (by omega) wq_541 (q := 76) (ci := 6) rfl rfl wq_542 wq_543 wq_480 wq_534 hd_X6_write (As := [.ref (ad 1)]) (rest := []) rfl rfl hl.1 rfl dX6_widthOfLine_147 (fun H locs hC => ?_)
    refine lv_goto (tgt := 237) hx hb dX6_widthOfLine_150 (by decide) ?_
    exact hj_237 _ _ _ _ hf hC (lv_sub hl [1] rfl)
  have hf := it_f h_5_3 hf
  by_cases h_5_4 : v_3.toInt = 4
  · have hf := it_t h_5_4 hf
    refine lv_tab (tgt := 153) hx hb dX6_widthOfLine_24 (Or.inr ⟨129, by omega, by omega, by (rw [h_5_4]; decide), by decide⟩) ?_
    refine lv_aload_n hx hb dX6_widthOfLine_153 rfl (lv_at hl 1 rfl) ?_
    refine va_ldcS hx hb hown (ss_Rp hV 4 rfl) dX6_widthOfLine_154 ?_
    obtain ⟨s_14, hc_14, hf⟩ := cals_inv hf
    refine cc_Vv (r_X6_write_s4 (D := D) (y := y) (o := o) (ad := ad) (av := av) hc_14 l) hx hb hml hta hown hK hN hV hA hC hRc hRs (by omega) (by omega) wq_541 (q := 76) (ci := 6) rfl rfl wq_542 wq_543 wq_480 wq_534 hd_X6_write (As := [.ref (ad 4)]) (rest := []) rfl rfl hl.1 rfl dX6_widthOfLine_156 (fun H locs hC => ?_)
    refine lv_goto (tgt := 237) hx hb dX6_widthOfLine_159 (by decide) ?_
    exact hj_237 _ _ _ _ hf hC (lv_sub hl [1] rfl)
  have hf := it_f h_5_4 hf
  by_cases h_5_5 : v_3.toInt = 5
  · have hf := it_t h_5_5 hf
    refine lv_tab (tgt := 162) hx hb dX6_widthOfLine_24 (Or.inr ⟨138, by omega, by omega, by (rw [h_5_5]; decide), by decide⟩) ?_
    refine lv_aload_n hx hb dX6_widthOfLine_162 rfl (lv_at hl 1 rfl) ?_
    refine va_ldcS hx hb hown (ss_Rp hV 5 rfl) dX6_widthOfLine_163 ?_
    obtain ⟨s_15, hc_15, hf⟩ := cals_inv hf
    refine cc_Vv (r_X6_write_s5 (D := D) (y := y) (o := o) (ad := ad) (av := av) hc_15 l) hx hb hml hta hown hK hN hV hA hC hRc hRs (by omega) (by omega) wq_541 (q := 76) (ci := 6) rfl rfl wq_542 wq_543 wq_480 wq_534 hd_X6_write (As := [.ref (ad 5)]) (rest := []) rfl rfl hl.1 rfl dX6_widthOfLine_165 (fun H locs hC => ?_)
    refine lv_goto (tgt := 237) hx hb dX6_widthOfLine_168 (by decide) ?_
    exact hj_237 _ _ _ _ hf hC (lv_sub hl [1] rfl)
  have hf := it_f h_5_5 hf
  by_cases h_5_6 : v_3.toInt = 6
  · have hf := it_t h_5_6 hf
    refine lv_tab (tgt := 171) hx hb dX6_widthOfLine_24 (Or.inr ⟨147, by omega, by omega, by (rw [h_5_6]; decide), by decide⟩) ?_
    refine lv_aload_n hx hb dX6_widthOfLine_171 rfl (lv_at hl 1 rfl) ?_
    refine va_ldcS hx hb hown (ss_Rp hV 6 rfl) dX6_widthOfLine_172 ?_
    refine lv_iload_n hx hb dX6_widthOfLine_174 rfl (lv_at hl 0 rfl) ?_
    refine va_ldcS hx hb hown (ss_Rp hV 7 rfl) dX6_widthOfLine_175 ?_
    obtain ⟨s_16, hc_16, hf⟩ := cals_inv hf
    refine cc_Vv (r_X6_writeBlock_s6_s7 (D := D) (y := y) (o := o) (ad := ad) (av := av) hc_16 l) hx hb hml hta hown hK hN hV hA hC hRc hRs (by omega) (by omega) wq_561 (q := 76) (ci := 6) rfl rfl wq_562 wq_563 wq_480 wq_553 hd_X6_writeBlock (As := [.ref (ad 6), .int v_2, .ref (ad 7)]) (rest := []) rfl rfl hl.1 rfl dX6_widthOfLine_177 (fun H locs hC => ?_)
    refine lv_goto (tgt := 237) hx hb dX6_widthOfLine_180 (by decide) ?_
    exact hj_237 _ _ _ _ hf hC (lv_sub hl [1] rfl)
  have hf := it_f h_5_6 hf
  by_cases h_5_7 : v_3.toInt = 7
  · have hf := it_t h_5_7 hf
    refine lv_tab (tgt := 183) hx hb dX6_widthOfLine_24 (Or.inr ⟨159, by omega, by omega, by (rw [h_5_7]; decide), by decide⟩) ?_
    refine lv_aload_n hx hb dX6_widthOfLine_183 rfl (lv_at hl 1 rfl) ?_
    refine va_ldcS hx hb hown (ss_Rp hV 8 rfl) dX6_widthOfLine_184 ?_
    refine lv_iload_n hx hb dX6_widthOfLine_186 rfl (lv_at hl 0 rfl) ?_
    refine va_ldcS hx hb hown (ss_Rp hV 7 rfl) dX6_widthOfLine_187 ?_
    obtain ⟨s_17, hc_17, hf⟩ := cals_inv hf
    refine cc_Vv (r_X6_writeBlock_s8_s7 (D := D) (y := y) (o := o) (ad := ad) (av := av) hc_17 l) hx hb hml hta hown hK hN hV hA hC hRc hRs (by omega) (by omega) wq_561 (q := 76) (ci := 6) rfl rfl wq_562 wq_563 wq_480 wq_553 hd_X6_writeBlock (As := [.ref (ad 8), .int v_2, .ref (ad 7)]) (rest := []) rfl rfl hl.1 rfl dX6_widthOfLine_189 (fun H locs hC => ?_)
    refine lv_goto (tgt := 237) hx hb dX6_widthOfLine_192 (by decide) ?_
    exact hj_237 _ _ _ _ hf hC (lv_sub hl [1] rfl)
  have hf := it_f h_5_7 hf
  by_cases h_5_8 : v_3.toInt = 8
  · have hf := it_t h_5_8 hf
    refine lv_tab (tgt := 195) hx hb dX6_widthOfLine_24 (Or.inr ⟨171, by omega, by omega, by (rw [h_5_8]; decide), by decide⟩) ?_
    refine lv_aload_n hx hb dX6_widthOfLine_195 rfl (lv_at hl 1 rfl) ?_
    refine va_ldcS hx hb hown (ss_Rp hV 9 rfl) dX6_widthOfLine_196 ?_
    refine lv_iload_n hx hb dX6_widthOfLine_198 rfl (lv_at hl 0 rfl) ?_
    refine va_ldcS hx hb hown (ss_Rp hV 7 rfl) dX6_widthOfLine_199 ?_
    obtain ⟨s_18, hc_18, hf⟩ := cals_inv hf
    refine cc_Vv (r_X6_writeBlock_s9_s7 (D := D) (y := y) (o := o) (ad := ad) (av := av) hc_18 l) hx hb hml hta hown hK hN hV hA hC hRc hRs (by omega) (by omega) wq_561 (q := 76) (ci := 6) rfl rfl wq_562 wq_563 wq_480 wq_553 hd_X6_writeBlock (As := [.ref (ad 9), .int v_2, .ref (ad 7)]) (rest := []) rfl rfl hl.1 rfl dX6_widthOfLine_201 (fun H locs hC => ?_)
    refine lv_goto (tgt := 237) hx hb dX6_widthOfLine_204 (by decide) ?_
    exact hj_237 _ _ _ _ hf hC (lv_sub hl [1] rfl)
  have hf := it_f h_5_8 hf
  by_cases h_5_9 : v_3.toInt = 9
  · have hf := it_t h_5_9 hf
    refine lv_tab (tgt := 207) hx hb dX6_widthOfLine_24 (Or.inr ⟨183, by omega, by omega, by (rw [h_5_9]; decide), by decide⟩) ?_
    refine lv_aload_n hx hb dX6_widthOfLine_207 rfl (lv_at hl 1 rfl) ?_
    refine va_ldcS hx hb hown (ss_Rp hV 10 rfl) dX6_widthOfLine_208 ?_
    obtain ⟨s_19, hc_19, hf⟩ := cals_inv hf
    refine cc_Vv (r_X6_write_s10 (D := D) (y := y) (o := o) (ad := ad) (av := av) hc_19 l) hx hb hml hta hown hK hN hV hA hC hRc hRs (by omega) (by omega) wq_541 (q := 76) (ci := 6) rfl rfl wq_542 wq_543 wq_480 wq_534 hd_X6_write (As := [.ref (ad 10)]) (rest := []) rfl rfl hl.1 rfl dX6_widthOfLine_210 (fun H locs hC => ?_)
    refine lv_goto (tgt := 237) hx hb dX6_widthOfLine_213 (by decide) ?_
    exact hj_237 _ _ _ _ hf hC (lv_sub hl [1] rfl)
  have hf := it_f h_5_9 hf
  by_cases h_5_10 : v_3.toInt = 10
  · have hf := it_t h_5_10 hf
    refine lv_tab (tgt := 216) hx hb dX6_widthOfLine_24 (Or.inr ⟨192, by omega, by omega, by (rw [h_5_10]; decide), by decide⟩) ?_
    refine lv_aload_n hx hb dX6_widthOfLine_216 rfl (lv_at hl 1 rfl) ?_
    refine va_ldcS hx hb hown (ss_Rp hV 11 rfl) dX6_widthOfLine_217 ?_
    refine lv_iload_n hx hb dX6_widthOfLine_219 rfl (lv_at hl 0 rfl) ?_
    refine va_ldcS hx hb hown (ss_Rp hV 7 rfl) dX6_widthOfLine_220 ?_
    obtain ⟨s_20, hc_20, hf⟩ := cals_inv hf
    refine cc_Vv (r_X6_writeBlock_s11_s7 (D := D) (y := y) (o := o) (ad := ad) (av := av) hc_20 l) hx hb hml hta hown hK hN hV hA hC hRc hRs (by omega) (by omega) wq_561 (q := 76) (ci := 6) rfl rfl wq_562 wq_563 wq_480 wq_553 hd_X6_writeBlock (As := [.ref (ad 11), .int v_2, .ref (ad 7)]) (rest := []) rfl rfl hl.1 rfl dX6_widthOfLine_222 (fun H locs hC => ?_)
    refine lv_goto (tgt := 237) hx hb dX6_widthOfLine_225 (by decide) ?_
    exact hj_237 _ _ _ _ hf hC (lv_sub hl [1] rfl)
  have hf := it_f h_5_10 hf
  refine lv_tab (tgt := 228) hx hb dX6_widthOfLine_24 (Or.inl ⟨by omega, by decide⟩) ?_
  refine lv_aload_n hx hb dX6_widthOfLine_228 rfl (lv_at hl 1 rfl) ?_
  refine va_ldcS hx hb hown (ss_Rp hV 12 rfl) dX6_widthOfLine_229 ?_
  refine lv_iload_n hx hb dX6_widthOfLine_231 rfl (lv_at hl 0 rfl) ?_
  refine va_ldcS hx hb hown (ss_Rp hV 13 rfl) dX6_widthOfLine_232 ?_
  obtain ⟨s_21, hc_21, hf⟩ := cals_inv hf
  refine cc_Vv (r_X6_writeBlock_s12_s13 (D := D) (y := y) (o := o) (ad := ad) (av := av) hc_21 l) hx hb hml hta hown hK hN hV hA hC hRc hRs (by omega) (by omega) wq_561 (q := 76) (ci := 6) rfl rfl wq_562 wq_563 wq_480 wq_553 hd_X6_writeBlock (As := [.ref (ad 12), .int v_2, .ref (ad 13)]) (rest := []) rfl rfl hl.1 rfl dX6_widthOfLine_234 (fun H locs hC => ?_)
  exact hj_237 _ _ _ _ hf hC (lv_sub hl [1] rfl)

set_option maxHeartbeats 8000000 in
set_option maxRecDepth 100000 in
theorem r_X11_spell {D : va_G} {y : Nat → ClassId} {o : Nat → Nat} {ad av : Nat → Nat} {x1 : Int32} {x2 : Int32} {σ : Sto} {σ2 : Sto} {v : Int32} (hf : f_X11_spell x1 x2 σ = some (v, σ2)) (l : Launch) (sz : Nat) : Met l yX11_spell (Cond.code yX11_spell cX11_spell 4 (some .int) :: ALW) { frames := 262, cells := 0, slots := 0, locals := 6290 } (va_Pc [.ref (o 0), .int x1, .int x2] (PZ D y ad av (WX y o σ) sz)) (QZi D (WX y o σ) v (WX y o σ2) sz) 0 0 (va_A (WX y o σ) sz) := by
  refine met_i (by decide) (Nat.le_of_ble_eq_true rfl) ?_
  intro p e R s m args below meth c Q A ls hx hb hml hta hown hRc hRs hRf hRl hN hK hV hA hret hC hl
  have hl : lv_has ls 4 [(0, .ref (o 0)), (1, .int x1), (2, .int x2)] := hl
  unfold f_X11_spell at hf
  refine lv_aload_n hx hb dX11_spell_0 rfl (lv_at hl 0 rfl) ?_
  refine lv_iload_n hx hb dX11_spell_1 rfl (lv_at hl 1 rfl) ?_
  obtain ⟨v_1, hc_1, hf⟩ := calp_inv hf
  refine cc_Vi (r_X11_isLine (D := D) (y := y) (o := o) (ad := ad) (av := av) hc_1 l) hx hb hml hta hown hK hN hV hA hC hRc hRs (by omega) (by omega) wq_886 (q := 0) (ci := 11) rfl rfl wq_887 wq_888 wq_38 wq_881 hd_X11_isLine (As := [.int x1]) (rest := []) rfl rfl hl.1 rfl dX11_spell_2 (fun H locs hC => ?_)
  refine lv_if_ne (tgt := 10) hx hb dX11_spell_5 (by decide) (fun c_2 => ?_) (fun c_2 => ?_)
  · have hf := it_f c_2 hf
    refine lv_aload_n hx hb dX11_spell_10 rfl (lv_at hl 0 rfl) ?_
    refine gt_X11_101_cl hx hb hta hown hK hC dX11_spell_11 ?_
    refine lv_iload_n hx hb dX11_spell_14 rfl (lv_at hl 1 rfl) ?_
    obtain ⟨v_3, s_3, hc_3, hf⟩ := calv_inv hf
    refine cc_Vi (r_X6_widthOfLine (D := D) (y := y) (o := o) (ad := ad) (av := av) hc_3 l) hx hb hml hta hown hK hN hV hA hC hRc hRs (by omega) (by omega) wq_889 (q := 76) (ci := 6) rfl rfl wq_890 wq_891 wq_480 wq_564 hd_X6_widthOfLine (As := [.int x1]) (rest := []) rfl rfl hl.1 rfl dX11_spell_15 (fun H locs hC => ?_)
    refine lv_istore_n (lv' := [(3, .int v_3), (0, .ref (o 0)), (1, .int x1), (2, .int x2)]) hx hb dX11_spell_18 rfl hl (by decide) rfl (fun ls hl => ?_)
    refine lv_iload_n hx hb dX11_spell_19 rfl (lv_at hl 3 rfl) ?_
    refine lv_iconst (v := (-1)) hx hb dX11_spell_20 (by decide) ?_
    refine lv_icmp_ne (tgt := 28) hx hb dX11_spell_21 (by decide) (fun c_4 => ?_) (fun c_4 => ?_)
    · have hf := it_f c_4 hf
      refine lv_aload_n hx hb dX11_spell_28 rfl (lv_at hl 1 rfl) ?_
      refine gt_X11_101_cl hx hb hta hown hK hC dX11_spell_29 ?_
      refine lv_iload_n hx hb dX11_spell_32 rfl (lv_at hl 3 rfl) ?_
      obtain ⟨v_5, hc_5, hf⟩ := calp_inv hf
      refine cc_Vi (r_X6_signAt (D := D) (y := y) (o := o) (ad := ad) (av := av) hc_5 l) hx hb hml hta hown hK hN hV hA hC hRc hRs (by omega) (by omega) wq_877 (q := 76) (ci := 6) rfl rfl wq_878 wq_879 wq_480 wq_473 hd_X6_signAt (As := [.int x2]) (rest := []) rfl rfl hl.1 rfl dX11_spell_33 (fun H locs hC => ?_)
      exact hret _ _ _ _ _ _ (rv_inv hf).1 (congrArg (WX y o) (rv_inv hf).2) rfl dX11_spell_36 hC
    · have hf := it_t c_4 hf
      refine lv_iload_n hx hb dX11_spell_24 rfl (lv_at hl 0 rfl) ?_
      refine lv_goto (tgt := 36) hx hb dX11_spell_25 (by decide) ?_
      exact hret _ _ _ _ _ _ (rv_inv hf).1 (congrArg (WX y o) (rv_inv hf).2) rfl dX11_spell_36 hC
  · have hf := it_t c_2 hf
    refine lv_iconst (v := (-1)) hx hb dX11_spell_8 (by decide) ?_
    exact hret _ _ _ _ _ _ (rv_inv hf).1 (congrArg (WX y o) (rv_inv hf).2) rfl dX11_spell_9 hC

set_option maxHeartbeats 8000000 in
set_option maxRecDepth 100000 in
theorem r_X11_oneIf {D : va_G} {y : Nat → ClassId} {ad av : Nat → Nat} {w : va_W} {x1 : Int32} {v : Int32} (hf : f_X11_oneIf x1 = some v) (l : Launch) (sz : Nat) : Met l yX11_oneIf (Cond.code yX11_oneIf cX11_oneIf 1 (some .int) :: ALW) { frames := 0, cells := 0, slots := 0, locals := 0 } (va_Pc [.int x1] (PZ D y ad av (w) sz)) (QZi D (w) v (w) sz) 0 0 (va_A (w) sz) := by
  refine met_i (by decide) (Nat.le_of_ble_eq_true rfl) ?_
  intro p e R s m args below meth c Q A ls hx hb hml hta hown hRc hRs hRf hRl hN hK hV hA hret hC hl
  have hl : lv_has ls 1 [(0, .int x1)] := hl
  unfold f_X11_oneIf at hf
  refine lv_iload_n hx hb dX11_oneIf_0 rfl (lv_at hl 0 rfl) ?_
  refine lv_if_eq (tgt := 8) hx hb dX11_oneIf_1 (by decide) (fun c_1 => ?_) (fun c_1 => ?_)
  · have hf := it_t c_1 hf
    refine lv_iconst (v := 0) hx hb dX11_oneIf_8 (by decide) ?_
    exact hret _ _ _ _ _ _ (Option.some.inj hf) rfl rfl dX11_oneIf_9 hC
  · have hf := it_f c_1 hf
    refine lv_iconst (v := 1) hx hb dX11_oneIf_4 (by decide) ?_
    refine lv_goto (tgt := 9) hx hb dX11_oneIf_5 (by decide) ?_
    exact hret _ _ _ _ _ _ (Option.some.inj hf) rfl rfl dX11_oneIf_9 hC

set_option maxHeartbeats 8000000 in
set_option maxRecDepth 100000 in
theorem r_X11_type {D : va_G} {y : Nat → ClassId} {o : Nat → Nat} {ad av : Nat → Nat} {x1 : Int32} {x2 : Int32} {σ : Sto} {v : Int32} (hf : f_X11_type x1 x2 σ = some v) (l : Launch) (sz : Nat) : Met l yX11_type (Cond.code yX11_type cX11_type 3 (some .int) :: ALW) { frames := 1, cells := 0, slots := 0, locals := 20 } (va_Pc [.ref (o 0), .int x1, .int x2] (PZ D y ad av (WX y o σ) sz)) (QZi D (WX y o σ) v (WX y o σ) sz) 0 0 (va_A (WX y o σ) sz) := by
  refine met_i (by decide) (Nat.le_of_ble_eq_true rfl) ?_
  intro p e R s m args below meth c Q A ls hx hb hml hta hown hRc hRs hRf hRl hN hK hV hA hret hC hl
  have hl : lv_has ls 3 [(0, .ref (o 0)), (1, .int x1), (2, .int x2)] := hl
  unfold f_X11_type at hf
  refine lv_aload_n hx hb dX11_type_0 rfl (lv_at hl 0 rfl) ?_
  refine gt_X11_105_cl hx hb hta hown hK hC dX11_type_1 ?_
  refine lv_if_eq (tgt := 11) hx hb dX11_type_4 (by decide) (fun c_1 => ?_) (fun c_1 => ?_)
  · have hf := it_t c_1 hf
    refine lv_iconst (v := (-1)) hx hb dX11_type_11 (by decide) ?_
    exact hret _ _ _ _ _ _ (Option.some.inj hf) rfl rfl dX11_type_12 hC
  · have hf := it_f c_1 hf
    refine lv_iload_n hx hb dX11_type_7 rfl (lv_at hl 2 rfl) ?_
    refine lv_if_ge (tgt := 13) hx hb dX11_type_8 (by decide) (fun c_2 => ?_) (fun c_2 => ?_)
    · have hf := it_t c_2 hf
      refine lv_iload_n hx hb dX11_type_13 rfl (lv_at hl 1 rfl) ?_
      by_cases h_3_0 : x1.toInt = 0
      · have hf := it_t h_3_0 hf
        refine lv_tab (tgt := 40) hx hb dX11_type_14 (Or.inr ⟨26, by omega, by omega, by (rw [h_3_0]; decide), by decide⟩) ?_
        refine lv_iload_n hx hb dX11_type_40 rfl (lv_at hl 2 rfl) ?_
        refine lv_bipush (v := 6) hx hb dX11_type_41 (by decide) ?_
        refine lv_icmp_ge (tgt := 61) hx hb dX11_type_43 (by decide) (fun c_4 => ?_) (fun c_4 => ?_)
        · have hf := it_t c_4 hf
          refine lv_iconst (v := (-1)) hx hb dX11_type_61 (by decide) ?_
          exact hret _ _ _ _ _ _ (Option.some.inj hf) rfl rfl dX11_type_62 hC
        · have hf := it_f c_4 hf
          refine lv_aload_n hx hb dX11_type_46 rfl (lv_at hl 0 rfl) ?_
          refine gt_X11_65_cl hx hb hta hown hK hC dX11_type_47 ?_
          refine gt_X11_310_truths hx hb hta hown hK hC dX11_type_50 ?_
          refine lv_iload_n hx hb dX11_type_53 rfl (lv_at hl 2 rfl) ?_
          obtain ⟨hi_5, hf⟩ := ix_inv hf
          obtain ⟨v_5, e_5, hf⟩ := lt_inv hf
          refine al_X_57 hx hb hK hC hi_5 e_5 dX11_type_54 ?_
          obtain ⟨v_6, hc_6, hf⟩ := calp_inv hf
          refine cc_Si (r_X11_oneIf (D := D) (y := y) (w := WX y o σ) (ad := ad) (av := av) hc_6 l) hx hb hml hta hown hK hN hV hA hC hRc hRs (by omega) (by omega) wq_897 wq_744 wq_38 wq_740 hd_X11_oneIf (As := [.int v_5]) (rest := []) rfl rfl hl.1 rfl dX11_type_55 (fun H locs hC => ?_)
          refine lv_goto (tgt := 62) hx hb dX11_type_58 (by decide) ?_
          exact hret _ _ _ _ _ _ (Option.some.inj hf) rfl rfl dX11_type_62 hC
      have hf := it_f h_3_0 hf
      by_cases h_3_1 : x1.toInt = 1
      · have hf := it_t h_3_1 hf
        refine lv_tab (tgt := 63) hx hb dX11_type_14 (Or.inr ⟨49, by omega, by omega, by (rw [h_3_1]; decide), by decide⟩) ?_
        refine lv_iload_n hx hb dX11_type_63 rfl (lv_at hl 2 rfl) ?_
        refine lv_aload_n hx hb dX11_type_64 rfl (lv_at hl 0 rfl) ?_
        refine gt_X11_31_cl hx hb hta hown hK hC dX11_type_65 ?_
        refine gt_X11_187_blocks hx hb hta hown hK hC dX11_type_68 ?_
        refine lv_icmp_ge (tgt := 89) hx hb dX11_type_71 (by decide) (fun c_7 => ?_) (fun c_7 => ?_)
        · have hf := it_t c_7 hf
          refine lv_iconst (v := (-1)) hx hb dX11_type_89 (by decide) ?_
          exact hret _ _ _ _ _ _ (Option.some.inj hf) rfl rfl dX11_type_90 hC
        · have hf := it_f c_7 hf
          refine lv_aload_n hx hb dX11_type_74 rfl (lv_at hl 0 rfl) ?_
          refine gt_X11_65_cl hx hb hta hown hK hC dX11_type_75 ?_
          refine gt_X11_317_truths hx hb hta hown hK hC dX11_type_78 ?_
          refine lv_iload_n hx hb dX11_type_81 rfl (lv_at hl 2 rfl) ?_
          obtain ⟨hi_8, hf⟩ := ix_inv hf
          obtain ⟨v_8, e_8, hf⟩ := lt_inv hf
          refine al_X_58 hx hb hK hC hi_8 e_8 dX11_type_82 ?_
          obtain ⟨v_9, hc_9, hf⟩ := calp_inv hf
          refine cc_Si (r_X11_oneIf (D := D) (y := y) (w := WX y o σ) (ad := ad) (av := av) hc_9 l) hx hb hml hta hown hK hN hV hA hC hRc hRs (by omega) (by omega) wq_897 wq_744 wq_38 wq_740 hd_X11_oneIf (As := [.int v_8]) (rest := []) rfl rfl hl.1 rfl dX11_type_83 (fun H locs hC => ?_)
          refine lv_goto (tgt := 90) hx hb dX11_type_86 (by decide) ?_
          exact hret _ _ _ _ _ _ (Option.some.inj hf) rfl rfl dX11_type_90 hC
      have hf := it_f h_3_1 hf
      by_cases h_3_2 : x1.toInt = 2
      · have hf := it_t h_3_2 hf
        refine lv_tab (tgt := 91) hx hb dX11_type_14 (Or.inr ⟨77, by omega, by omega, by (rw [h_3_2]; decide), by decide⟩) ?_
        refine lv_iload_n hx hb dX11_type_91 rfl (lv_at hl 2 rfl) ?_
        refine lv_aload_n hx hb dX11_type_92 rfl (lv_at hl 0 rfl) ?_
        refine gt_X11_56_cl hx hb hta hown hK hC dX11_type_93 ?_
        refine gt_X11_184_lifted hx hb hta hown hK hC dX11_type_96 ?_
        refine lv_icmp_ge (tgt := 117) hx hb dX11_type_99 (by decide) (fun c_10 => ?_) (fun c_10 => ?_)
        · have hf := it_t c_10 hf
          refine lv_iconst (v := (-1)) hx hb dX11_type_117 (by decide) ?_
          exact hret _ _ _ _ _ _ (Option.some.inj hf) rfl rfl dX11_type_118 hC
        · have hf := it_f c_10 hf
          refine lv_aload_n hx hb dX11_type_102 rfl (lv_at hl 0 rfl) ?_
          refine gt_X11_65_cl hx hb hta hown hK hC dX11_type_103 ?_
          refine gt_X11_320_truths hx hb hta hown hK hC dX11_type_106 ?_
          refine lv_iload_n hx hb dX11_type_109 rfl (lv_at hl 2 rfl) ?_
          obtain ⟨hi_11, hf⟩ := ix_inv hf
          obtain ⟨v_11, e_11, hf⟩ := lt_inv hf
          refine al_X_59 hx hb hK hC hi_11 e_11 dX11_type_110 ?_
          obtain ⟨v_12, hc_12, hf⟩ := calp_inv hf
          refine cc_Si (r_X11_oneIf (D := D) (y := y) (w := WX y o σ) (ad := ad) (av := av) hc_12 l) hx hb hml hta hown hK hN hV hA hC hRc hRs (by omega) (by omega) wq_897 wq_744 wq_38 wq_740 hd_X11_oneIf (As := [.int v_11]) (rest := []) rfl rfl hl.1 rfl dX11_type_111 (fun H locs hC => ?_)
          refine lv_goto (tgt := 118) hx hb dX11_type_114 (by decide) ?_
          exact hret _ _ _ _ _ _ (Option.some.inj hf) rfl rfl dX11_type_118 hC
      have hf := it_f h_3_2 hf
      refine lv_tab (tgt := 119) hx hb dX11_type_14 (Or.inl ⟨by omega, by decide⟩) ?_
      refine lv_iconst (v := (-1)) hx hb dX11_type_119 (by decide) ?_
      exact hret _ _ _ _ _ _ (Option.some.inj hf) rfl rfl dX11_type_120 hC
    · have hf := it_f c_2 hf
      refine lv_iconst (v := (-1)) hx hb dX11_type_11 (by decide) ?_
      exact hret _ _ _ _ _ _ (Option.some.inj hf) rfl rfl dX11_type_12 hC

set_option maxHeartbeats 8000000 in
set_option maxRecDepth 100000 in
theorem r_X11_canRun {D : va_G} {y : Nat → ClassId} {o : Nat → Nat} {ad av : Nat → Nat} {x1 : Int32} {x2 : Int32} {σ : Sto} {v : Int32} (hf : f_X11_canRun x1 x2 σ = some v) (l : Launch) (sz : Nat) : Met l yX11_canRun (Cond.code yX11_canRun cX11_canRun 3 (some .boolean) :: ALW) { frames := 0, cells := 0, slots := 0, locals := 0 } (va_Pc [.ref (o 0), .int x1, .int x2] (PZ D y ad av (WX y o σ) sz)) (QZi D (WX y o σ) v (WX y o σ) sz) 0 0 (va_A (WX y o σ) sz) := by
  refine met_i (by decide) (Nat.le_of_ble_eq_true rfl) ?_
  intro p e R s m args below meth c Q A ls hx hb hml hta hown hRc hRs hRf hRl hN hK hV hA hret hC hl
  have hl : lv_has ls 3 [(0, .ref (o 0)), (1, .int x1), (2, .int x2)] := hl
  unfold f_X11_canRun at hf
  refine lv_aload_n hx hb dX11_canRun_0 rfl (lv_at hl 0 rfl) ?_
  refine gt_X11_105_cl hx hb hta hown hK hC dX11_canRun_1 ?_
  refine lv_if_eq (tgt := 19) hx hb dX11_canRun_4 (by decide) (fun c_1 => ?_) (fun c_1 => ?_)
  · have hf := it_t c_1 hf
    refine lv_iconst (v := 0) hx hb dX11_canRun_19 (by decide) ?_
    exact hret _ _ _ _ _ _ (Option.some.inj hf) rfl rfl dX11_canRun_20 hC
  · have hf := it_f c_1 hf
    refine lv_iload_n hx hb dX11_canRun_7 rfl (lv_at hl 2 rfl) ?_
    refine lv_iconst (v := 1) hx hb dX11_canRun_8 (by decide) ?_
    refine lv_icmp_lt (tgt := 19) hx hb dX11_canRun_9 (by decide) (fun c_2 => ?_) (fun c_2 => ?_)
    · have hf := it_t c_2 hf
      refine lv_iconst (v := 0) hx hb dX11_canRun_19 (by decide) ?_
      exact hret _ _ _ _ _ _ (Option.some.inj hf) rfl rfl dX11_canRun_20 hC
    · have hf := it_f c_2 hf
      refine lv_iload_n hx hb dX11_canRun_12 rfl (lv_at hl 2 rfl) ?_
      refine lv_sipush (v := 200) hx hb dX11_canRun_13 (by decide) ?_
      refine lv_icmp_le (tgt := 21) hx hb dX11_canRun_16 (by decide) (fun c_3 => ?_) (fun c_3 => ?_)
      · have hf := it_t c_3 hf
        refine lv_iload_n hx hb dX11_canRun_21 rfl (lv_at hl 1 rfl) ?_
        obtain ⟨k_40, hk_40, hf⟩ := jn_inv0 hf
        have hj_40 : ∀  (H : Heap) (locs : List Loc) (ls : Array Slot), k_40 = some v → CZ D A s H locs (WX y o σ) → lv_has ls 3 [] → W p l e R s m args below meth c H locs 0 0 Q (F0 m 40 ls []) := by
          intro H locs ls hf hC hl
          have hf := hk_40 hf
          refine lv_iconst (v := 1) hx hb dX11_canRun_40 (by decide) ?_
          refine lv_goto (tgt := 45) hx hb dX11_canRun_41 (by decide) ?_
          exact hret _ _ _ _ _ _ (Option.some.inj hf) rfl rfl dX11_canRun_45 hC
        refine lv_if_eq (tgt := 40) hx hb dX11_canRun_22 (by decide) (fun c_5 => ?_) (fun c_5 => ?_)
        · have hf := it_t c_5 hf
          exact hj_40 _ _ _ hf hC (lv_sub hl [] rfl)
        · have hf := it_f c_5 hf
          refine lv_iload_n hx hb dX11_canRun_25 rfl (lv_at hl 1 rfl) ?_
          refine lv_iconst (v := 1) hx hb dX11_canRun_26 (by decide) ?_
          obtain ⟨k_44, hk_44, hf⟩ := jn_inv0 hf
          have hj_44 : ∀  (H : Heap) (locs : List Loc) (ls : Array Slot), k_44 = some v → CZ D A s H locs (WX y o σ) → lv_has ls 3 [] → W p l e R s m args below meth c H locs 0 0 Q (F0 m 44 ls []) := by
            intro H locs ls hf hC hl
            have hf := hk_44 hf
            refine lv_iconst (v := 0) hx hb dX11_canRun_44 (by decide) ?_
            exact hret _ _ _ _ _ _ (Option.some.inj hf) rfl rfl dX11_canRun_45 hC
          refine lv_icmp_ne (tgt := 44) hx hb dX11_canRun_27 (by decide) (fun c_7 => ?_) (fun c_7 => ?_)
          · have hf := it_f c_7 hf
            exact hj_44 _ _ _ hf hC (lv_sub hl [] rfl)
          · have hf := it_t c_7 hf
            refine lv_aload_n hx hb dX11_canRun_30 rfl (lv_at hl 0 rfl) ?_
            refine gt_X11_40_cl hx hb hta hown hK hC dX11_canRun_31 ?_
            refine gt_X11_173_shape hx hb hta hown hK hC dX11_canRun_34 ?_
            refine lv_if_ne (tgt := 44) hx hb dX11_canRun_37 (by decide) (fun c_8 => ?_) (fun c_8 => ?_)
            · have hf := it_f c_8 hf
              exact hj_44 _ _ _ hf hC (lv_sub hl [] rfl)
            · have hf := it_t c_8 hf
              exact hj_40 _ _ _ hf hC (lv_sub hl [] rfl)
      · have hf := it_f c_3 hf
        refine lv_iconst (v := 0) hx hb dX11_canRun_19 (by decide) ?_
        exact hret _ _ _ _ _ _ (Option.some.inj hf) rfl rfl dX11_canRun_20 hC

set_option maxHeartbeats 8000000 in
set_option maxRecDepth 100000 in
theorem r_X5_begin {D : va_G} {y : Nat → ClassId} {o : Nat → Nat} {ad av : Nat → Nat} {x1 : Int32} {x2 : Int32} {x3 : Int32} {x4 : Int32} {x5 : Int32} {σ : Sto} {σ2 : Sto} (hf : f_X5_begin x1 x2 x3 x4 x5 σ = some σ2) (l : Launch) (sz : Nat) : Met l yX5_begin (Cond.code yX5_begin cX5_begin 7 none :: ALW) { frames := 0, cells := 0, slots := 0, locals := 0 } (va_Pc [.ref (o 72), .int x1, .int x2, .int x3, .int x4, .int x5] (PZ D y ad av (WX y o σ) sz)) (QZv D (WX y o σ) (WX y o σ2) sz) 0 0 (va_A (WX y o σ) sz) := by
  refine met_v (by decide) (Nat.le_of_ble_eq_true rfl) ?_
  intro p e R s m args below meth c Q A ls hx hb hml hta hown hRc hRs hRf hRl hN hK hV hA hret hC hl
  have hl : lv_has ls 7 [(0, .ref (o 72)), (1, .int x1), (2, .int x2), (3, .int x3), (4, .int x4), (5, .int x5)] := hl
  unfold f_X5_begin at hf
  refine lv_iconst (v := 0) hx hb dX5_begin_0 (by decide) ?_
  refine lv_istore (lv' := [(6, .int 0), (0, .ref (o 72)), (1, .int x1), (2, .int x2), (3, .int x3), (4, .int x4), (5, .int x5)]) hx hb dX5_begin_1 hl (by decide) rfl (fun ls hl => ?_)
  refine itr_inv2 (P := fun (x6_1 : Int32) (s_1 : Sto) => ∀ (H : Heap) (locs : List Loc) (ls : Array Slot), CZ D A s H locs (WX y o s_1) → lv_has ls 7 [(0, .ref (o 72)), (1, .int x1), (2, .int x2), (3, .int x3), (4, .int x4), (5, .int x5), (6, .int x6_1)] → W p l e R s m args below meth c H locs 0 0 Q (F0 m 3 ls [])) hf ?_ _ _ _ hC (lv_sub hl [1, 2, 3, 4, 5, 6, 0] rfl)
  intro a_3 x6_1 s_1 ha_3 hf H locs ls hC hl
  refine lv_iload hx hb dX5_begin_3 (lv_at hl 6 rfl) ?_
  refine lv_bipush (v := 6) hx hb dX5_begin_5 (by decide) ?_
  refine lv_icmp_ge (tgt := 24) hx hb dX5_begin_7 (by decide) (fun c_2 => ?_) (fun c_2 => ?_)
  · have hf := it_t c_2 hf
    refine lv_aload_n hx hb dX5_begin_24 rfl (lv_at hl 0 rfl) ?_
    refine gt_X5_9_machine hx hb hta hown hK hC dX5_begin_25 ?_
    refine lv_iconst (v := 0) hx hb dX5_begin_28 (by decide) ?_
    refine lv_iload_n hx hb dX5_begin_29 rfl (lv_at hl 1 rfl) ?_
    obtain ⟨hi_3, hf⟩ := ix_inv hf
    obtain ⟨s_3, e_3, hf⟩ := lt_inv hf
    refine as_X_73 hx hb hK hC hi_3 e_3 dX5_begin_30 (fun H locs hC => ?_)
    refine lv_aload_n hx hb dX5_begin_31 rfl (lv_at hl 0 rfl) ?_
    refine gt_X5_9_machine hx hb hta hown hK hC dX5_begin_32 ?_
    refine lv_iconst (v := 1) hx hb dX5_begin_35 (by decide) ?_
    refine lv_iload_n hx hb dX5_begin_36 rfl (lv_at hl 2 rfl) ?_
    obtain ⟨hi_4, hf⟩ := ix_inv hf
    obtain ⟨s_4, e_4, hf⟩ := lt_inv hf
    refine as_X_73 hx hb hK hC hi_4 e_4 dX5_begin_37 (fun H locs hC => ?_)
    refine lv_aload_n hx hb dX5_begin_38 rfl (lv_at hl 0 rfl) ?_
    refine lv_iload_n hx hb dX5_begin_39 rfl (lv_at hl 3 rfl) ?_
    obtain ⟨s_5, e_5, hf⟩ := lt_inv hf
    refine pt_X5_41_machine hx hb hta hown hK hC e_5 dX5_begin_40 (fun H locs hC => ?_)
    refine lv_aload_n hx hb dX5_begin_43 rfl (lv_at hl 0 rfl) ?_
    refine lv_iload hx hb dX5_begin_44 (lv_at hl 4 rfl) ?_
    obtain ⟨s_6, e_6, hf⟩ := lt_inv hf
    refine pt_X5_45_machine hx hb hta hown hK hC e_6 dX5_begin_46 (fun H locs hC => ?_)
    refine lv_aload_n hx hb dX5_begin_49 rfl (lv_at hl 0 rfl) ?_
    refine lv_iload hx hb dX5_begin_50 (lv_at hl 5 rfl) ?_
    obtain ⟨s_7, e_7, hf⟩ := lt_inv hf
    refine pt_X5_48_machine hx hb hta hown hK hC e_7 dX5_begin_52 (fun H locs hC => ?_)
    refine lv_aload_n hx hb dX5_begin_55 rfl (lv_at hl 0 rfl) ?_
    refine lv_iconst (v := 0) hx hb dX5_begin_56 (by decide) ?_
    obtain ⟨s_8, e_8, hf⟩ := lt_inv hf
    refine pt_X5_51_machine hx hb hta hown hK hC e_8 dX5_begin_57 (fun H locs hC => ?_)
    refine lv_aload_n hx hb dX5_begin_60 rfl (lv_at hl 0 rfl) ?_
    refine lv_iconst (v := 0) hx hb dX5_begin_61 (by decide) ?_
    obtain ⟨s_9, e_9, hf⟩ := lt_inv hf
    refine pt_X5_54_machine hx hb hta hown hK hC (Or.inl rfl) e_9 dX5_begin_62 (fun H locs hC => ?_)
    refine lv_aload_n hx hb dX5_begin_65 rfl (lv_at hl 0 rfl) ?_
    refine lv_iconst (v := 0) hx hb dX5_begin_66 (by decide) ?_
    obtain ⟨s_10, e_10, hf⟩ := lt_inv hf
    refine pt_X5_58_machine hx hb hta hown hK hC e_10 dX5_begin_67 (fun H locs hC => ?_)
    refine lv_aload_n hx hb dX5_begin_70 rfl (lv_at hl 0 rfl) ?_
    refine lv_iconst (v := 0) hx hb dX5_begin_71 (by decide) ?_
    obtain ⟨s_11, e_11, hf⟩ := lt_inv hf
    refine pt_X5_61_machine hx hb hta hown hK hC e_11 dX5_begin_72 (fun H locs hC => ?_)
    refine lv_aload_n hx hb dX5_begin_75 rfl (lv_at hl 0 rfl) ?_
    refine lv_iconst (v := 0) hx hb dX5_begin_76 (by decide) ?_
    obtain ⟨s_12, e_12, hf⟩ := lt_inv hf
    refine pt_X5_64_machine hx hb hta hown hK hC e_12 dX5_begin_77 (fun H locs hC => ?_)
    refine lv_aload_n hx hb dX5_begin_80 rfl (lv_at hl 0 rfl) ?_
    refine lv_iconst (v := 0) hx hb dX5_begin_81 (by decide) ?_
    obtain ⟨s_13, e_13, hf⟩ := lt_inv hf
    refine pt_X5_67_machine hx hb hta hown hK hC e_13 dX5_begin_82 (fun H locs hC => ?_)
    refine lv_aload_n hx hb dX5_begin_85 rfl (lv_at hl 0 rfl) ?_
    refine lv_iconst (v := 0) hx hb dX5_begin_86 (by decide) ?_
    obtain ⟨s_14, e_14, hf⟩ := lt_inv hf
    refine pt_X5_70_machine hx hb hta hown hK hC e_14 dX5_begin_87 (fun H locs hC => ?_)
    refine lv_aload_n hx hb dX5_begin_90 rfl (lv_at hl 0 rfl) ?_
    refine lv_iconst (v := 0) hx hb dX5_begin_91 (by decide) ?_
    obtain ⟨s_15, e_15, hf⟩ := lt_inv hf
    refine pt_X5_73_machine hx hb hta hown hK hC e_15 dX5_begin_92 (fun H locs hC => ?_)
    refine lv_aload_n hx hb dX5_begin_95 rfl (lv_at hl 0 rfl) ?_
    refine lv_iconst (v := 0) hx hb dX5_begin_96 (by decide) ?_
    obtain ⟨s_16, e_16, hf⟩ := lt_inv hf
    refine pt_X5_76_machine hx hb hta hown hK hC e_16 dX5_begin_97 (fun H locs hC => ?_)
    exact hret _ _ _ _ _ (congrArg (WX y o) (Option.some.inj hf)) dX5_begin_100 hC
  · have hf := it_f c_2 hf
    refine lv_aload_n hx hb dX5_begin_10 rfl (lv_at hl 0 rfl) ?_
    refine gt_X5_9_machine hx hb hta hown hK hC dX5_begin_11 ?_
    refine lv_iload hx hb dX5_begin_14 (lv_at hl 6 rfl) ?_
    refine lv_iconst (v := 0) hx hb dX5_begin_16 (by decide) ?_
    obtain ⟨hi_17, hf⟩ := ix_inv hf
    obtain ⟨s_17, e_17, hf⟩ := lt_inv hf
    refine as_X_73 hx hb hK hC hi_17 e_17 dX5_begin_17 (fun H locs hC => ?_)
    obtain ⟨x6_18, e_18, hf⟩ := lt_inv hf
    refine lv_iinc (v := x6_18) (lv' := [(6, .int x6_18), (0, .ref (o 72)), (1, .int x1), (2, .int x2), (3, .int x3), (4, .int x4), (5, .int x5)]) hx hb dX5_begin_18 hl (k := 6) rfl e_18.symm (by decide) rfl (fun ls hl => ?_)
    refine lv_goto (tgt := 3) hx hb dX5_begin_21 (by decide) ?_
    exact ha_3 _ _ hf _ _ _ hC (lv_sub hl [1, 2, 3, 4, 5, 6, 0] rfl)

set_option maxHeartbeats 8000000 in
set_option maxRecDepth 100000 in
theorem r_X5_pop {D : va_G} {y : Nat → ClassId} {o : Nat → Nat} {ad av : Nat → Nat} {σ : Sto} {σ2 : Sto} {v : Int32} (hf : f_X5_pop σ = some (v, σ2)) (l : Launch) (sz : Nat) : Met l yX5_pop (Cond.code yX5_pop cX5_pop 1 (some .int) :: ALW) { frames := 0, cells := 0, slots := 0, locals := 0 } (va_Pc [.ref (o 72)] (PZ D y ad av (WX y o σ) sz)) (QZi D (WX y o σ) v (WX y o σ2) sz) 0 0 (va_A (WX y o σ) sz) := by
  refine met_i (by decide) (Nat.le_of_ble_eq_true rfl) ?_
  intro p e R s m args below meth c Q A ls hx hb hml hta hown hRc hRs hRf hRl hN hK hV hA hret hC hl
  have hl : lv_has ls 1 [(0, .ref (o 72))] := hl
  unfold f_X5_pop at hf
  refine lv_aload_n hx hb dX5_pop_0 rfl (lv_at hl 0 rfl) ?_
  refine gt_X5_51_machine hx hb hta hown hK hC dX5_pop_1 ?_
  obtain ⟨k_17, hk_17, hf⟩ := jn_inv1 hf
  have hj_17 : ∀ (s_1 : Sto) (H : Heap) (locs : List Loc) (ls : Array Slot), k_17 s_1 = some (v, σ2) → CZ D A s H locs (WX y o s_1) → lv_has ls 1 [(0, .ref (o 72))] → W p l e R s m args below meth c H locs 0 0 Q (F0 m 17 ls []) := by
    intro s_1 H locs ls hf hC hl
    have hf := hk_17 _ hf
    refine lv_aload_n hx hb dX5_pop_17 rfl (lv_at hl 0 rfl) ?_
    refine gt_X5_15_machine hx hb hta hown hK hC dX5_pop_18 ?_
    refine lv_aload_n hx hb dX5_pop_21 rfl (lv_at hl 0 rfl) ?_
    refine gt_X5_51_machine hx hb hta hown hK hC dX5_pop_22 ?_
    obtain ⟨hi_2, hf⟩ := ix_inv hf
    obtain ⟨v_2, e_2, hf⟩ := lt_inv hf
    refine al_X_74 hx hb hK hC hi_2 e_2 dX5_pop_25 ?_
    exact hret _ _ _ _ _ _ (rv_inv hf).1 (congrArg (WX y o) (rv_inv hf).2) rfl dX5_pop_26 hC
  refine lv_if_le (tgt := 17) hx hb dX5_pop_4 (by decide) (fun c_3 => ?_) (fun c_3 => ?_)
  · have hf := it_t c_3 hf
    exact hj_17 _ _ _ _ hf hC hl
  · have hf := it_f c_3 hf
    refine lv_aload_n hx hb dX5_pop_7 rfl (lv_at hl 0 rfl) ?_
    refine lv_dup hx hb dX5_pop_8 rfl ?_
    refine gt_X5_51_machine hx hb hta hown hK hC dX5_pop_9 ?_
    refine lv_iconst (v := 1) hx hb dX5_pop_12 (by decide) ?_
    refine lv_isub hx hb dX5_pop_13 ?_
    obtain ⟨s_4, e_4, hf⟩ := lt_inv hf
    refine pt_X5_51_machine hx hb hta hown hK hC e_4 dX5_pop_14 (fun H locs hC => ?_)
    exact hj_17 _ _ _ _ hf hC hl

set_option maxHeartbeats 8000000 in
set_option maxRecDepth 100000 in
theorem r_X5_push {D : va_G} {y : Nat → ClassId} {o : Nat → Nat} {ad av : Nat → Nat} {x1 : Int32} {σ : Sto} {σ2 : Sto} (hf : f_X5_push x1 σ = some σ2) (l : Launch) (sz : Nat) : Met l yX5_push (Cond.code yX5_push cX5_push 2 none :: ALW) { frames := 0, cells := 0, slots := 0, locals := 0 } (va_Pc [.ref (o 72), .int x1] (PZ D y ad av (WX y o σ) sz)) (QZv D (WX y o σ) (WX y o σ2) sz) 0 0 (va_A (WX y o σ) sz) := by
  refine met_v (by decide) (Nat.le_of_ble_eq_true rfl) ?_
  intro p e R s m args below meth c Q A ls hx hb hml hta hown hRc hRs hRf hRl hN hK hV hA hret hC hl
  have hl : lv_has ls 2 [(0, .ref (o 72)), (1, .int x1)] := hl
  unfold f_X5_push at hf
  refine lv_aload_n hx hb dX5_push_0 rfl (lv_at hl 0 rfl) ?_
  refine gt_X5_51_machine hx hb hta hown hK hC dX5_push_1 ?_
  refine lv_aload_n hx hb dX5_push_4 rfl (lv_at hl 0 rfl) ?_
  refine gt_X5_15_machine hx hb hta hown hK hC dX5_push_5 ?_
  refine an_X_74 hx hb hK hC dX5_push_8 ?_
  refine lv_icmp_ge (tgt := 32) hx hb dX5_push_9 (by decide) (fun c_1 => ?_) (fun c_1 => ?_)
  · have hf := it_t c_1 hf
    exact hret _ _ _ _ _ (congrArg (WX y o) (Option.some.inj hf)) dX5_push_32 hC
  · have hf := it_f c_1 hf
    refine lv_aload_n hx hb dX5_push_12 rfl (lv_at hl 0 rfl) ?_
    refine gt_X5_15_machine hx hb hta hown hK hC dX5_push_13 ?_
    refine lv_aload_n hx hb dX5_push_16 rfl (lv_at hl 0 rfl) ?_
    refine gt_X5_51_machine hx hb hta hown hK hC dX5_push_17 ?_
    refine lv_iload_n hx hb dX5_push_20 rfl (lv_at hl 1 rfl) ?_
    obtain ⟨hi_2, hf⟩ := ix_inv hf
    obtain ⟨s_2, e_2, hf⟩ := lt_inv hf
    refine as_X_74 hx hb hK hC hi_2 e_2 dX5_push_21 (fun H locs hC => ?_)
    refine lv_aload_n hx hb dX5_push_22 rfl (lv_at hl 0 rfl) ?_
    refine lv_dup hx hb dX5_push_23 rfl ?_
    refine gt_X5_51_machine hx hb hta hown hK hC dX5_push_24 ?_
    refine lv_iconst (v := 1) hx hb dX5_push_27 (by decide) ?_
    refine lv_iadd hx hb dX5_push_28 ?_
    obtain ⟨s_3, e_3, hf⟩ := lt_inv hf
    refine pt_X5_51_machine hx hb hta hown hK hC e_3 dX5_push_29 (fun H locs hC => ?_)
    exact hret _ _ _ _ _ (congrArg (WX y o) (Option.some.inj hf)) dX5_push_32 hC

set_option maxHeartbeats 8000000 in
set_option maxRecDepth 100000 in
theorem r_X5_shuffle {D : va_G} {y : Nat → ClassId} {o : Nat → Nat} {ad av : Nat → Nat} {x1 : Int32} {σ : Sto} {σ2 : Sto} (hf : f_X5_shuffle x1 σ = some σ2) (l : Launch) (sz : Nat) : Met l yX5_shuffle (Cond.code yX5_shuffle cX5_shuffle 4 none :: ALW) { frames := 1, cells := 0, slots := 0, locals := 21 } (va_Pc [.ref (o 72), .int x1] (PZ D y ad av (WX y o σ) sz)) (QZv D (WX y o σ) (WX y o σ2) sz) 0 0 (va_A (WX y o σ) sz) := by
  refine met_v (by decide) (Nat.le_of_ble_eq_true rfl) ?_
  intro p e R s m args below meth c Q A ls hx hb hml hta hown hRc hRs hRf hRl hN hK hV hA hret hC hl
  have hl : lv_has ls 4 [(0, .ref (o 72)), (1, .int x1)] := hl
  unfold f_X5_shuffle at hf
  refine lv_aload_n hx hb dX5_shuffle_0 rfl (lv_at hl 0 rfl) ?_
  obtain ⟨v_1, s_1, hc_1, hf⟩ := calv_inv hf
  refine cc_Vi (r_X5_pop (D := D) (y := y) (o := o) (ad := ad) (av := av) hc_1 l) hx hb hml hta hown hK hN hV hA hC hRc hRs (by omega) (by omega) wq_386 (q := 72) (ci := 5) rfl rfl wq_387 wq_388 wq_389 wq_381 hd_X5_pop (As := []) (rest := []) rfl rfl hl.1 rfl dX5_shuffle_1 (fun H locs hC => ?_)
  refine lv_istore_n (lv' := [(2, .int v_1), (0, .ref (o 72)), (1, .int x1)]) hx hb dX5_shuffle_4 rfl hl (by decide) rfl (fun ls hl => ?_)
  refine lv_iload_n hx hb dX5_shuffle_5 rfl (lv_at hl 2 rfl) ?_
  refine lv_bipush (v := 119) hx hb dX5_shuffle_6 (by decide) ?_
  obtain ⟨k_19, hk_19, hf⟩ := jn_inv2 hf
  have hj_19 : ∀ (t0_2 : Int32) (s_2 : Sto) (H : Heap) (locs : List Loc) (ls : Array Slot), k_19 t0_2 s_2 = some σ2 → CZ D A s H locs (WX y o s_2) → lv_has ls 4 [(0, .ref (o 72)), (2, .int v_1)] → W p l e R s m args below meth c H locs 0 0 Q (F0 m 19 ls [.int t0_2]) := by
    intro t0_2 s_2 H locs ls hf hC hl
    have hf := hk_19 _ _ hf
    refine lv_istore_n (lv' := [(3, .int t0_2), (0, .ref (o 72)), (2, .int v_1)]) hx hb dX5_shuffle_19 rfl hl (by decide) rfl (fun ls hl => ?_)
    refine lv_aload_n hx hb dX5_shuffle_20 rfl (lv_at hl 1 rfl) ?_
    refine lv_iload_n hx hb dX5_shuffle_21 rfl (lv_at hl 2 rfl) ?_
    obtain ⟨s_3, hc_3, hf⟩ := cals_inv hf
    refine cc_Vv (r_X5_push (D := D) (y := y) (o := o) (ad := ad) (av := av) hc_3 l) hx hb hml hta hown hK hN hV hA hC hRc hRs (by omega) (by omega) wq_390 (q := 72) (ci := 5) rfl rfl wq_391 wq_392 wq_389 wq_380 hd_X5_push (As := [.int v_1]) (rest := []) rfl rfl hl.1 rfl dX5_shuffle_22 (fun H locs hC => ?_)
    refine lv_aload_n hx hb dX5_shuffle_25 rfl (lv_at hl 1 rfl) ?_
    refine lv_iload_n hx hb dX5_shuffle_26 rfl (lv_at hl 0 rfl) ?_
    obtain ⟨s_4, hc_4, hf⟩ := cals_inv hf
    refine cc_Vv (r_X5_push (D := D) (y := y) (o := o) (ad := ad) (av := av) hc_4 l) hx hb hml hta hown hK hN hV hA hC hRc hRs (by omega) (by omega) wq_390 (q := 72) (ci := 5) rfl rfl wq_391 wq_392 wq_389 wq_380 hd_X5_push (As := [.int t0_2]) (rest := []) rfl rfl hl.1 rfl dX5_shuffle_27 (fun H locs hC => ?_)
    exact hret _ _ _ _ _ (congrArg (WX y o) (Option.some.inj hf)) dX5_shuffle_30 hC
  refine lv_icmp_ne (tgt := 18) hx hb dX5_shuffle_8 (by decide) (fun c_5 => ?_) (fun c_5 => ?_)
  · have hf := it_f c_5 hf
    refine lv_iload_n hx hb dX5_shuffle_18 rfl (lv_at hl 0 rfl) ?_
    exact hj_19 _ _ _ _ _ hf hC (lv_sub hl [1, 0] rfl)
  · have hf := it_t c_5 hf
    refine lv_aload_n hx hb dX5_shuffle_11 rfl (lv_at hl 1 rfl) ?_
    obtain ⟨v_6, s_6, hc_6, hf⟩ := calv_inv hf
    refine cc_Vi (r_X5_pop (D := D) (y := y) (o := o) (ad := ad) (av := av) hc_6 l) hx hb hml hta hown hK hN hV hA hC hRc hRs (by omega) (by omega) wq_386 (q := 72) (ci := 5) rfl rfl wq_387 wq_388 wq_389 wq_381 hd_X5_pop (As := []) (rest := []) rfl rfl hl.1 rfl dX5_shuffle_12 (fun H locs hC => ?_)
    refine lv_goto (tgt := 19) hx hb dX5_shuffle_15 (by decide) ?_
    exact hj_19 _ _ _ _ _ hf hC (lv_sub hl [1, 0] rfl)

set_option maxHeartbeats 8000000 in
set_option maxRecDepth 100000 in
theorem r_X5_draw {D : va_G} {y : Nat → ClassId} {o : Nat → Nat} {ad av : Nat → Nat} {σ : Sto} {σ2 : Sto} {v : Int32} (hf : f_X5_draw σ = some (v, σ2)) (l : Launch) (sz : Nat) : Met l yX5_draw (Cond.code yX5_draw cX5_draw 1 (some .int) :: ALW) { frames := 0, cells := 0, slots := 0, locals := 0 } (va_Pc [.ref (o 72)] (PZ D y ad av (WX y o σ) sz)) (QZi D (WX y o σ) v (WX y o σ2) sz) 0 0 (va_A (WX y o σ) sz) := by
  refine met_i (by decide) (Nat.le_of_ble_eq_true rfl) ?_
  intro p e R s m args below meth c Q A ls hx hb hml hta hown hRc hRs hRf hRl hN hK hV hA hret hC hl
  have hl : lv_has ls 1 [(0, .ref (o 72))] := hl
  unfold f_X5_draw at hf
  refine lv_aload_n hx hb dX5_draw_0 rfl (lv_at hl 0 rfl) ?_
  refine lv_aload_n hx hb dX5_draw_1 rfl (lv_at hl 0 rfl) ?_
  refine gt_X5_41_machine hx hb hta hown hK hC dX5_draw_2 ?_
  refine lv_ldc hx hb hown (hta _ wq_383) dX5_draw_5 ?_
  refine lv_imul hx hb dX5_draw_7 ?_
  refine lv_sipush (v := 12345) hx hb dX5_draw_8 (by decide) ?_
  refine lv_iadd hx hb dX5_draw_11 ?_
  obtain ⟨s_1, e_1, hf⟩ := lt_inv hf
  refine pt_X5_41_machine hx hb hta hown hK hC e_1 dX5_draw_12 (fun H locs hC => ?_)
  refine lv_aload_n hx hb dX5_draw_15 rfl (lv_at hl 0 rfl) ?_
  refine lv_dup hx hb dX5_draw_16 rfl ?_
  refine gt_X5_67_machine hx hb hta hown hK hC dX5_draw_17 ?_
  refine lv_iconst (v := 1) hx hb dX5_draw_20 (by decide) ?_
  refine lv_iadd hx hb dX5_draw_21 ?_
  obtain ⟨s_2, e_2, hf⟩ := lt_inv hf
  refine pt_X5_67_machine hx hb hta hown hK hC e_2 dX5_draw_22 (fun H locs hC => ?_)
  refine lv_aload_n hx hb dX5_draw_25 rfl (lv_at hl 0 rfl) ?_
  refine gt_X5_41_machine hx hb hta hown hK hC dX5_draw_26 ?_
  refine lv_bipush (v := 16) hx hb dX5_draw_29 (by decide) ?_
  refine lv_iushr hx hb dX5_draw_31 rfl ?_
  refine lv_sipush (v := 32767) hx hb dX5_draw_32 (by decide) ?_
  refine lv_iand hx hb dX5_draw_35 ?_
  refine lv_iconst (v := 5) hx hb dX5_draw_36 (by decide) ?_
  refine lv_irem hx hb dX5_draw_37 (by decide) ?_
  exact hret _ _ _ _ _ _ (rv_inv hf).1 (congrArg (WX y o) (rv_inv hf).2) rfl dX5_draw_38 hC

set_option maxHeartbeats 8000000 in
set_option maxRecDepth 100000 in
theorem r_X5_tellOut {D : va_G} {y : Nat → ClassId} {o : Nat → Nat} {ad av : Nat → Nat} {x1 : Int32} {σ : Sto} {σ2 : Sto} (hf : f_X5_tellOut x1 σ = some σ2) (l : Launch) (sz : Nat) : Met l yX5_tellOut (Cond.code yX5_tellOut cX5_tellOut 2 none :: ALW) { frames := 0, cells := 0, slots := 0, locals := 0 } (va_Pc [.ref (o 72), .int x1] (PZ D y ad av (WX y o σ) sz)) (QZv D (WX y o σ) (WX y o σ2) sz) 0 0 (va_A (WX y o σ) sz) := by
  refine met_v (by decide) (Nat.le_of_ble_eq_true rfl) ?_
  intro p e R s m args below meth c Q A ls hx hb hml hta hown hRc hRs hRf hRl hN hK hV hA hret hC hl
  have hl : lv_has ls 2 [(0, .ref (o 72)), (1, .int x1)] := hl
  unfold f_X5_tellOut at hf
  refine lv_aload_n hx hb dX5_tellOut_0 rfl (lv_at hl 0 rfl) ?_
  refine gt_X5_70_machine hx hb hta hown hK hC dX5_tellOut_1 ?_
  refine lv_aload_n hx hb dX5_tellOut_4 rfl (lv_at hl 0 rfl) ?_
  refine gt_X5_48_machine hx hb hta hown hK hC dX5_tellOut_5 ?_
  obtain ⟨k_16, hk_16, hf⟩ := jn_inv1 hf
  have hj_16 : ∀ (s_1 : Sto) (H : Heap) (locs : List Loc) (ls : Array Slot), k_16 s_1 = some σ2 → CZ D A s H locs (WX y o s_1) → lv_has ls 2 [(0, .ref (o 72)), (1, .int x1)] → W p l e R s m args below meth c H locs 0 0 Q (F0 m 16 ls []) := by
    intro s_1 H locs ls hf hC hl
    have hf := hk_16 _ hf
    refine lv_aload_n hx hb dX5_tellOut_16 rfl (lv_at hl 0 rfl) ?_
    refine lv_dup hx hb dX5_tellOut_17 rfl ?_
    refine gt_X5_70_machine hx hb hta hown hK hC dX5_tellOut_18 ?_
    refine lv_iconst (v := 1) hx hb dX5_tellOut_21 (by decide) ?_
    refine lv_iadd hx hb dX5_tellOut_22 ?_
    obtain ⟨s_2, e_2, hf⟩ := lt_inv hf
    refine pt_X5_70_machine hx hb hta hown hK hC e_2 dX5_tellOut_23 (fun H locs hC => ?_)
    refine lv_aload_n hx hb dX5_tellOut_26 rfl (lv_at hl 0 rfl) ?_
    refine lv_bipush (v := 31) hx hb dX5_tellOut_27 (by decide) ?_
    refine lv_aload_n hx hb dX5_tellOut_29 rfl (lv_at hl 0 rfl) ?_
    refine gt_X5_73_machine hx hb hta hown hK hC dX5_tellOut_30 ?_
    refine lv_imul hx hb dX5_tellOut_33 ?_
    refine lv_iload_n hx hb dX5_tellOut_34 rfl (lv_at hl 1 rfl) ?_
    refine lv_iadd hx hb dX5_tellOut_35 ?_
    obtain ⟨s_3, e_3, hf⟩ := lt_inv hf
    refine pt_X5_73_machine hx hb hta hown hK hC e_3 dX5_tellOut_36 (fun H locs hC => ?_)
    exact hret _ _ _ _ _ (congrArg (WX y o) (Option.some.inj hf)) dX5_tellOut_39 hC
  refine lv_icmp_ne (tgt := 16) hx hb dX5_tellOut_8 (by decide) (fun c_4 => ?_) (fun c_4 => ?_)
  · have hf := it_f c_4 hf
    exact hj_16 _ _ _ _ hf hC hl
  · have hf := it_t c_4 hf
    refine lv_aload_n hx hb dX5_tellOut_11 rfl (lv_at hl 0 rfl) ?_
    refine lv_iload_n hx hb dX5_tellOut_12 rfl (lv_at hl 1 rfl) ?_
    obtain ⟨s_5, e_5, hf⟩ := lt_inv hf
    refine pt_X5_76_machine hx hb hta hown hK hC e_5 dX5_tellOut_13 (fun H locs hC => ?_)
    exact hj_16 _ _ _ _ hf hC hl

set_option maxHeartbeats 8000000 in
set_option maxRecDepth 100000 in
theorem r_X5_throwOut {D : va_G} {y : Nat → ClassId} {o : Nat → Nat} {ad av : Nat → Nat} {x1 : Int32} {σ : Sto} {σ2 : Sto} (hf : f_X5_throwOut x1 σ = some σ2) (l : Launch) (sz : Nat) : Met l yX5_throwOut (Cond.code yX5_throwOut cX5_throwOut 2 none :: ALW) { frames := 0, cells := 0, slots := 0, locals := 0 } (va_Pc [.ref (o 72), .int x1] (PZ D y ad av (WX y o σ) sz)) (QZv D (WX y o σ) (WX y o σ2) sz) 0 0 (va_A (WX y o σ) sz) := by
  refine met_v (by decide) (Nat.le_of_ble_eq_true rfl) ?_
  intro p e R s m args below meth c Q A ls hx hb hml hta hown hRc hRs hRf hRl hN hK hV hA hret hC hl
  have hl : lv_has ls 2 [(0, .ref (o 72)), (1, .int x1)] := hl
  unfold f_X5_throwOut at hf
  refine lv_aload_n hx hb dX5_throwOut_0 rfl (lv_at hl 0 rfl) ?_
  refine lv_iconst (v := 1) hx hb dX5_throwOut_1 (by decide) ?_
  obtain ⟨s_1, e_1, hf⟩ := lt_inv hf
  refine pt_X5_61_machine hx hb hta hown hK hC e_1 dX5_throwOut_2 (fun H locs hC => ?_)
  refine lv_aload_n hx hb dX5_throwOut_5 rfl (lv_at hl 0 rfl) ?_
  refine lv_iload_n hx hb dX5_throwOut_6 rfl (lv_at hl 1 rfl) ?_
  obtain ⟨s_2, e_2, hf⟩ := lt_inv hf
  refine pt_X5_58_machine hx hb hta hown hK hC e_2 dX5_throwOut_7 (fun H locs hC => ?_)
  exact hret _ _ _ _ _ (congrArg (WX y o) (Option.some.inj hf)) dX5_throwOut_10 hC

set_option maxHeartbeats 8000000 in
set_option maxRecDepth 100000 in
theorem r_X5_throwFrom {D : va_G} {y : Nat → ClassId} {o : Nat → Nat} {ad av : Nat → Nat} {x1 : Int32} {x2 : Int32} {σ : Sto} {σ2 : Sto} {v : Int32} (hf : f_X5_throwFrom x1 x2 σ = some (v, σ2)) (l : Launch) (sz : Nat) : Met l yX5_throwFrom (Cond.code yX5_throwFrom cX5_throwFrom 4 (some .int) :: ALW) { frames := 1, cells := 0, slots := 0, locals := 22 } (va_Pc [.ref (o 72), .int x1, .int x2] (PZ D y ad av (WX y o σ) sz)) (QZi D (WX y o σ) v (WX y o σ2) sz) 0 0 (va_A (WX y o σ) sz) := by
  refine met_i (by decide) (Nat.le_of_ble_eq_true rfl) ?_
  intro p e R s m args below meth c Q A ls hx hb hml hta hown hRc hRs hRf hRl hN hK hV hA hret hC hl
  have hl : lv_has ls 4 [(0, .ref (o 72)), (1, .int x1), (2, .int x2)] := hl
  unfold f_X5_throwFrom at hf
  refine lv_aload_n hx hb dX5_throwFrom_0 rfl (lv_at hl 0 rfl) ?_
  refine gt_X5_21_machine hx hb hta hown hK hC dX5_throwFrom_1 ?_
  refine lv_iload_n hx hb dX5_throwFrom_4 rfl (lv_at hl 1 rfl) ?_
  obtain ⟨v_1, hc_1, hf⟩ := calp_inv hf
  refine cc_Vi (r_X3_handlerOf (D := D) (y := y) (o := o) (ad := ad) (av := av) hc_1 l) hx hb hml hta hown hK hN hV hA hC hRc hRs (by omega) (by omega) wq_396 (q := 3) (ci := 3) rfl rfl wq_53 wq_54 wq_27 wq_44 hd_X3_handlerOf (As := [.int x1]) (rest := []) rfl rfl hl.1 rfl dX5_throwFrom_5 (fun H locs hC => ?_)
  refine lv_istore_n (lv' := [(3, .int v_1), (0, .ref (o 72)), (1, .int x1), (2, .int x2)]) hx hb dX5_throwFrom_8 rfl hl (by decide) rfl (fun ls hl => ?_)
  refine lv_iload_n hx hb dX5_throwFrom_9 rfl (lv_at hl 0 rfl) ?_
  refine lv_iconst (v := (-1)) hx hb dX5_throwFrom_10 (by decide) ?_
  refine lv_icmp_ne (tgt := 21) hx hb dX5_throwFrom_11 (by decide) (fun c_2 => ?_) (fun c_2 => ?_)
  · have hf := it_f c_2 hf
    refine lv_aload_n hx hb dX5_throwFrom_21 rfl (lv_at hl 1 rfl) ?_
    refine lv_iconst (v := 0) hx hb dX5_throwFrom_22 (by decide) ?_
    obtain ⟨s_4, e_4, hf⟩ := lt_inv hf
    refine pt_X5_54_machine hx hb hta hown hK hC (Or.inl rfl) e_4 dX5_throwFrom_23 (fun H locs hC => ?_)
    refine lv_aload_n hx hb dX5_throwFrom_26 rfl (lv_at hl 1 rfl) ?_
    refine lv_iconst (v := 0) hx hb dX5_throwFrom_27 (by decide) ?_
    obtain ⟨s_5, e_5, hf⟩ := lt_inv hf
    refine pt_X5_51_machine hx hb hta hown hK hC e_5 dX5_throwFrom_28 (fun H locs hC => ?_)
    refine lv_aload_n hx hb dX5_throwFrom_31 rfl (lv_at hl 1 rfl) ?_
    refine lv_iload_n hx hb dX5_throwFrom_32 rfl (lv_at hl 3 rfl) ?_
    obtain ⟨s_6, hc_6, hf⟩ := cals_inv hf
    refine cc_Vv (r_X5_push (D := D) (y := y) (o := o) (ad := ad) (av := av) hc_6 l) hx hb hml hta hown hK hN hV hA hC hRc hRs (by omega) (by omega) wq_390 (q := 72) (ci := 5) rfl rfl wq_391 wq_392 wq_389 wq_380 hd_X5_push (As := [.int x2]) (rest := []) rfl rfl hl.1 rfl dX5_throwFrom_33 (fun H locs hC => ?_)
    refine lv_aload_n hx hb dX5_throwFrom_36 rfl (lv_at hl 1 rfl) ?_
    refine gt_X5_21_machine hx hb hta hown hK hC dX5_throwFrom_37 ?_
    refine gt_X5_149_listing hx hb hta hown hK hC dX5_throwFrom_40 ?_
    refine lv_iload_n hx hb dX5_throwFrom_43 rfl (lv_at hl 0 rfl) ?_
    obtain ⟨hi_7, hf⟩ := ix_inv hf
    obtain ⟨v_7, e_7, hf⟩ := lt_inv hf
    refine al_X_9 hx hb hK hC hi_7 e_7 dX5_throwFrom_44 ?_
    exact hret _ _ _ _ _ _ (rv_inv hf).1 (congrArg (WX y o) (rv_inv hf).2) rfl dX5_throwFrom_45 hC
  · have hf := it_t c_2 hf
    refine lv_aload_n hx hb dX5_throwFrom_14 rfl (lv_at hl 1 rfl) ?_
    refine lv_iload_n hx hb dX5_throwFrom_15 rfl (lv_at hl 3 rfl) ?_
    obtain ⟨s_3, hc_3, hf⟩ := cals_inv hf
    refine cc_Vv (r_X5_throwOut (D := D) (y := y) (o := o) (ad := ad) (av := av) hc_3 l) hx hb hml hta hown hK hN hV hA hC hRc hRs (by omega) (by omega) wq_397 (q := 72) (ci := 5) rfl rfl wq_398 wq_399 wq_389 wq_393 hd_X5_throwOut (As := [.int x2]) (rest := []) rfl rfl hl.1 rfl dX5_throwFrom_16 (fun H locs hC => ?_)
    refine lv_iconst (v := (-1)) hx hb dX5_throwFrom_19 (by decide) ?_
    exact hret _ _ _ _ _ _ (rv_inv hf).1 (congrArg (WX y o) (rv_inv hf).2) rfl dX5_throwFrom_20 hC

set_option maxHeartbeats 8000000 in
set_option maxRecDepth 100000 in
theorem r_X11_outcome {D : va_G} {y : Nat → ClassId} {ad av : Nat → Nat} {w : va_W} {x1 : Int32} {x2 : Int32} {x3 : Int32} {v : Int32} (hf : f_X11_outcome x1 x2 x3 = some v) (l : Launch) (sz : Nat) : Met l yX11_outcome (Cond.code yX11_outcome cX11_outcome 3 (some .int) :: ALW) { frames := 0, cells := 0, slots := 0, locals := 0 } (va_Pc [.int x1, .int x2, .int x3] (PZ D y ad av (w) sz)) (QZi D (w) v (w) sz) 0 0 (va_A (w) sz) := by
  refine met_i (by decide) (Nat.le_of_ble_eq_true rfl) ?_
  intro p e R s m args below meth c Q A ls hx hb hml hta hown hRc hRs hRf hRl hN hK hV hA hret hC hl
  have hl : lv_has ls 3 [(0, .int x1), (1, .int x2), (2, .int x3)] := hl
  unfold f_X11_outcome at hf
  refine lv_iload_n hx hb dX11_outcome_0 rfl (lv_at hl 0 rfl) ?_
  by_cases h_1_0 : x1.toInt = 33
  · have hf := it_t h_1_0 hf
    refine lv_tab (tgt := 190) hx hb dX11_outcome_1 (Or.inr ⟨189, by omega, by omega, by (rw [h_1_0]; decide), by decide⟩) ?_
    refine lv_iload_n hx hb dX11_outcome_190 rfl (lv_at hl 1 rfl) ?_
    refine lv_if_ne (tgt := 198) hx hb dX11_outcome_191 (by decide) (fun c_2 => ?_) (fun c_2 => ?_)
    · have hf := it_f c_2 hf
      refine lv_iconst (v := 0) hx hb dX11_outcome_198 (by decide) ?_
      exact hret _ _ _ _ _ _ (Option.some.inj hf) rfl rfl dX11_outcome_199 hC
    · have hf := it_t c_2 hf
      refine lv_iconst (v := 1) hx hb dX11_outcome_194 (by decide) ?_
      refine lv_goto (tgt := 199) hx hb dX11_outcome_195 (by decide) ?_
      exact hret _ _ _ _ _ _ (Option.some.inj hf) rfl rfl dX11_outcome_199 hC
  have hf := it_f h_1_0 hf
  by_cases h_1_1 : x1.toInt = 37
  · have hf := it_t h_1_1 hf
    refine lv_tab (tgt := 156) hx hb dX11_outcome_1 (Or.inr ⟨155, by omega, by omega, by (rw [h_1_1]; decide), by decide⟩) ?_
    refine lv_iload_n hx hb dX11_outcome_156 rfl (lv_at hl 2 rfl) ?_
    refine lv_if_ne (tgt := 164) hx hb dX11_outcome_157 (by decide) (fun c_3 => ?_) (fun c_3 => ?_)
    · have hf := it_f c_3 hf
      refine lv_iload_n hx hb dX11_outcome_164 rfl (lv_at hl 1 rfl) ?_
      refine lv_iload_n hx hb dX11_outcome_165 rfl (lv_at hl 2 rfl) ?_
      obtain ⟨hz_4, hf⟩ := nz_inv hf
      refine lv_irem hx hb dX11_outcome_166 hz_4 ?_
      exact hret _ _ _ _ _ _ (Option.some.inj hf) rfl rfl dX11_outcome_167 hC
    · have hf := it_t c_3 hf
      refine lv_iconst (v := 0) hx hb dX11_outcome_160 (by decide) ?_
      refine lv_goto (tgt := 167) hx hb dX11_outcome_161 (by decide) ?_
      exact hret _ _ _ _ _ _ (Option.some.inj hf) rfl rfl dX11_outcome_167 hC
  have hf := it_f h_1_1 hf
  by_cases h_1_2 : x1.toInt = 42
  · have hf := it_t h_1_2 hf
    refine lv_tab (tgt := 140) hx hb dX11_outcome_1 (Or.inr ⟨139, by omega, by omega, by (rw [h_1_2]; decide), by decide⟩) ?_
    refine lv_iload_n hx hb dX11_outcome_140 rfl (lv_at hl 1 rfl) ?_
    refine lv_iload_n hx hb dX11_outcome_141 rfl (lv_at hl 2 rfl) ?_
    refine lv_imul hx hb dX11_outcome_142 ?_
    exact hret _ _ _ _ _ _ (Option.some.inj hf) rfl rfl dX11_outcome_143 hC
  have hf := it_f h_1_2 hf
  by_cases h_1_3 : x1.toInt = 43
  · have hf := it_t h_1_3 hf
    refine lv_tab (tgt := 132) hx hb dX11_outcome_1 (Or.inr ⟨131, by omega, by omega, by (rw [h_1_3]; decide), by decide⟩) ?_
    refine lv_iload_n hx hb dX11_outcome_132 rfl (lv_at hl 1 rfl) ?_
    refine lv_iload_n hx hb dX11_outcome_133 rfl (lv_at hl 2 rfl) ?_
    refine lv_iadd hx hb dX11_outcome_134 ?_
    exact hret _ _ _ _ _ _ (Option.some.inj hf) rfl rfl dX11_outcome_135 hC
  have hf := it_f h_1_3 hf
  by_cases h_1_4 : x1.toInt = 45
  · have hf := it_t h_1_4 hf
    refine lv_tab (tgt := 136) hx hb dX11_outcome_1 (Or.inr ⟨135, by omega, by omega, by (rw [h_1_4]; decide), by decide⟩) ?_
    refine lv_iload_n hx hb dX11_outcome_136 rfl (lv_at hl 1 rfl) ?_
    refine lv_iload_n hx hb dX11_outcome_137 rfl (lv_at hl 2 rfl) ?_
    refine lv_isub hx hb dX11_outcome_138 ?_
    exact hret _ _ _ _ _ _ (Option.some.inj hf) rfl rfl dX11_outcome_139 hC
  have hf := it_f h_1_4 hf
  by_cases h_1_5 : x1.toInt = 47
  · have hf := it_t h_1_5 hf
    refine lv_tab (tgt := 144) hx hb dX11_outcome_1 (Or.inr ⟨143, by omega, by omega, by (rw [h_1_5]; decide), by decide⟩) ?_
    refine lv_iload_n hx hb dX11_outcome_144 rfl (lv_at hl 2 rfl) ?_
    refine lv_if_ne (tgt := 152) hx hb dX11_outcome_145 (by decide) (fun c_5 => ?_) (fun c_5 => ?_)
    · have hf := it_f c_5 hf
      refine lv_iload_n hx hb dX11_outcome_152 rfl (lv_at hl 1 rfl) ?_
      refine lv_iload_n hx hb dX11_outcome_153 rfl (lv_at hl 2 rfl) ?_
      obtain ⟨hz_6, hf⟩ := nz_inv hf
      refine lv_idiv hx hb dX11_outcome_154 hz_6 ?_
      exact hret _ _ _ _ _ _ (Option.some.inj hf) rfl rfl dX11_outcome_155 hC
    · have hf := it_t c_5 hf
      refine lv_iconst (v := 0) hx hb dX11_outcome_148 (by decide) ?_
      refine lv_goto (tgt := 155) hx hb dX11_outcome_149 (by decide) ?_
      exact hret _ _ _ _ _ _ (Option.some.inj hf) rfl rfl dX11_outcome_155 hC
  have hf := it_f h_1_5 hf
  by_cases h_1_6 : x1.toInt = 60
  · have hf := it_t h_1_6 hf
    refine lv_tab (tgt := 168) hx hb dX11_outcome_1 (Or.inr ⟨167, by omega, by omega, by (rw [h_1_6]; decide), by decide⟩) ?_
    refine lv_iload_n hx hb dX11_outcome_168 rfl (lv_at hl 1 rfl) ?_
    refine lv_iload_n hx hb dX11_outcome_169 rfl (lv_at hl 2 rfl) ?_
    refine lv_icmp_ge (tgt := 177) hx hb dX11_outcome_170 (by decide) (fun c_7 => ?_) (fun c_7 => ?_)
    · have hf := it_t c_7 hf
      refine lv_iconst (v := 0) hx hb dX11_outcome_177 (by decide) ?_
      exact hret _ _ _ _ _ _ (Option.some.inj hf) rfl rfl dX11_outcome_178 hC
    · have hf := it_f c_7 hf
      refine lv_iconst (v := 1) hx hb dX11_outcome_173 (by decide) ?_
      refine lv_goto (tgt := 178) hx hb dX11_outcome_174 (by decide) ?_
      exact hret _ _ _ _ _ _ (Option.some.inj hf) rfl rfl dX11_outcome_178 hC
  have hf := it_f h_1_6 hf
  by_cases h_1_7 : x1.toInt = 61
  · have hf := it_t h_1_7 hf
    refine lv_tab (tgt := 179) hx hb dX11_outcome_1 (Or.inr ⟨178, by omega, by omega, by (rw [h_1_7]; decide), by decide⟩) ?_
    refine lv_iload_n hx hb dX11_outcome_179 rfl (lv_at hl 1 rfl) ?_
    refine lv_iload_n hx hb dX11_outcome_180 rfl (lv_at hl 2 rfl) ?_
    refine lv_icmp_ne (tgt := 188) hx hb dX11_outcome_181 (by decide) (fun c_8 => ?_) (fun c_8 => ?_)
    · have hf := it_f c_8 hf
      refine lv_iconst (v := 0) hx hb dX11_outcome_188 (by decide) ?_
      exact hret _ _ _ _ _ _ (Option.some.inj hf) rfl rfl dX11_outcome_189 hC
    · have hf := it_t c_8 hf
      refine lv_iconst (v := 1) hx hb dX11_outcome_184 (by decide) ?_
      refine lv_goto (tgt := 189) hx hb dX11_outcome_185 (by decide) ?_
      exact hret _ _ _ _ _ _ (Option.some.inj hf) rfl rfl dX11_outcome_189 hC
  have hf := it_f h_1_7 hf
  refine lv_tab (tgt := 200) hx hb dX11_outcome_1 (by rcases (show (x1.toInt < 33 ∨ 61 < x1.toInt ∨ x1.toInt = 34 ∨ x1.toInt = 35 ∨ x1.toInt = 36 ∨ x1.toInt = 38 ∨ x1.toInt = 39 ∨ x1.toInt = 40 ∨ x1.toInt = 41 ∨ x1.toInt = 44 ∨ x1.toInt = 46 ∨ x1.toInt = 48 ∨ x1.toInt = 49 ∨ x1.toInt = 50 ∨ x1.toInt = 51 ∨ x1.toInt = 52 ∨ x1.toInt = 53 ∨ x1.toInt = 54 ∨ x1.toInt = 55 ∨ x1.toInt = 56 ∨ x1.toInt = 57 ∨ x1.toInt = 58 ∨ x1.toInt = 59) by omega) with h | h | h | h | h | h | h | h | h | h | h | h | h | h | h | h | h | h | h | h | h | h | h; exact Or.inl ⟨Or.inl h, by decide⟩; exact Or.inl ⟨Or.inr h, by decide⟩; all_goals exact Or.inr ⟨199, by omega, by omega, by rw [h]; decide, by decide⟩) ?_
  refine lv_iload_n hx hb dX11_outcome_200 rfl (lv_at hl 1 rfl) ?_
  refine lv_ineg hx hb dX11_outcome_201 ?_
  exact hret _ _ _ _ _ _ (Option.some.inj hf) rfl rfl dX11_outcome_202 hC

set_option maxHeartbeats 8000000 in
set_option maxRecDepth 100000 in
theorem r_X11_dividesByZero {D : va_G} {y : Nat → ClassId} {ad av : Nat → Nat} {w : va_W} {x1 : Int32} {x2 : Int32} {v : Int32} (hf : f_X11_dividesByZero x1 x2 = some v) (l : Launch) (sz : Nat) : Met l yX11_dividesByZero (Cond.code yX11_dividesByZero cX11_dividesByZero 2 (some .boolean) :: ALW) { frames := 0, cells := 0, slots := 0, locals := 0 } (va_Pc [.int x1, .int x2] (PZ D y ad av (w) sz)) (QZi D (w) v (w) sz) 0 0 (va_A (w) sz) := by
  refine met_i (by decide) (Nat.le_of_ble_eq_true rfl) ?_
  intro p e R s m args below meth c Q A ls hx hb hml hta hown hRc hRs hRf hRl hN hK hV hA hret hC hl
  have hl : lv_has ls 2 [(0, .int x1), (1, .int x2)] := hl
  unfold f_X11_dividesByZero at hf
  refine lv_iload_n hx hb dX11_dividesByZero_0 rfl (lv_at hl 0 rfl) ?_
  refine lv_bipush (v := 47) hx hb dX11_dividesByZero_1 (by decide) ?_
  obtain ⟨k_20, hk_20, hf⟩ := jn_inv0 hf
  have hj_20 : ∀  (H : Heap) (locs : List Loc) (ls : Array Slot), k_20 = some v → CZ D A s H locs w → lv_has ls 2 [] → W p l e R s m args below meth c H locs 0 0 Q (F0 m 20 ls []) := by
    intro H locs ls hf hC hl
    have hf := hk_20 hf
    refine lv_iconst (v := 0) hx hb dX11_dividesByZero_20 (by decide) ?_
    exact hret _ _ _ _ _ _ (Option.some.inj hf) rfl rfl dX11_dividesByZero_21 hC
  obtain ⟨k_12, hk_12, hf⟩ := jn_inv0 hf
  have hj_12 : ∀  (H : Heap) (locs : List Loc) (ls : Array Slot), k_12 = some v → CZ D A s H locs w → lv_has ls 2 [(1, .int x2)] → W p l e R s m args below meth c H locs 0 0 Q (F0 m 12 ls []) := by
    intro H locs ls hf hC hl
    have hf := hk_12 hf
    refine lv_iload_n hx hb dX11_dividesByZero_12 rfl (lv_at hl 0 rfl) ?_
    refine lv_if_ne (tgt := 20) hx hb dX11_dividesByZero_13 (by decide) (fun c_3 => ?_) (fun c_3 => ?_)
    · have hf := it_f c_3 hf
      exact hj_20 _ _ _ hf hC (lv_sub hl [] rfl)
    · have hf := it_t c_3 hf
      refine lv_iconst (v := 1) hx hb dX11_dividesByZero_16 (by decide) ?_
      refine lv_goto (tgt := 21) hx hb dX11_dividesByZero_17 (by decide) ?_
      exact hret _ _ _ _ _ _ (Option.some.inj hf) rfl rfl dX11_dividesByZero_21 hC
  refine lv_icmp_eq (tgt := 12) hx hb dX11_dividesByZero_3 (by decide) (fun c_4 => ?_) (fun c_4 => ?_)
  · have hf := it_t c_4 hf
    exact hj_12 _ _ _ hf hC (lv_sub hl [1] rfl)
  · have hf := it_f c_4 hf
    refine lv_iload_n hx hb dX11_dividesByZero_6 rfl (lv_at hl 0 rfl) ?_
    refine lv_bipush (v := 37) hx hb dX11_dividesByZero_7 (by decide) ?_
    refine lv_icmp_ne (tgt := 20) hx hb dX11_dividesByZero_9 (by decide) (fun c_5 => ?_) (fun c_5 => ?_)
    · have hf := it_f c_5 hf
      exact hj_20 _ _ _ hf hC (lv_sub hl [] rfl)
    · have hf := it_t c_5 hf
      exact hj_12 _ _ _ hf hC (lv_sub hl [1] rfl)

set_option maxHeartbeats 8000000 in
set_option maxRecDepth 100000 in
theorem r_X5_operate {D : va_G} {y : Nat → ClassId} {o : Nat → Nat} {ad av : Nat → Nat} {x1 : Int32} {σ : Sto} {σ2 : Sto} (hf : f_X5_operate x1 σ = some σ2) (l : Launch) (sz : Nat) : Met l yX5_operate (Cond.code yX5_operate cX5_operate 4 none :: ALW) { frames := 1, cells := 0, slots := 0, locals := 22 } (va_Pc [.ref (o 72), .int x1] (PZ D y ad av (WX y o σ) sz)) (QZv D (WX y o σ) (WX y o σ2) sz) 0 0 (va_A (WX y o σ) sz) := by
  refine met_v (by decide) (Nat.le_of_ble_eq_true rfl) ?_
  intro p e R s m args below meth c Q A ls hx hb hml hta hown hRc hRs hRf hRl hN hK hV hA hret hC hl
  have hl : lv_has ls 4 [(0, .ref (o 72)), (1, .int x1)] := hl
  unfold f_X5_operate at hf
  refine lv_aload_n hx hb dX5_operate_0 rfl (lv_at hl 0 rfl) ?_
  obtain ⟨v_1, s_1, hc_1, hf⟩ := calv_inv hf
  refine cc_Vi (r_X5_pop (D := D) (y := y) (o := o) (ad := ad) (av := av) hc_1 l) hx hb hml hta hown hK hN hV hA hC hRc hRs (by omega) (by omega) wq_386 (q := 72) (ci := 5) rfl rfl wq_387 wq_388 wq_389 wq_381 hd_X5_pop (As := []) (rest := []) rfl rfl hl.1 rfl dX5_operate_1 (fun H locs hC => ?_)
  refine lv_istore_n (lv' := [(2, .int v_1), (0, .ref (o 72)), (1, .int x1)]) hx hb dX5_operate_4 rfl hl (by decide) rfl (fun ls hl => ?_)
  refine lv_iload_n hx hb dX5_operate_5 rfl (lv_at hl 2 rfl) ?_
  obtain ⟨v_2, hc_2, hf⟩ := calp_inv hf
  refine cc_SiN (r_X11_isBinary (D := D) (y := y) (w := WX y o s_1) (ad := ad) (av := av) hc_2 l) hx hb hml hta hown hK hN hV hA hC hRc hRs (by omega) (by omega) (nw_X5_131 hN) wq_67 wq_38 wq_65 hd_X11_isBinary (As := [.int x1]) (rest := []) rfl rfl hl.1 rfl dX5_operate_6 (fun H locs hC => ?_)
  refine lv_if_eq (tgt := 39) hx hb dX5_operate_9 (by decide) (fun c_3 => ?_) (fun c_3 => ?_)
  · have hf := it_t c_3 hf
    refine lv_aload_n hx hb dX5_operate_39 rfl (lv_at hl 1 rfl) ?_
    refine lv_iload_n hx hb dX5_operate_40 rfl (lv_at hl 2 rfl) ?_
    refine lv_iload_n hx hb dX5_operate_41 rfl (lv_at hl 0 rfl) ?_
    refine lv_iconst (v := 0) hx hb dX5_operate_42 (by decide) ?_
    obtain ⟨v_4, hc_4, hf⟩ := calp_inv hf
    refine cc_SiN (r_X11_outcome (D := D) (y := y) (w := WX y o s_1) (ad := ad) (av := av) hc_4 l) hx hb hml hta hown hK hN hV hA hC hRc hRs (by omega) (by omega) (nw_X5_139 hN) wq_404 wq_38 wq_401 hd_X11_outcome (As := [.int x1, .int v_1, .int 0]) (rest := [.ref (o 72)]) rfl rfl hl.1 rfl dX5_operate_43 (fun H locs hC => ?_)
    obtain ⟨s_5, hc_5, hf⟩ := cals_inv hf
    refine cc_Vv (r_X5_push (D := D) (y := y) (o := o) (ad := ad) (av := av) hc_5 l) hx hb hml hta hown hK hN hV hA hC hRc hRs (by omega) (by omega) wq_390 (q := 72) (ci := 5) rfl rfl wq_391 wq_392 wq_389 wq_380 hd_X5_push (As := [.int v_4]) (rest := []) rfl rfl hl.1 rfl dX5_operate_46 (fun H locs hC => ?_)
    exact hret _ _ _ _ _ (congrArg (WX y o) (Option.some.inj hf)) dX5_operate_49 hC
  · have hf := it_f c_3 hf
    refine lv_aload_n hx hb dX5_operate_12 rfl (lv_at hl 1 rfl) ?_
    obtain ⟨v_6, s_6, hc_6, hf⟩ := calv_inv hf
    refine cc_Vi (r_X5_pop (D := D) (y := y) (o := o) (ad := ad) (av := av) hc_6 l) hx hb hml hta hown hK hN hV hA hC hRc hRs (by omega) (by omega) wq_386 (q := 72) (ci := 5) rfl rfl wq_387 wq_388 wq_389 wq_381 hd_X5_pop (As := []) (rest := []) rfl rfl hl.1 rfl dX5_operate_13 (fun H locs hC => ?_)
    refine lv_istore_n (lv' := [(3, .int v_6), (2, .int v_1), (0, .ref (o 72)), (1, .int x1)]) hx hb dX5_operate_16 rfl hl (by decide) rfl (fun ls hl => ?_)
    refine lv_aload_n hx hb dX5_operate_17 rfl (lv_at hl 2 rfl) ?_
    refine lv_iload_n hx hb dX5_operate_18 rfl (lv_at hl 3 rfl) ?_
    refine lv_iload_n hx hb dX5_operate_19 rfl (lv_at hl 1 rfl) ?_
    obtain ⟨v_7, hc_7, hf⟩ := calp_inv hf
    refine cc_SiN (r_X11_dividesByZero (D := D) (y := y) (w := WX y o s_6) (ad := ad) (av := av) hc_7 l) hx hb hml hta hown hK hN hV hA hC hRc hRs (by omega) (by omega) (nw_X5_135 hN) wq_403 wq_38 wq_400 hd_X11_dividesByZero (As := [.int x1, .int v_1]) (rest := [.ref (o 72)]) rfl rfl hl.1 rfl dX5_operate_20 (fun H locs hC => ?_)
    obtain ⟨hb_9, hf⟩ := bz_inv hf
    obtain ⟨s_8, e_8, hf⟩ := lt_inv hf
    refine pt_X5_54_machine hx hb hta hown hK hC hb_9 e_8 dX5_operate_23 (fun H locs hC => ?_)
    refine lv_aload_n hx hb dX5_operate_26 rfl (lv_at hl 2 rfl) ?_
    refine lv_iload_n hx hb dX5_operate_27 rfl (lv_at hl 3 rfl) ?_
    refine lv_iload_n hx hb dX5_operate_28 rfl (lv_at hl 0 rfl) ?_
    refine lv_iload_n hx hb dX5_operate_29 rfl (lv_at hl 1 rfl) ?_
    obtain ⟨v_10, hc_10, hf⟩ := calp_inv hf
    refine cc_SiN (r_X11_outcome (D := D) (y := y) (w := WX y o s_8) (ad := ad) (av := av) hc_10 l) hx hb hml hta hown hK hN hV hA hC hRc hRs (by omega) (by omega) (nw_X5_139 hN) wq_404 wq_38 wq_401 hd_X11_outcome (As := [.int x1, .int v_6, .int v_1]) (rest := [.ref (o 72)]) rfl rfl hl.1 rfl dX5_operate_30 (fun H locs hC => ?_)
    obtain ⟨s_11, hc_11, hf⟩ := cals_inv hf
    refine cc_Vv (r_X5_push (D := D) (y := y) (o := o) (ad := ad) (av := av) hc_11 l) hx hb hml hta hown hK hN hV hA hC hRc hRs (by omega) (by omega) wq_390 (q := 72) (ci := 5) rfl rfl wq_391 wq_392 wq_389 wq_380 hd_X5_push (As := [.int v_10]) (rest := []) rfl rfl hl.1 rfl dX5_operate_33 (fun H locs hC => ?_)
    refine lv_goto (tgt := 49) hx hb dX5_operate_36 (by decide) ?_
    exact hret _ _ _ _ _ (congrArg (WX y o) (Option.some.inj hf)) dX5_operate_49 hC

set_option maxHeartbeats 8000000 in
set_option maxRecDepth 100000 in
theorem r_X5_obey {D : va_G} {y : Nat → ClassId} {o : Nat → Nat} {ad av : Nat → Nat} {x1 : Int32} {σ : Sto} {σ2 : Sto} {v : Int32} (hf : f_X5_obey x1 σ = some (v, σ2)) (l : Launch) (sz : Nat) : Met l yX5_obey (Cond.code yX5_obey cX5_obey 4 (some .int) :: ALW) { frames := 2, cells := 0, slots := 0, locals := 45 } (va_Pc [.ref (o 72), .int x1] (PZ D y ad av (WX y o σ) sz)) (QZi D (WX y o σ) v (WX y o σ2) sz) 0 0 (va_A (WX y o σ) sz) := by
  refine met_i (by decide) (Nat.le_of_ble_eq_true rfl) ?_
  intro p e R s m args below meth c Q A ls hx hb hml hta hown hRc hRs hRf hRl hN hK hV hA hret hC hl
  have hl : lv_has ls 4 [(0, .ref (o 72)), (1, .int x1)] := hl
  unfold f_X5_obey at hf
  refine lv_aload_n hx hb dX5_obey_0 rfl (lv_at hl 0 rfl) ?_
  refine gt_X5_21_machine hx hb hta hown hK hC dX5_obey_1 ?_
  refine gt_X5_96_listing hx hb hta hown hK hC dX5_obey_4 ?_
  refine lv_iload_n hx hb dX5_obey_7 rfl (lv_at hl 1 rfl) ?_
  obtain ⟨hi_1, hf⟩ := ix_inv hf
  obtain ⟨v_1, e_1, hf⟩ := lt_inv hf
  refine al_X_4 hx hb hK hC hi_1 e_1 dX5_obey_8 ?_
  refine lv_istore_n (lv' := [(2, .int v_1), (0, .ref (o 72)), (1, .int x1)]) hx hb dX5_obey_9 rfl hl (by decide) rfl (fun ls hl => ?_)
  refine lv_aload_n hx hb dX5_obey_10 rfl (lv_at hl 1 rfl) ?_
  refine gt_X5_21_machine hx hb hta hown hK hC dX5_obey_11 ?_
  refine gt_X5_101_listing hx hb hta hown hK hC dX5_obey_14 ?_
  refine lv_iload_n hx hb dX5_obey_17 rfl (lv_at hl 2 rfl) ?_
  obtain ⟨hi_2, hf⟩ := ix_inv hf
  obtain ⟨v_2, e_2, hf⟩ := lt_inv hf
  refine al_X_5 hx hb hK hC hi_2 e_2 dX5_obey_18 ?_
  refine lv_istore_n (lv' := [(3, .int v_2), (2, .int v_1), (0, .ref (o 72)), (1, .int x1)]) hx hb dX5_obey_19 rfl hl (by decide) rfl (fun ls hl => ?_)
  refine lv_iload_n hx hb dX5_obey_20 rfl (lv_at hl 1 rfl) ?_
  obtain ⟨k_243, hk_243, hf⟩ := jn_inv1 hf
  have hj_243 : ∀ (s_3 : Sto) (H : Heap) (locs : List Loc) (ls : Array Slot), k_243 s_3 = some (v, σ2) → CZ D A s H locs (WX y o s_3) → lv_has ls 4 [(0, .ref (o 72)), (1, .int x1)] → W p l e R s m args below meth c H locs 0 0 Q (F0 m 243 ls []) := by
    intro s_3 H locs ls hf hC hl
    have hf := hk_243 _ hf
    refine lv_iload_n hx hb dX5_obey_243 rfl (lv_at hl 1 rfl) ?_
    refine lv_iconst (v := 1) hx hb dX5_obey_244 (by decide) ?_
    refine lv_iadd hx hb dX5_obey_245 ?_
    refine lv_aload_n hx hb dX5_obey_246 rfl (lv_at hl 0 rfl) ?_
    refine gt_X5_21_machine hx hb hta hown hK hC dX5_obey_247 ?_
    refine gt_X5_128_listing hx hb hta hown hK hC dX5_obey_250 ?_
    refine lv_icmp_ge (tgt := 262) hx hb dX5_obey_253 (by decide) (fun c_4 => ?_) (fun c_4 => ?_)
    · have hf := it_t c_4 hf
      refine lv_iconst (v := (-1)) hx hb dX5_obey_262 (by decide) ?_
      exact hret _ _ _ _ _ _ (rv_inv hf).1 (congrArg (WX y o) (rv_inv hf).2) rfl dX5_obey_263 hC
    · have hf := it_f c_4 hf
      refine lv_iload_n hx hb dX5_obey_256 rfl (lv_at hl 1 rfl) ?_
      refine lv_iconst (v := 1) hx hb dX5_obey_257 (by decide) ?_
      refine lv_iadd hx hb dX5_obey_258 ?_
      refine lv_goto (tgt := 263) hx hb dX5_obey_259 (by decide) ?_
      exact hret _ _ _ _ _ _ (rv_inv hf).1 (congrArg (WX y o) (rv_inv hf).2) rfl dX5_obey_263 hC
  by_cases h_5_0 : v_1.toInt = 100 ∨ v_1.toInt = 119
  · have hf := it_t h_5_0 hf
    refine lv_tab (tgt := 192) hx hb dX5_obey_21 (Or.inr ⟨171, by omega, by omega, by rcases h_5_0 with h_5_0 | h_5_0 <;> (rw [h_5_0]; decide), by decide⟩) ?_
    refine lv_aload_n hx hb dX5_obey_192 rfl (lv_at hl 2 rfl) ?_
    refine lv_iload_n hx hb dX5_obey_193 rfl (lv_at hl 1 rfl) ?_
    obtain ⟨s_6, hc_6, hf⟩ := cals_inv hf
    refine cc_Vv (r_X5_shuffle (D := D) (y := y) (o := o) (ad := ad) (av := av) hc_6 l) hx hb hml hta hown hK hN hV hA hC hRc hRs (by omega) (by omega) wq_414 (q := 72) (ci := 5) rfl rfl wq_415 wq_416 wq_389 wq_385 hd_X5_shuffle (As := [.int v_1]) (rest := []) rfl rfl hl.1 rfl dX5_obey_194 (fun H locs hC => ?_)
    refine lv_goto (tgt := 243) hx hb dX5_obey_197 (by decide) ?_
    exact hj_243 _ _ _ _ hf hC (lv_sub hl [2, 3] rfl)
  have hf := it_f h_5_0 hf
  by_cases h_5_1 : v_1.toInt = 103
  · have hf := it_t h_5_1 hf
    refine lv_tab (tgt := 200) hx hb dX5_obey_21 (Or.inr ⟨179, by omega, by omega, by (rw [h_5_1]; decide), by decide⟩) ?_
    refine lv_iload_n hx hb dX5_obey_200 rfl (lv_at hl 0 rfl) ?_
    exact hret _ _ _ _ _ _ (rv_inv hf).1 (congrArg (WX y o) (rv_inv hf).2) rfl dX5_obey_201 hC
  have hf := it_f h_5_1 hf
  by_cases h_5_2 : v_1.toInt = 105
  · have hf := it_t h_5_2 hf
    refine lv_tab (tgt := 162) hx hb dX5_obey_21 (Or.inr ⟨141, by omega, by omega, by (rw [h_5_2]; decide), by decide⟩) ?_
    refine lv_aload_n hx hb dX5_obey_162 rfl (lv_at hl 2 rfl) ?_
    refine lv_aload_n hx hb dX5_obey_163 rfl (lv_at hl 2 rfl) ?_
    obtain ⟨v_7, s_7, hc_7, hf⟩ := calv_inv hf
    refine cc_Vi (r_X5_draw (D := D) (y := y) (o := o) (ad := ad) (av := av) hc_7 l) hx hb hml hta hown hK hN hV hA hC hRc hRs (by omega) (by omega) wq_408 (q := 72) (ci := 5) rfl rfl wq_409 wq_410 wq_389 wq_382 hd_X5_draw (As := []) (rest := [.ref (o 72)]) rfl rfl hl.1 rfl dX5_obey_164 (fun H locs hC => ?_)
    obtain ⟨s_8, hc_8, hf⟩ := cals_inv hf
    refine cc_Vv (r_X5_push (D := D) (y := y) (o := o) (ad := ad) (av := av) hc_8 l) hx hb hml hta hown hK hN hV hA hC hRc hRs (by omega) (by omega) wq_390 (q := 72) (ci := 5) rfl rfl wq_391 wq_392 wq_389 wq_380 hd_X5_push (As := [.int v_7]) (rest := []) rfl rfl hl.1 rfl dX5_obey_167 (fun H locs hC => ?_)
    refine lv_goto (tgt := 243) hx hb dX5_obey_170 (by decide) ?_
    exact hj_243 _ _ _ _ hf hC (lv_sub hl [2, 3] rfl)
  have hf := it_f h_5_2 hf
  by_cases h_5_3 : v_1.toInt = 107
  · have hf := it_t h_5_3 hf
    refine lv_tab (tgt := 128) hx hb dX5_obey_21 (Or.inr ⟨107, by omega, by omega, by (rw [h_5_3]; decide), by decide⟩) ?_
    refine lv_aload_n hx hb dX5_obey_128 rfl (lv_at hl 2 rfl) ?_
    refine lv_iload_n hx hb dX5_obey_129 rfl (lv_at hl 0 rfl) ?_
    obtain ⟨s_9, hc_9, hf⟩ := cals_inv hf
    refine cc_Vv (r_X5_push (D := D) (y := y) (o := o) (ad := ad) (av := av) hc_9 l) hx hb hml hta hown hK hN hV hA hC hRc hRs (by omega) (by omega) wq_390 (q := 72) (ci := 5) rfl rfl wq_391 wq_392 wq_389 wq_380 hd_X5_push (As := [.int v_2]) (rest := []) rfl rfl hl.1 rfl dX5_obey_130 (fun H locs hC => ?_)
    refine lv_goto (tgt := 243) hx hb dX5_obey_133 (by decide) ?_
    exact hj_243 _ _ _ _ hf hC (lv_sub hl [2, 3] rfl)
  have hf := it_f h_5_3 hf
  by_cases h_5_4 : v_1.toInt = 108
  · have hf := it_t h_5_4 hf
    refine lv_tab (tgt := 136) hx hb dX5_obey_21 (Or.inr ⟨115, by omega, by omega, by (rw [h_5_4]; decide), by decide⟩) ?_
    refine lv_aload_n hx hb dX5_obey_136 rfl (lv_at hl 2 rfl) ?_
    refine lv_aload_n hx hb dX5_obey_137 rfl (lv_at hl 2 rfl) ?_
    refine gt_X5_9_machine hx hb hta hown hK hC dX5_obey_138 ?_
    refine lv_iload_n hx hb dX5_obey_141 rfl (lv_at hl 0 rfl) ?_
    obtain ⟨hi_10, hf⟩ := ix_inv hf
    obtain ⟨v_10, e_10, hf⟩ := lt_inv hf
    refine al_X_73 hx hb hK hC hi_10 e_10 dX5_obey_142 ?_
    obtain ⟨s_11, hc_11, hf⟩ := cals_inv hf
    refine cc_Vv (r_X5_push (D := D) (y := y) (o := o) (ad := ad) (av := av) hc_11 l) hx hb hml hta hown hK hN hV hA hC hRc hRs (by omega) (by omega) wq_390 (q := 72) (ci := 5) rfl rfl wq_391 wq_392 wq_389 wq_380 hd_X5_push (As := [.int v_10]) (rest := []) rfl rfl hl.1 rfl dX5_obey_143 (fun H locs hC => ?_)
    refine lv_goto (tgt := 243) hx hb dX5_obey_146 (by decide) ?_
    exact hj_243 _ _ _ _ hf hC (lv_sub hl [2, 3] rfl)
  have hf := it_f h_5_4 hf
  by_cases h_5_5 : v_1.toInt = 111
  · have hf := it_t h_5_5 hf
    refine lv_tab (tgt := 173) hx hb dX5_obey_21 (Or.inr ⟨152, by omega, by omega, by (rw [h_5_5]; decide), by decide⟩) ?_
    refine lv_aload_n hx hb dX5_obey_173 rfl (lv_at hl 2 rfl) ?_
    refine lv_aload_n hx hb dX5_obey_174 rfl (lv_at hl 2 rfl) ?_
    obtain ⟨v_12, s_12, hc_12, hf⟩ := calv_inv hf
    refine cc_Vi (r_X5_pop (D := D) (y := y) (o := o) (ad := ad) (av := av) hc_12 l) hx hb hml hta hown hK hN hV hA hC hRc hRs (by omega) (by omega) wq_386 (q := 72) (ci := 5) rfl rfl wq_387 wq_388 wq_389 wq_381 hd_X5_pop (As := []) (rest := [.ref (o 72)]) rfl rfl hl.1 rfl dX5_obey_175 (fun H locs hC => ?_)
    obtain ⟨s_13, hc_13, hf⟩ := cals_inv hf
    refine cc_Vv (r_X5_tellOut (D := D) (y := y) (o := o) (ad := ad) (av := av) hc_13 l) hx hb hml hta hown hK hN hV hA hC hRc hRs (by omega) (by omega) wq_411 (q := 72) (ci := 5) rfl rfl wq_412 wq_413 wq_389 wq_384 hd_X5_tellOut (As := [.int v_12]) (rest := []) rfl rfl hl.1 rfl dX5_obey_178 (fun H locs hC => ?_)
    refine lv_goto (tgt := 243) hx hb dX5_obey_181 (by decide) ?_
    exact hj_243 _ _ _ _ hf hC (lv_sub hl [2, 3] rfl)
  have hf := it_f h_5_5 hf
  by_cases h_5_6 : v_1.toInt = 112
  · have hf := it_t h_5_6 hf
    refine lv_tab (tgt := 184) hx hb dX5_obey_21 (Or.inr ⟨163, by omega, by omega, by (rw [h_5_6]; decide), by decide⟩) ?_
    refine lv_aload_n hx hb dX5_obey_184 rfl (lv_at hl 2 rfl) ?_
    obtain ⟨v_14, s_14, hc_14, hf⟩ := calv_inv hf
    refine cc_Vi (r_X5_pop (D := D) (y := y) (o := o) (ad := ad) (av := av) hc_14 l) hx hb hml hta hown hK hN hV hA hC hRc hRs (by omega) (by omega) wq_386 (q := 72) (ci := 5) rfl rfl wq_387 wq_388 wq_389 wq_381 hd_X5_pop (As := []) (rest := []) rfl rfl hl.1 rfl dX5_obey_185 (fun H locs hC => ?_)
    refine lv_pop hx hb dX5_obey_188 rfl ?_
    refine lv_goto (tgt := 243) hx hb dX5_obey_189 (by decide) ?_
    exact hj_243 _ _ _ _ hf hC (lv_sub hl [2, 3] rfl)
  have hf := it_f h_5_6 hf
  by_cases h_5_7 : v_1.toInt = 114
  · have hf := it_t h_5_7 hf
    refine lv_tab (tgt := 221) hx hb dX5_obey_21 (Or.inr ⟨200, by omega, by omega, by (rw [h_5_7]; decide), by decide⟩) ?_
    refine lv_iconst (v := (-1)) hx hb dX5_obey_221 (by decide) ?_
    exact hret _ _ _ _ _ _ (rv_inv hf).1 (congrArg (WX y o) (rv_inv hf).2) rfl dX5_obey_222 hC
  have hf := it_f h_5_7 hf
  by_cases h_5_8 : v_1.toInt = 115
  · have hf := it_t h_5_8 hf
    refine lv_tab (tgt := 149) hx hb dX5_obey_21 (Or.inr ⟨128, by omega, by omega, by (rw [h_5_8]; decide), by decide⟩) ?_
    refine lv_aload_n hx hb dX5_obey_149 rfl (lv_at hl 2 rfl) ?_
    refine gt_X5_9_machine hx hb hta hown hK hC dX5_obey_150 ?_
    refine lv_iload_n hx hb dX5_obey_153 rfl (lv_at hl 0 rfl) ?_
    refine lv_aload_n hx hb dX5_obey_154 rfl (lv_at hl 2 rfl) ?_
    obtain ⟨v_15, s_15, hc_15, hf⟩ := calv_inv hf
    refine cc_Vi (r_X5_pop (D := D) (y := y) (o := o) (ad := ad) (av := av) hc_15 l) hx hb hml hta hown hK hN hV hA hC hRc hRs (by omega) (by omega) wq_386 (q := 72) (ci := 5) rfl rfl wq_387 wq_388 wq_389 wq_381 hd_X5_pop (As := []) (rest := [.int v_2, .ref (o 73)]) rfl rfl hl.1 rfl dX5_obey_155 (fun H locs hC => ?_)
    obtain ⟨hi_16, hf⟩ := ix_inv hf
    obtain ⟨s_16, e_16, hf⟩ := lt_inv hf
    refine as_X_73 hx hb hK hC hi_16 e_16 dX5_obey_158 (fun H locs hC => ?_)
    refine lv_goto (tgt := 243) hx hb dX5_obey_159 (by decide) ?_
    exact hj_243 _ _ _ _ hf hC (lv_sub hl [2, 3] rfl)
  have hf := it_f h_5_8 hf
  by_cases h_5_9 : v_1.toInt = 116
  · have hf := it_t h_5_9 hf
    refine lv_tab (tgt := 211) hx hb dX5_obey_21 (Or.inr ⟨190, by omega, by omega, by (rw [h_5_9]; decide), by decide⟩) ?_
    refine lv_aload_n hx hb dX5_obey_211 rfl (lv_at hl 2 rfl) ?_
    refine lv_iload_n hx hb dX5_obey_212 rfl (lv_at hl 3 rfl) ?_
    refine lv_aload_n hx hb dX5_obey_213 rfl (lv_at hl 2 rfl) ?_
    obtain ⟨v_17, s_17, hc_17, hf⟩ := calv_inv hf
    refine cc_Vi (r_X5_pop (D := D) (y := y) (o := o) (ad := ad) (av := av) hc_17 l) hx hb hml hta hown hK hN hV hA hC hRc hRs (by omega) (by omega) wq_386 (q := 72) (ci := 5) rfl rfl wq_387 wq_388 wq_389 wq_381 hd_X5_pop (As := []) (rest := [.int x1, .ref (o 72)]) rfl rfl hl.1 rfl dX5_obey_214 (fun H locs hC => ?_)
    obtain ⟨v_18, s_18, hc_18, hf⟩ := calv_inv hf
    refine cc_Vi (r_X5_throwFrom (D := D) (y := y) (o := o) (ad := ad) (av := av) hc_18 l) hx hb hml hta hown hK hN hV hA hC hRc hRs (by omega) (by omega) wq_417 (q := 72) (ci := 5) rfl rfl wq_418 wq_419 wq_389 wq_394 hd_X5_throwFrom (As := [.int x1, .int v_17]) (rest := []) rfl rfl hl.1 rfl dX5_obey_217 (fun H locs hC => ?_)
    exact hret _ _ _ _ _ _ (rv_inv hf).1 (congrArg (WX y o) (rv_inv hf).2) rfl dX5_obey_220 hC
  have hf := it_f h_5_9 hf
  by_cases h_5_10 : v_1.toInt = 122
  · have hf := it_t h_5_10 hf
    refine lv_tab (tgt := 202) hx hb dX5_obey_21 (Or.inr ⟨181, by omega, by omega, by (rw [h_5_10]; decide), by decide⟩) ?_
    refine lv_aload_n hx hb dX5_obey_202 rfl (lv_at hl 2 rfl) ?_
    obtain ⟨v_19, s_19, hc_19, hf⟩ := calv_inv hf
    refine cc_Vi (r_X5_pop (D := D) (y := y) (o := o) (ad := ad) (av := av) hc_19 l) hx hb hml hta hown hK hN hV hA hC hRc hRs (by omega) (by omega) wq_386 (q := 72) (ci := 5) rfl rfl wq_387 wq_388 wq_389 wq_381 hd_X5_pop (As := []) (rest := []) rfl rfl hl.1 rfl dX5_obey_203 (fun H locs hC => ?_)
    refine lv_if_ne (tgt := 243) hx hb dX5_obey_206 (by decide) (fun c_20 => ?_) (fun c_20 => ?_)
    · have hf := it_f c_20 hf
      exact hj_243 _ _ _ _ hf hC (lv_sub hl [2, 3] rfl)
    · have hf := it_t c_20 hf
      refine lv_iload_n hx hb dX5_obey_209 rfl (lv_at hl 0 rfl) ?_
      exact hret _ _ _ _ _ _ (rv_inv hf).1 (congrArg (WX y o) (rv_inv hf).2) rfl dX5_obey_210 hC
  have hf := it_f h_5_10 hf
  refine lv_tab (tgt := 223) hx hb dX5_obey_21 (by rcases (show (v_1.toInt < 100 ∨ 122 < v_1.toInt ∨ v_1.toInt = 101 ∨ v_1.toInt = 102 ∨ v_1.toInt = 104 ∨ v_1.toInt = 106 ∨ v_1.toInt = 109 ∨ v_1.toInt = 110 ∨ v_1.toInt = 113 ∨ v_1.toInt = 117 ∨ v_1.toInt = 118 ∨ v_1.toInt = 120 ∨ v_1.toInt = 121) by omega) with h | h | h | h | h | h | h | h | h | h | h | h | h; exact Or.inl ⟨Or.inl h, by decide⟩; exact Or.inl ⟨Or.inr h, by decide⟩; all_goals exact Or.inr ⟨202, by omega, by omega, by rw [h]; decide, by decide⟩) ?_
  refine lv_aload_n hx hb dX5_obey_223 rfl (lv_at hl 2 rfl) ?_
  refine lv_iload_n hx hb dX5_obey_224 rfl (lv_at hl 1 rfl) ?_
  obtain ⟨s_21, hc_21, hf⟩ := cals_inv hf
  refine cc_Vv (r_X5_operate (D := D) (y := y) (o := o) (ad := ad) (av := av) hc_21 l) hx hb hml hta hown hK hN hV hA hC hRc hRs (by omega) (by omega) wq_420 (q := 72) (ci := 5) rfl rfl wq_421 wq_422 wq_389 wq_402 hd_X5_operate (As := [.int v_1]) (rest := []) rfl rfl hl.1 rfl dX5_obey_225 (fun H locs hC => ?_)
  refine lv_aload_n hx hb dX5_obey_228 rfl (lv_at hl 2 rfl) ?_
  refine gt_X5_54_machine hx hb hta hown hK hC dX5_obey_229 ?_
  refine lv_if_eq (tgt := 243) hx hb dX5_obey_232 (by decide) (fun c_22 => ?_) (fun c_22 => ?_)
  · have hf := it_t c_22 hf
    exact hj_243 _ _ _ _ hf hC (lv_sub hl [2, 3] rfl)
  · have hf := it_f c_22 hf
    refine lv_aload_n hx hb dX5_obey_235 rfl (lv_at hl 2 rfl) ?_
    refine lv_iload_n hx hb dX5_obey_236 rfl (lv_at hl 3 rfl) ?_
    refine lv_bipush (v := 99) hx hb dX5_obey_237 (by decide) ?_
    obtain ⟨v_23, s_23, hc_23, hf⟩ := calv_inv hf
    refine cc_Vi (r_X5_throwFrom (D := D) (y := y) (o := o) (ad := ad) (av := av) hc_23 l) hx hb hml hta hown hK hN hV hA hC hRc hRs (by omega) (by omega) wq_417 (q := 72) (ci := 5) rfl rfl wq_418 wq_419 wq_389 wq_394 hd_X5_throwFrom (As := [.int x1, .int 99]) (rest := []) rfl rfl hl.1 rfl dX5_obey_239 (fun H locs hC => ?_)
    exact hret _ _ _ _ _ _ (rv_inv hf).1 (congrArg (WX y o) (rv_inv hf).2) rfl dX5_obey_242 hC

set_option maxHeartbeats 8000000 in
set_option maxRecDepth 100000 in
theorem r_X5_enter {D : va_G} {y : Nat → ClassId} {o : Nat → Nat} {ad av : Nat → Nat} {σ : Sto} {σ2 : Sto} {v : Int32} (hf : f_X5_enter σ = some (v, σ2)) (l : Launch) (sz : Nat) : Met l yX5_enter (Cond.code yX5_enter cX5_enter 1 (some .boolean) :: ALW) { frames := 0, cells := 0, slots := 0, locals := 0 } (va_Pc [.ref (o 72)] (PZ D y ad av (WX y o σ) sz)) (QZi D (WX y o σ) v (WX y o σ2) sz) 0 0 (va_A (WX y o σ) sz) := by
  refine met_i (by decide) (Nat.le_of_ble_eq_true rfl) ?_
  intro p e R s m args below meth c Q A ls hx hb hml hta hown hRc hRs hRf hRl hN hK hV hA hret hC hl
  have hl : lv_has ls 1 [(0, .ref (o 72))] := hl
  unfold f_X5_enter at hf
  refine lv_aload_n hx hb dX5_enter_0 rfl (lv_at hl 0 rfl) ?_
  refine gt_X5_64_machine hx hb hta hown hK hC dX5_enter_1 ?_
  refine lv_aload_n hx hb dX5_enter_4 rfl (lv_at hl 0 rfl) ?_
  refine gt_X5_45_machine hx hb hta hown hK hC dX5_enter_5 ?_
  refine lv_icmp_ne (tgt := 18) hx hb dX5_enter_8 (by decide) (fun c_1 => ?_) (fun c_1 => ?_)
  · have hf := it_f c_1 hf
    refine lv_aload_n hx hb dX5_enter_18 rfl (lv_at hl 0 rfl) ?_
    refine lv_dup hx hb dX5_enter_19 rfl ?_
    refine gt_X5_64_machine hx hb hta hown hK hC dX5_enter_20 ?_
    refine lv_iconst (v := 1) hx hb dX5_enter_23 (by decide) ?_
    refine lv_iadd hx hb dX5_enter_24 ?_
    obtain ⟨s_3, e_3, hf⟩ := lt_inv hf
    refine pt_X5_64_machine hx hb hta hown hK hC e_3 dX5_enter_25 (fun H locs hC => ?_)
    refine lv_iconst (v := 1) hx hb dX5_enter_28 (by decide) ?_
    exact hret _ _ _ _ _ _ (rv_inv hf).1 (congrArg (WX y o) (rv_inv hf).2) rfl dX5_enter_29 hC
  · have hf := it_t c_1 hf
    refine lv_aload_n hx hb dX5_enter_11 rfl (lv_at hl 0 rfl) ?_
    refine lv_iconst (v := 2) hx hb dX5_enter_12 (by decide) ?_
    obtain ⟨s_2, e_2, hf⟩ := lt_inv hf
    refine pt_X5_61_machine hx hb hta hown hK hC e_2 dX5_enter_13 (fun H locs hC => ?_)
    refine lv_iconst (v := 0) hx hb dX5_enter_16 (by decide) ?_
    exact hret _ _ _ _ _ _ (rv_inv hf).1 (congrArg (WX y o) (rv_inv hf).2) rfl dX5_enter_17 hC

set_option maxHeartbeats 8000000 in
set_option maxRecDepth 100000 in
theorem r_X5_goThroughCode {D : va_G} {y : Nat → ClassId} {o : Nat → Nat} {ad av : Nat → Nat} {σ : Sto} {σ2 : Sto} (hf : f_X5_goThroughCode σ = some σ2) (l : Launch) (sz : Nat) : Met l yX5_goThroughCode (Cond.code yX5_goThroughCode cX5_goThroughCode 5 none :: ALW) { frames := 3, cells := 0, slots := 0, locals := 68 } (va_Pc [.ref (o 72)] (PZ D y ad av (WX y o σ) sz)) (QZv D (WX y o σ) (WX y o σ2) sz) 0 0 (va_A (WX y o σ) sz) := by
  refine met_v (by decide) (Nat.le_of_ble_eq_true rfl) ?_
  intro p e R s m args below meth c Q A ls hx hb hml hta hown hRc hRs hRf hRl hN hK hV hA hret hC hl
  have hl : lv_has ls 5 [(0, .ref (o 72))] := hl
  unfold f_X5_goThroughCode at hf
  refine lv_iconst (v := 0) hx hb dX5_goThroughCode_0 (by decide) ?_
  refine lv_istore_n (lv' := [(1, .int 0), (0, .ref (o 72))]) hx hb dX5_goThroughCode_1 rfl hl (by decide) rfl (fun ls hl => ?_)
  refine lv_iconst (v := 0) hx hb dX5_goThroughCode_2 (by decide) ?_
  refine lv_istore_n (lv' := [(2, .int 0), (1, .int 0), (0, .ref (o 72))]) hx hb dX5_goThroughCode_3 rfl hl (by decide) rfl (fun ls hl => ?_)
  refine itr_inv3 (P := fun (x1_1 : Int32) (x2_1 : Int32) (s_1 : Sto) => ∀ (H : Heap) (locs : List Loc) (ls : Array Slot), CZ D A s H locs (WX y o s_1) → lv_has ls 5 [(0, .ref (o 72)), (1, .int x1_1), (2, .int x2_1)] → W p l e R s m args below meth c H locs 0 0 Q (F0 m 4 ls [])) hf ?_ _ _ _ hC (lv_sub hl [2, 1, 0] rfl)
  intro a_4 x1_1 x2_1 s_1 ha_4 hf H locs ls hC hl
  refine lv_iload_n hx hb dX5_goThroughCode_4 rfl (lv_at hl 2 rfl) ?_
  refine lv_ldc hx hb hown (hta _ wq_424) dX5_goThroughCode_5 ?_
  refine lv_icmp_ge (tgt := 75) hx hb dX5_goThroughCode_7 (by decide) (fun c_2 => ?_) (fun c_2 => ?_)
  · have hf := it_t c_2 hf
    exact hret _ _ _ _ _ (congrArg (WX y o) (Option.some.inj hf)) dX5_goThroughCode_75 hC
  · have hf := it_f c_2 hf
    refine lv_iload_n hx hb dX5_goThroughCode_10 rfl (lv_at hl 1 rfl) ?_
    refine lv_iconst (v := (-1)) hx hb dX5_goThroughCode_11 (by decide) ?_
    refine lv_icmp_eq (tgt := 75) hx hb dX5_goThroughCode_12 (by decide) (fun c_3 => ?_) (fun c_3 => ?_)
    · have hf := it_t c_3 hf
      exact hret _ _ _ _ _ (congrArg (WX y o) (Option.some.inj hf)) dX5_goThroughCode_75 hC
    · have hf := it_f c_3 hf
      refine lv_aload_n hx hb dX5_goThroughCode_15 rfl (lv_at hl 0 rfl) ?_
      refine gt_X5_25_machine hx hb hta hown hK hC dX5_goThroughCode_16 ?_
      refine gt_X5_80_blocks hx hb hta hown hK hC dX5_goThroughCode_19 ?_
      refine lv_iload_n hx hb dX5_goThroughCode_22 rfl (lv_at hl 1 rfl) ?_
      obtain ⟨hi_4, hf⟩ := ix_inv hf
      obtain ⟨v_4, e_4, hf⟩ := lt_inv hf
      refine al_X_20 hx hb hK hC hi_4 e_4 dX5_goThroughCode_23 ?_
      refine lv_istore_n (lv' := [(3, .int v_4), (0, .ref (o 72)), (1, .int x1_1), (2, .int x2_1)]) hx hb dX5_goThroughCode_24 rfl hl (by decide) rfl (fun ls hl => ?_)
      refine lv_iload_n hx hb dX5_goThroughCode_25 rfl (lv_at hl 0 rfl) ?_
      refine lv_iconst (v := (-1)) hx hb dX5_goThroughCode_26 (by decide) ?_
      obtain ⟨k_48, hk_48, hf⟩ := jn_inv1 hf
      have hj_48 : ∀ (t0_5 : Int32) (H : Heap) (locs : List Loc) (ls : Array Slot), k_48 t0_5 = some σ2 → CZ D A s H locs (WX y o s_1) → lv_has ls 5 [(0, .ref (o 72)), (1, .int x1_1), (2, .int x2_1)] → W p l e R s m args below meth c H locs 0 0 Q (F0 m 48 ls [.int t0_5]) := by
        intro t0_5 H locs ls hf hC hl
        have hf := hk_48 _ hf
        refine lv_istore (lv' := [(4, .int t0_5), (0, .ref (o 72)), (1, .int x1_1), (2, .int x2_1)]) hx hb dX5_goThroughCode_48 hl (by decide) rfl (fun ls hl => ?_)
        refine lv_iload hx hb dX5_goThroughCode_50 (lv_at hl 0 rfl) ?_
        obtain ⟨k_63, hk_63, hf⟩ := jn_inv1 hf
        have hj_63 : ∀ (s_6 : Sto) (H : Heap) (locs : List Loc) (ls : Array Slot), k_63 s_6 = some σ2 → CZ D A s H locs (WX y o s_6) → lv_has ls 5 [(0, .ref (o 72)), (1, .int x1_1), (2, .int x2_1)] → W p l e R s m args below meth c H locs 0 0 Q (F0 m 63 ls []) := by
          intro s_6 H locs ls hf hC hl
          have hf := hk_63 _ hf
          refine lv_aload_n hx hb dX5_goThroughCode_63 rfl (lv_at hl 0 rfl) ?_
          refine lv_iload_n hx hb dX5_goThroughCode_64 rfl (lv_at hl 1 rfl) ?_
          obtain ⟨v_7, s_7, hc_7, hf⟩ := calv_inv hf
          refine cc_Vi (r_X5_obey (D := D) (y := y) (o := o) (ad := ad) (av := av) hc_7 l) hx hb hml hta hown hK hN hV hA hC hRc hRs (by omega) (by omega) wq_430 (q := 72) (ci := 5) rfl rfl wq_431 wq_432 wq_389 wq_423 hd_X5_obey (As := [.int x1_1]) (rest := []) rfl rfl hl.1 rfl dX5_goThroughCode_65 (fun H locs hC => ?_)
          refine lv_istore_n (lv' := [(1, .int v_7), (0, .ref (o 72)), (2, .int x2_1)]) hx hb dX5_goThroughCode_68 rfl hl (by decide) rfl (fun ls hl => ?_)
          obtain ⟨x2_8, e_8, hf⟩ := lt_inv hf
          refine lv_iinc (v := x2_8) (lv' := [(2, .int x2_8), (1, .int v_7), (0, .ref (o 72))]) hx hb dX5_goThroughCode_69 hl (k := 2) rfl e_8.symm (by decide) rfl (fun ls hl => ?_)
          refine lv_goto (tgt := 4) hx hb dX5_goThroughCode_72 (by decide) ?_
          exact ha_4 _ _ _ hf _ _ _ hC (lv_sub hl [2, 1, 0] rfl)
        refine lv_if_eq (tgt := 63) hx hb dX5_goThroughCode_52 (by decide) (fun c_9 => ?_) (fun c_9 => ?_)
        · have hf := it_t c_9 hf
          exact hj_63 _ _ _ _ hf hC (lv_sub hl [1, 2, 3] rfl)
        · have hf := it_f c_9 hf
          refine lv_aload_n hx hb dX5_goThroughCode_55 rfl (lv_at hl 1 rfl) ?_
          obtain ⟨v_10, s_10, hc_10, hf⟩ := calv_inv hf
          refine cc_Vi (r_X5_enter (D := D) (y := y) (o := o) (ad := ad) (av := av) hc_10 l) hx hb hml hta hown hK hN hV hA hC hRc hRs (by omega) (by omega) wq_427 (q := 72) (ci := 5) rfl rfl wq_428 wq_429 wq_389 wq_379 hd_X5_enter (As := []) (rest := []) rfl rfl hl.1 rfl dX5_goThroughCode_56 (fun H locs hC => ?_)
          refine lv_if_ne (tgt := 63) hx hb dX5_goThroughCode_59 (by decide) (fun c_11 => ?_) (fun c_11 => ?_)
          · have hf := it_f c_11 hf
            exact hj_63 _ _ _ _ hf hC (lv_sub hl [1, 2, 3] rfl)
          · have hf := it_t c_11 hf
            exact hret _ _ _ _ _ (congrArg (WX y o) (Option.some.inj hf)) dX5_goThroughCode_62 hC
      obtain ⟨k_47, hk_47, hf⟩ := jn_inv0 hf
      have hj_47 : ∀  (H : Heap) (locs : List Loc) (ls : Array Slot), k_47 = some σ2 → CZ D A s H locs (WX y o s_1) → lv_has ls 5 [(0, .ref (o 72)), (1, .int x1_1), (2, .int x2_1)] → W p l e R s m args below meth c H locs 0 0 Q (F0 m 47 ls []) := by
        intro H locs ls hf hC hl
        have hf := hk_47 hf
        refine lv_iconst (v := 0) hx hb dX5_goThroughCode_47 (by decide) ?_
        exact hj_48 _ _ _ _ hf hC hl
      refine lv_icmp_eq (tgt := 47) hx hb dX5_goThroughCode_27 (by decide) (fun c_13 => ?_) (fun c_13 => ?_)
      · have hf := it_t c_13 hf
        exact hj_47 _ _ _ hf hC (lv_sub hl [1, 2, 3] rfl)
      · have hf := it_f c_13 hf
        refine lv_aload_n hx hb dX5_goThroughCode_30 rfl (lv_at hl 1 rfl) ?_
        refine gt_X5_25_machine hx hb hta hown hK hC dX5_goThroughCode_31 ?_
        refine gt_X5_85_blocks hx hb hta hown hK hC dX5_goThroughCode_34 ?_
        refine lv_iload_n hx hb dX5_goThroughCode_37 rfl (lv_at hl 0 rfl) ?_
        obtain ⟨hi_14, hf⟩ := ix_inv hf
        obtain ⟨v_14, e_14, hf⟩ := lt_inv hf
        refine al_X_18 hx hb hK hC hi_14 e_14 dX5_goThroughCode_38 ?_
        refine lv_iload_n hx hb dX5_goThroughCode_39 rfl (lv_at hl 2 rfl) ?_
        refine lv_icmp_ne (tgt := 47) hx hb dX5_goThroughCode_40 (by decide) (fun c_15 => ?_) (fun c_15 => ?_)
        · have hf := it_f c_15 hf
          exact hj_47 _ _ _ hf hC (lv_sub hl [1, 2, 3] rfl)
        · have hf := it_t c_15 hf
          refine lv_iconst (v := 1) hx hb dX5_goThroughCode_43 (by decide) ?_
          refine lv_goto (tgt := 48) hx hb dX5_goThroughCode_44 (by decide) ?_
          exact hj_48 _ _ _ _ hf hC (lv_sub hl [1, 2, 3] rfl)

set_option maxHeartbeats 8000000 in
set_option maxRecDepth 100000 in
theorem rg_X5_value {D : va_G} {y : Nat → ClassId} {o : Nat → Nat} {ad av : Nat → Nat} : ∀ d : Nat, (∀ {x1 : Int32} {x2 : Int32} {σ : Sto} {σ2 : Sto} {v : Int32}, f_X5_value d x1 x2 σ = some (v, σ2) → ∀ (l : Launch) (sz : Nat), Met l yX5_value (Cond.code yX5_value cX5_value 7 (some .int) :: ALW) { frames := d + 1, cells := 0, slots := 0, locals := d * 26 + 22 } (va_Pc [.ref (o 72), .int x1, .int x2] (PZ D y ad av (WX y o σ) sz)) (QZi D (WX y o σ) v (WX y o σ2) sz) 0 0 (va_A (WX y o σ) sz)) := by
  intro d
  induction d with
  | zero => exact fun hc => by have hc : (none : Option (Int32 × Sto)) = some _ := hc; cases hc
  | succ d ih =>
    have h_X5_value := @ih
    intro x1 x2 σ σ2 v hf l sz
    have hf : b_X5_value (f_X5_value d) x1 x2 σ = some (v, σ2) := hf
    refine met_i (by decide) (Nat.le_of_ble_eq_true rfl) ?_
    intro p e R s m args below meth c Q A ls hx hb hml hta hown hRc hRs hRf hRl hN hK hV hA hret hC hl
    have hl : lv_has ls 7 [(0, .ref (o 72)), (1, .int x1), (2, .int x2)] := hl
    unfold b_X5_value at hf
    refine lv_iload_n hx hb dX5_value_0 rfl (lv_at hl 1 rfl) ?_
    refine lv_iconst (v := (-1)) hx hb dX5_value_1 (by decide) ?_
    refine lv_icmp_eq (tgt := 18) hx hb dX5_value_2 (by decide) (fun c_1 => ?_) (fun c_1 => ?_)
    · have hf := it_t c_1 hf
      refine lv_iconst (v := 0) hx hb dX5_value_18 (by decide) ?_
      exact hret _ _ _ _ _ _ (rv_inv hf).1 (congrArg (WX y o) (rv_inv hf).2) rfl dX5_value_19 hC
    · have hf := it_f c_1 hf
      refine lv_iload_n hx hb dX5_value_5 rfl (lv_at hl 2 rfl) ?_
      refine lv_bipush (v := 60) hx hb dX5_value_6 (by decide) ?_
      refine lv_icmp_gt (tgt := 18) hx hb dX5_value_8 (by decide) (fun c_2 => ?_) (fun c_2 => ?_)
      · have hf := it_t c_2 hf
        refine lv_iconst (v := 0) hx hb dX5_value_18 (by decide) ?_
        exact hret _ _ _ _ _ _ (rv_inv hf).1 (congrArg (WX y o) (rv_inv hf).2) rfl dX5_value_19 hC
      · have hf := it_f c_2 hf
        refine lv_aload_n hx hb dX5_value_11 rfl (lv_at hl 0 rfl) ?_
        refine gt_X5_54_machine hx hb hta hown hK hC dX5_value_12 ?_
        refine lv_if_eq (tgt := 20) hx hb dX5_value_15 (by decide) (fun c_3 => ?_) (fun c_3 => ?_)
        · have hf := it_t c_3 hf
          refine lv_aload_n hx hb dX5_value_20 rfl (lv_at hl 0 rfl) ?_
          refine gt_X5_29_machine hx hb hta hown hK hC dX5_value_21 ?_
          refine gt_X5_203_pool hx hb hta hown hK hC dX5_value_24 ?_
          refine lv_iload_n hx hb dX5_value_27 rfl (lv_at hl 1 rfl) ?_
          obtain ⟨hi_4, hf⟩ := ix_inv hf
          obtain ⟨v_4, e_4, hf⟩ := lt_inv hf
          refine al_X_43 hx hb hK hC hi_4 e_4 dX5_value_28 ?_
          refine lv_istore_n (lv' := [(3, .int v_4), (0, .ref (o 72)), (1, .int x1), (2, .int x2)]) hx hb dX5_value_29 rfl hl (by decide) rfl (fun ls hl => ?_)
          refine lv_aload_n hx hb dX5_value_30 rfl (lv_at hl 1 rfl) ?_
          refine gt_X5_29_machine hx hb hta hown hK hC dX5_value_31 ?_
          refine gt_X5_206_pool hx hb hta hown hK hC dX5_value_34 ?_
          refine lv_iload_n hx hb dX5_value_37 rfl (lv_at hl 2 rfl) ?_
          obtain ⟨hi_5, hf⟩ := ix_inv hf
          obtain ⟨v_5, e_5, hf⟩ := lt_inv hf
          refine al_X_44 hx hb hK hC hi_5 e_5 dX5_value_38 ?_
          refine lv_istore (lv' := [(4, .int v_5), (3, .int v_4), (0, .ref (o 72)), (1, .int x1), (2, .int x2)]) hx hb dX5_value_39 hl (by decide) rfl (fun ls hl => ?_)
          refine lv_iload_n hx hb dX5_value_41 rfl (lv_at hl 1 rfl) ?_
          by_cases h_6_0 : v_4.toInt = 84
          · have hf := it_t h_6_0 hf
            refine lv_lookup (off := 61) (tgt := 103) hx hb dX5_value_42 (by decide) (by (rw [h_6_0]; decide)) (by decide) ?_
            refine lv_aload_n hx hb dX5_value_103 rfl (lv_at hl 2 rfl) ?_
            refine gt_X5_15_machine hx hb hta hown hK hC dX5_value_104 ?_
            refine lv_iload hx hb dX5_value_107 (lv_at hl 0 rfl) ?_
            obtain ⟨hi_7, hf⟩ := ix_inv hf
            obtain ⟨v_7, e_7, hf⟩ := lt_inv hf
            refine al_X_74 hx hb hK hC hi_7 e_7 dX5_value_109 ?_
            exact hret _ _ _ _ _ _ (rv_inv hf).1 (congrArg (WX y o) (rv_inv hf).2) rfl dX5_value_110 hC
          have hf := it_f h_6_0 hf
          by_cases h_6_1 : v_4.toInt = 88
          · have hf := it_t h_6_1 hf
            refine lv_lookup (off := 69) (tgt := 111) hx hb dX5_value_42 (by decide) (by (rw [h_6_1]; decide)) (by decide) ?_
            refine lv_aload_n hx hb dX5_value_111 rfl (lv_at hl 2 rfl) ?_
            refine gt_X5_18_machine hx hb hta hown hK hC dX5_value_112 ?_
            refine lv_iload hx hb dX5_value_115 (lv_at hl 0 rfl) ?_
            obtain ⟨hi_8, hf⟩ := ix_inv hf
            obtain ⟨v_8, e_8, hf⟩ := lt_inv hf
            refine al_X_75 hx hb hK hC hi_8 e_8 dX5_value_117 ?_
            exact hret _ _ _ _ _ _ (rv_inv hf).1 (congrArg (WX y o) (rv_inv hf).2) rfl dX5_value_118 hC
          have hf := it_f h_6_1 hf
          by_cases h_6_2 : v_4.toInt = 105
          · have hf := it_t h_6_2 hf
            refine lv_lookup (off := 77) (tgt := 119) hx hb dX5_value_42 (by decide) (by (rw [h_6_2]; decide)) (by decide) ?_
            refine lv_aload_n hx hb dX5_value_119 rfl (lv_at hl 2 rfl) ?_
            obtain ⟨v_9, s_9, hc_9, hf⟩ := calv_inv hf
            refine cc_Vi (r_X5_draw (D := D) (y := y) (o := o) (ad := ad) (av := av) hc_9 l) hx hb hml hta hown hK hN hV hA hC hRc hRs (by omega) (by omega) wq_408 (q := 72) (ci := 5) rfl rfl wq_409 wq_410 wq_389 wq_382 hd_X5_draw (As := []) (rest := []) rfl rfl hl.1 rfl dX5_value_120 (fun H locs hC => ?_)
            exact hret _ _ _ _ _ _ (rv_inv hf).1 (congrArg (WX y o) (rv_inv hf).2) rfl dX5_value_123 hC
          have hf := it_f h_6_2 hf
          by_cases h_6_3 : v_4.toInt = 107
          · have hf := it_t h_6_3 hf
            refine lv_lookup (off := 50) (tgt := 92) hx hb dX5_value_42 (by decide) (by (rw [h_6_3]; decide)) (by decide) ?_
            refine lv_iload hx hb dX5_value_92 (lv_at hl 0 rfl) ?_
            exact hret _ _ _ _ _ _ (rv_inv hf).1 (congrArg (WX y o) (rv_inv hf).2) rfl dX5_value_94 hC
          have hf := it_f h_6_3 hf
          by_cases h_6_4 : v_4.toInt = 108
          · have hf := it_t h_6_4 hf
            refine lv_lookup (off := 53) (tgt := 95) hx hb dX5_value_42 (by decide) (by (rw [h_6_4]; decide)) (by decide) ?_
            refine lv_aload_n hx hb dX5_value_95 rfl (lv_at hl 2 rfl) ?_
            refine gt_X5_9_machine hx hb hta hown hK hC dX5_value_96 ?_
            refine lv_iload hx hb dX5_value_99 (lv_at hl 0 rfl) ?_
            obtain ⟨hi_10, hf⟩ := ix_inv hf
            obtain ⟨v_10, e_10, hf⟩ := lt_inv hf
            refine al_X_73 hx hb hK hC hi_10 e_10 dX5_value_101 ?_
            exact hret _ _ _ _ _ _ (rv_inv hf).1 (congrArg (WX y o) (rv_inv hf).2) rfl dX5_value_102 hC
          have hf := it_f h_6_4 hf
          refine lv_lookup (off := 82) (tgt := 124) hx hb dX5_value_42 (by decide) (lk_none (by intro a ha; simp only [List.mem_cons, List.not_mem_nil, or_false] at ha; rcases ha with rfl | rfl | rfl | rfl | rfl <;> (simp only; omega))) (by decide) ?_
          refine lv_aload_n hx hb dX5_value_124 rfl (lv_at hl 2 rfl) ?_
          refine lv_iload hx hb dX5_value_125 (lv_at hl 0 rfl) ?_
          refine lv_iload_n hx hb dX5_value_127 rfl (lv_at hl 4 rfl) ?_
          refine lv_iconst (v := 1) hx hb dX5_value_128 (by decide) ?_
          refine lv_iadd hx hb dX5_value_129 ?_
          obtain ⟨v_11, s_11, hc_11, hf⟩ := calv_inv hf
          refine cc_Vi (h_X5_value hc_11 l) hx hb hml hta hown hK hN hV hA hC hRc hRs (by omega) (by omega) wq_437 (q := 72) (ci := 5) rfl rfl wq_438 wq_439 wq_389 wq_440 hd_X5_value (As := [.int v_5, .int (x2 + 1)]) (rest := []) rfl rfl hl.1 rfl dX5_value_130 (fun H locs hC => ?_)
          refine lv_istore (lv' := [(5, .int v_11), (4, .int v_5), (3, .int v_4), (0, .ref (o 72)), (1, .int x1), (2, .int x2)]) hx hb dX5_value_133 hl (by decide) rfl (fun ls hl => ?_)
          refine lv_iload_n hx hb dX5_value_135 rfl (lv_at hl 2 rfl) ?_
          obtain ⟨v_12, hc_12, hf⟩ := calp_inv hf
          refine cc_SiN (r_X11_isBinary (D := D) (y := y) (w := WX y o s_11) (ad := ad) (av := av) hc_12 l) hx hb hml hta hown hK hN hV hA hC hRc hRs (by omega) (by omega) (nw_X5_131 hN) wq_67 wq_38 wq_65 hd_X11_isBinary (As := [.int v_4]) (rest := []) rfl rfl hl.1 rfl dX5_value_136 (fun H locs hC => ?_)
          obtain ⟨k_162, hk_162, hf⟩ := jn_inv2 hf
          have hj_162 : ∀ (t0_13 : Int32) (s_13 : Sto) (H : Heap) (locs : List Loc) (ls : Array Slot), k_162 t0_13 s_13 = some (v, σ2) → CZ D A s H locs (WX y o s_13) → lv_has ls 7 [(0, .ref (o 72)), (3, .int v_4), (5, .int v_11)] → W p l e R s m args below meth c H locs 0 0 Q (F0 m 162 ls [.int t0_13]) := by
            intro t0_13 s_13 H locs ls hf hC hl
            have hf := hk_162 _ _ hf
            refine lv_istore (lv' := [(6, .int t0_13), (0, .ref (o 72)), (3, .int v_4), (5, .int v_11)]) hx hb dX5_value_162 hl (by decide) rfl (fun ls hl => ?_)
            refine lv_aload_n hx hb dX5_value_164 rfl (lv_at hl 1 rfl) ?_
            refine lv_aload_n hx hb dX5_value_165 rfl (lv_at hl 1 rfl) ?_
            refine gt_X5_54_machine hx hb hta hown hK hC dX5_value_166 ?_
            obtain ⟨k_186, hk_186, hf⟩ := jn_inv1 hf
            have hj_186 : ∀ (t0_14 : Int32) (H : Heap) (locs : List Loc) (ls : Array Slot), k_186 t0_14 = some (v, σ2) → CZ D A s H locs (WX y o s_13) → lv_has ls 7 [(0, .ref (o 72)), (3, .int v_4), (5, .int v_11), (6, .int t0_13)] → W p l e R s m args below meth c H locs 0 0 Q (F0 m 186 ls [.int t0_14, .ref (o 72)]) := by
              intro t0_14 H locs ls hf hC hl
              have hf := hk_186 _ hf
              obtain ⟨hb_16, hf⟩ := bz_inv hf
              obtain ⟨s_15, e_15, hf⟩ := lt_inv hf
              refine pt_X5_54_machine hx hb hta hown hK hC hb_16 e_15 dX5_value_186 (fun H locs hC => ?_)
              refine lv_aload_n hx hb dX5_value_189 rfl (lv_at hl 0 rfl) ?_
              refine gt_X5_54_machine hx hb hta hown hK hC dX5_value_190 ?_
              refine lv_if_eq (tgt := 200) hx hb dX5_value_193 (by decide) (fun c_17 => ?_) (fun c_17 => ?_)
              · have hf := it_t c_17 hf
                refine lv_iload_n hx hb dX5_value_200 rfl (lv_at hl 1 rfl) ?_
                refine lv_iload hx hb dX5_value_201 (lv_at hl 2 rfl) ?_
                refine lv_iload hx hb dX5_value_203 (lv_at hl 3 rfl) ?_
                obtain ⟨v_18, hc_18, hf⟩ := calp_inv hf
                refine cc_SiN (r_X11_outcome (D := D) (y := y) (w := WX y o s_15) (ad := ad) (av := av) hc_18 l) hx hb hml hta hown hK hN hV hA hC hRc hRs (by omega) (by omega) (nw_X5_139 hN) wq_404 wq_38 wq_401 hd_X11_outcome (As := [.int v_4, .int v_11, .int t0_13]) (rest := []) rfl rfl hl.1 rfl dX5_value_205 (fun H locs hC => ?_)
                exact hret _ _ _ _ _ _ (rv_inv hf).1 (congrArg (WX y o) (rv_inv hf).2) rfl dX5_value_208 hC
              · have hf := it_f c_17 hf
                refine lv_iconst (v := 0) hx hb dX5_value_196 (by decide) ?_
                refine lv_goto (tgt := 208) hx hb dX5_value_197 (by decide) ?_
                exact hret _ _ _ _ _ _ (rv_inv hf).1 (congrArg (WX y o) (rv_inv hf).2) rfl dX5_value_208 hC
            obtain ⟨k_181, hk_181, hf⟩ := jn_inv0 hf
            have hj_181 : ∀  (H : Heap) (locs : List Loc) (ls : Array Slot), k_181 = some (v, σ2) → CZ D A s H locs (WX y o s_13) → lv_has ls 7 [(0, .ref (o 72)), (3, .int v_4), (5, .int v_11), (6, .int t0_13)] → W p l e R s m args below meth c H locs 0 0 Q (F0 m 181 ls [.ref (o 72)]) := by
              intro H locs ls hf hC hl
              have hf := hk_181 hf
              refine lv_iconst (v := 1) hx hb dX5_value_181 (by decide) ?_
              refine lv_goto (tgt := 186) hx hb dX5_value_182 (by decide) ?_
              exact hj_186 _ _ _ _ hf hC hl
            refine lv_if_ne (tgt := 181) hx hb dX5_value_169 (by decide) (fun c_20 => ?_) (fun c_20 => ?_)
            · have hf := it_f c_20 hf
              exact hj_181 _ _ _ hf hC (lv_sub hl [1, 2, 3, 0] rfl)
            · have hf := it_t c_20 hf
              refine lv_iload_n hx hb dX5_value_172 rfl (lv_at hl 2 rfl) ?_
              refine lv_iload hx hb dX5_value_173 (lv_at hl 0 rfl) ?_
              obtain ⟨v_21, hc_21, hf⟩ := calp_inv hf
              refine cc_SiN (r_X11_dividesByZero (D := D) (y := y) (w := WX y o s_13) (ad := ad) (av := av) hc_21 l) hx hb hml hta hown hK hN hV hA hC hRc hRs (by omega) (by omega) (nw_X5_135 hN) wq_403 wq_38 wq_400 hd_X11_dividesByZero (As := [.int v_4, .int t0_13]) (rest := [.ref (o 72)]) rfl rfl hl.1 rfl dX5_value_175 (fun H locs hC => ?_)
              refine lv_if_eq (tgt := 185) hx hb dX5_value_178 (by decide) (fun c_22 => ?_) (fun c_22 => ?_)
              · have hf := it_t c_22 hf
                refine lv_iconst (v := 0) hx hb dX5_value_185 (by decide) ?_
                exact hj_186 _ _ _ _ hf hC (lv_sub hl [1, 2, 3, 0] rfl)
              · have hf := it_f c_22 hf
                exact hj_181 _ _ _ hf hC (lv_sub hl [1, 2, 3, 0] rfl)
          refine lv_if_eq (tgt := 161) hx hb dX5_value_139 (by decide) (fun c_23 => ?_) (fun c_23 => ?_)
          · have hf := it_t c_23 hf
            refine lv_iconst (v := 0) hx hb dX5_value_161 (by decide) ?_
            exact hj_162 _ _ _ _ _ hf hC (lv_sub hl [3, 2, 0] rfl)
          · have hf := it_f c_23 hf
            refine lv_aload_n hx hb dX5_value_142 rfl (lv_at hl 3 rfl) ?_
            refine lv_aload_n hx hb dX5_value_143 rfl (lv_at hl 3 rfl) ?_
            refine gt_X5_29_machine hx hb hta hown hK hC dX5_value_144 ?_
            refine gt_X5_209_pool hx hb hta hown hK hC dX5_value_147 ?_
            refine lv_iload_n hx hb dX5_value_150 rfl (lv_at hl 4 rfl) ?_
            obtain ⟨hi_24, hf⟩ := ix_inv hf
            obtain ⟨v_24, e_24, hf⟩ := lt_inv hf
            refine al_X_45 hx hb hK hC hi_24 e_24 dX5_value_151 ?_
            refine lv_iload_n hx hb dX5_value_152 rfl (lv_at hl 5 rfl) ?_
            refine lv_iconst (v := 1) hx hb dX5_value_153 (by decide) ?_
            refine lv_iadd hx hb dX5_value_154 ?_
            obtain ⟨v_25, s_25, hc_25, hf⟩ := calv_inv hf
            refine cc_Vi (h_X5_value hc_25 l) hx hb hml hta hown hK hN hV hA hC hRc hRs (by omega) (by omega) wq_437 (q := 72) (ci := 5) rfl rfl wq_438 wq_439 wq_389 wq_440 hd_X5_value (As := [.int v_24, .int (x2 + 1)]) (rest := []) rfl rfl hl.1 rfl dX5_value_155 (fun H locs hC => ?_)
            refine lv_goto (tgt := 162) hx hb dX5_value_158 (by decide) ?_
            exact hj_162 _ _ _ _ _ hf hC (lv_sub hl [3, 2, 0] rfl)
        · have hf := it_f c_3 hf
          refine lv_iconst (v := 0) hx hb dX5_value_18 (by decide) ?_
          exact hret _ _ _ _ _ _ (rv_inv hf).1 (congrArg (WX y o) (rv_inv hf).2) rfl dX5_value_19 hC
theorem r_X5_value (d : Nat) {D : va_G} {y : Nat → ClassId} {o : Nat → Nat} {ad av : Nat → Nat} {x1 : Int32} {x2 : Int32} {σ : Sto} {σ2 : Sto} {v : Int32} (hf : f_X5_value d x1 x2 σ = some (v, σ2)) (l : Launch) (sz : Nat) : Met l yX5_value (Cond.code yX5_value cX5_value 7 (some .int) :: ALW) { frames := d + 1, cells := 0, slots := 0, locals := d * 26 + 22 } (va_Pc [.ref (o 72), .int x1, .int x2] (PZ D y ad av (WX y o σ) sz)) (QZi D (WX y o σ) v (WX y o σ2) sz) 0 0 (va_A (WX y o σ) sz) := (rg_X5_value d) hf l sz

set_option maxHeartbeats 8000000 in
set_option maxRecDepth 100000 in
theorem r_X2_whereCaught {D : va_G} {y : Nat → ClassId} {o : Nat → Nat} {ad av : Nat → Nat} {x1 : Int32} {σ : Sto} {v : Int32} (hf : f_X2_whereCaught x1 σ = some v) (l : Launch) (sz : Nat) : Met l yX2_whereCaught (Cond.code yX2_whereCaught cX2_whereCaught 4 (some .int) :: ALW) { frames := 1, cells := 0, slots := 0, locals := 24 } (va_Pc [.ref (o 63), .int x1] (PZ D y ad av (WX y o σ) sz)) (QZi D (WX y o σ) v (WX y o σ) sz) 0 0 (va_A (WX y o σ) sz) := by
  refine met_i (by decide) (Nat.le_of_ble_eq_true rfl) ?_
  intro p e R s m args below meth c Q A ls hx hb hml hta hown hRc hRs hRf hRl hN hK hV hA hret hC hl
  have hl : lv_has ls 4 [(0, .ref (o 63)), (1, .int x1)] := hl
  unfold f_X2_whereCaught at hf
  refine lv_aload_n hx hb dX2_whereCaught_0 rfl (lv_at hl 0 rfl) ?_
  refine gt_X2_36_lines hx hb hta hown hK hC dX2_whereCaught_1 ?_
  refine gt_X2_111_blocks hx hb hta hown hK hC dX2_whereCaught_4 ?_
  refine lv_iload_n hx hb dX2_whereCaught_7 rfl (lv_at hl 1 rfl) ?_
  obtain ⟨hi_1, hf⟩ := ix_inv hf
  obtain ⟨v_1, e_1, hf⟩ := lt_inv hf
  refine al_X_23 hx hb hK hC hi_1 e_1 dX2_whereCaught_8 ?_
  refine lv_istore_n (lv' := [(2, .int v_1), (0, .ref (o 63)), (1, .int x1)]) hx hb dX2_whereCaught_9 rfl hl (by decide) rfl (fun ls hl => ?_)
  refine lv_aload_n hx hb dX2_whereCaught_10 rfl (lv_at hl 1 rfl) ?_
  refine gt_X2_40_lines hx hb hta hown hK hC dX2_whereCaught_11 ?_
  refine gt_X2_136_shape hx hb hta hown hK hC dX2_whereCaught_14 ?_
  refine lv_aload_n hx hb dX2_whereCaught_17 rfl (lv_at hl 1 rfl) ?_
  refine gt_X2_36_lines hx hb hta hown hK hC dX2_whereCaught_18 ?_
  refine lv_iload_n hx hb dX2_whereCaught_21 rfl (lv_at hl 2 rfl) ?_
  refine lv_iload_n hx hb dX2_whereCaught_22 rfl (lv_at hl 0 rfl) ?_
  obtain ⟨v_2, hc_2, hf⟩ := calp_inv hf
  refine cc_Vi (r_X0_edgeTo (D := D) (y := y) (o := o) (ad := ad) (av := av) hc_2 l) hx hb hml hta hown hK hN hV hA hC hRc hRs (by omega) (by omega) wq_255 (q := 17) (ci := 0) rfl rfl wq_40 wq_41 wq_42 wq_34 hd_X0_edgeTo (As := [.int x1, .int v_1]) (rest := [.ref (o 32)]) rfl rfl hl.1 rfl dX2_whereCaught_23 (fun H locs hC => ?_)
  obtain ⟨hi_3, hf⟩ := ix_inv hf
  obtain ⟨v_3, e_3, hf⟩ := lt_inv hf
  refine al_X_32 hx hb hK hC hi_3 e_3 dX2_whereCaught_26 ?_
  refine lv_istore_n (lv' := [(3, .int v_3), (2, .int v_1), (0, .ref (o 63)), (1, .int x1)]) hx hb dX2_whereCaught_27 rfl hl (by decide) rfl (fun ls hl => ?_)
  refine lv_iload_n hx hb dX2_whereCaught_28 rfl (lv_at hl 0 rfl) ?_
  refine lv_if_eq (tgt := 41) hx hb dX2_whereCaught_29 (by decide) (fun c_4 => ?_) (fun c_4 => ?_)
  · have hf := it_t c_4 hf
    refine lv_aload_n hx hb dX2_whereCaught_41 rfl (lv_at hl 2 rfl) ?_
    refine gt_X2_30_lines hx hb hta hown hK hC dX2_whereCaught_42 ?_
    refine lv_iload_n hx hb dX2_whereCaught_45 rfl (lv_at hl 1 rfl) ?_
    obtain ⟨hi_5, hf⟩ := ix_inv hf
    obtain ⟨v_5, e_5, hf⟩ := lt_inv hf
    refine al_X_70 hx hb hK hC hi_5 e_5 dX2_whereCaught_46 ?_
    refine lv_iconst (v := 1) hx hb dX2_whereCaught_47 (by decide) ?_
    refine lv_iadd hx hb dX2_whereCaught_48 ?_
    exact hret _ _ _ _ _ _ (Option.some.inj hf) rfl rfl dX2_whereCaught_49 hC
  · have hf := it_f c_4 hf
    refine lv_aload_n hx hb dX2_whereCaught_32 rfl (lv_at hl 2 rfl) ?_
    refine gt_X2_27_lines hx hb hta hown hK hC dX2_whereCaught_33 ?_
    refine lv_iload_n hx hb dX2_whereCaught_36 rfl (lv_at hl 1 rfl) ?_
    obtain ⟨hi_6, hf⟩ := ix_inv hf
    obtain ⟨v_6, e_6, hf⟩ := lt_inv hf
    refine al_X_69 hx hb hK hC hi_6 e_6 dX2_whereCaught_37 ?_
    refine lv_goto (tgt := 49) hx hb dX2_whereCaught_38 (by decide) ?_
    exact hret _ _ _ _ _ _ (Option.some.inj hf) rfl rfl dX2_whereCaught_49 hC

set_option maxHeartbeats 8000000 in
set_option maxRecDepth 100000 in
theorem r_X5_catchIn {D : va_G} {y : Nat → ClassId} {o : Nat → Nat} {ad av : Nat → Nat} {x1 : Int32} {x2 : Int32} {σ : Sto} {σ2 : Sto} {v : Int32} (hf : f_X5_catchIn x1 x2 σ = some (v, σ2)) (l : Launch) (sz : Nat) : Met l yX5_catchIn (Cond.code yX5_catchIn cX5_catchIn 3 (some .int) :: ALW) { frames := 2, cells := 0, slots := 0, locals := 47 } (va_Pc [.ref (o 72), .int x1, .int x2] (PZ D y ad av (WX y o σ) sz)) (QZi D (WX y o σ) v (WX y o σ2) sz) 0 0 (va_A (WX y o σ) sz) := by
  refine met_i (by decide) (Nat.le_of_ble_eq_true rfl) ?_
  intro p e R s m args below meth c Q A ls hx hb hml hta hown hRc hRs hRf hRl hN hK hV hA hret hC hl
  have hl : lv_has ls 3 [(0, .ref (o 72)), (1, .int x1), (2, .int x2)] := hl
  unfold f_X5_catchIn at hf
  refine lv_aload_n hx hb dX5_catchIn_0 rfl (lv_at hl 0 rfl) ?_
  refine gt_X5_25_machine hx hb hta hown hK hC dX5_catchIn_1 ?_
  refine gt_X5_197_blocks hx hb hta hown hK hC dX5_catchIn_4 ?_
  refine lv_iload_n hx hb dX5_catchIn_7 rfl (lv_at hl 1 rfl) ?_
  obtain ⟨hi_1, hf⟩ := ix_inv hf
  obtain ⟨v_1, e_1, hf⟩ := lt_inv hf
  refine al_X_23 hx hb hK hC hi_1 e_1 dX5_catchIn_8 ?_
  refine lv_iconst (v := (-1)) hx hb dX5_catchIn_9 (by decide) ?_
  refine lv_icmp_ne (tgt := 20) hx hb dX5_catchIn_10 (by decide) (fun c_2 => ?_) (fun c_2 => ?_)
  · have hf := it_f c_2 hf
    refine lv_aload_n hx hb dX5_catchIn_20 rfl (lv_at hl 0 rfl) ?_
    refine lv_iconst (v := 0) hx hb dX5_catchIn_21 (by decide) ?_
    obtain ⟨s_4, e_4, hf⟩ := lt_inv hf
    refine pt_X5_54_machine hx hb hta hown hK hC (Or.inl rfl) e_4 dX5_catchIn_22 (fun H locs hC => ?_)
    refine lv_aload_n hx hb dX5_catchIn_25 rfl (lv_at hl 0 rfl) ?_
    refine gt_X5_15_machine hx hb hta hown hK hC dX5_catchIn_26 ?_
    refine lv_iconst (v := 0) hx hb dX5_catchIn_29 (by decide) ?_
    refine lv_iload_n hx hb dX5_catchIn_30 rfl (lv_at hl 2 rfl) ?_
    obtain ⟨hi_5, hf⟩ := ix_inv hf
    obtain ⟨s_5, e_5, hf⟩ := lt_inv hf
    refine as_X_74 hx hb hK hC hi_5 e_5 dX5_catchIn_31 (fun H locs hC => ?_)
    refine lv_aload_n hx hb dX5_catchIn_32 rfl (lv_at hl 0 rfl) ?_
    refine gt_X5_37_machine hx hb hta hown hK hC dX5_catchIn_33 ?_
    refine lv_iload_n hx hb dX5_catchIn_36 rfl (lv_at hl 1 rfl) ?_
    obtain ⟨v_6, hc_6, hf⟩ := calp_inv hf
    refine cc_Vi (r_X2_whereCaught (D := D) (y := y) (o := o) (ad := ad) (av := av) hc_6 l) hx hb hml hta hown hK hN hV hA hC hRc hRs (by omega) (by omega) wq_442 (q := 63) (ci := 2) rfl rfl wq_443 wq_444 wq_242 wq_303 hd_X2_whereCaught (As := [.int x1]) (rest := []) rfl rfl hl.1 rfl dX5_catchIn_37 (fun H locs hC => ?_)
    exact hret _ _ _ _ _ _ (rv_inv hf).1 (congrArg (WX y o) (rv_inv hf).2) rfl dX5_catchIn_40 hC
  · have hf := it_t c_2 hf
    refine lv_aload_n hx hb dX5_catchIn_13 rfl (lv_at hl 0 rfl) ?_
    refine lv_iload_n hx hb dX5_catchIn_14 rfl (lv_at hl 2 rfl) ?_
    obtain ⟨s_3, hc_3, hf⟩ := cals_inv hf
    refine cc_Vv (r_X5_throwOut (D := D) (y := y) (o := o) (ad := ad) (av := av) hc_3 l) hx hb hml hta hown hK hN hV hA hC hRc hRs (by omega) (by omega) wq_397 (q := 72) (ci := 5) rfl rfl wq_398 wq_399 wq_389 wq_393 hd_X5_throwOut (As := [.int x2]) (rest := []) rfl rfl hl.1 rfl dX5_catchIn_15 (fun H locs hC => ?_)
    refine lv_iconst (v := (-1)) hx hb dX5_catchIn_18 (by decide) ?_
    exact hret _ _ _ _ _ _ (rv_inv hf).1 (congrArg (WX y o) (rv_inv hf).2) rfl dX5_catchIn_19 hC

set_option maxHeartbeats 8000000 in
set_option maxRecDepth 100000 in
theorem r_X5_perform {D : va_G} {y : Nat → ClassId} {o : Nat → Nat} {ad av : Nat → Nat} {x1 : Int32} {x2 : Int32} {x3 : Int32} {σ : Sto} {σ2 : Sto} {v : Int32} (hf : f_X5_perform x1 x2 x3 σ = some (v, σ2)) (l : Launch) (sz : Nat) : Met l yX5_perform (Cond.code yX5_perform cX5_perform 7 (some .int) :: ALW) { frames := 252, cells := 0, slots := 0, locals := 6548 } (va_Pc [.ref (o 72), .int x1, .int x2, .int x3] (PZ D y ad av (WX y o σ) sz)) (QZi D (WX y o σ) v (WX y o σ2) sz) 0 0 (va_A (WX y o σ) sz) := by
  refine met_i (by decide) (Nat.le_of_ble_eq_true rfl) ?_
  intro p e R s m args below meth c Q A ls hx hb hml hta hown hRc hRs hRf hRl hN hK hV hA hret hC hl
  have hl : lv_has ls 7 [(0, .ref (o 72)), (1, .int x1), (2, .int x2), (3, .int x3)] := hl
  unfold f_X5_perform at hf
  refine lv_aload_n hx hb dX5_perform_0 rfl (lv_at hl 0 rfl) ?_
  refine gt_X5_33_machine hx hb hta hown hK hC dX5_perform_1 ?_
  refine gt_X5_187_lifted hx hb hta hown hK hC dX5_perform_4 ?_
  refine lv_iload_n hx hb dX5_perform_7 rfl (lv_at hl 1 rfl) ?_
  obtain ⟨hi_1, hf⟩ := ix_inv hf
  obtain ⟨v_1, e_1, hf⟩ := lt_inv hf
  refine al_X_49 hx hb hK hC hi_1 e_1 dX5_perform_8 ?_
  refine lv_istore (lv' := [(4, .int v_1), (0, .ref (o 72)), (1, .int x1), (2, .int x2), (3, .int x3)]) hx hb dX5_perform_9 hl (by decide) rfl (fun ls hl => ?_)
  refine lv_iload hx hb dX5_perform_11 (lv_at hl 0 rfl) ?_
  refine lv_bipush (v := 6) hx hb dX5_perform_13 (by decide) ?_
  refine lv_icmp_ne (tgt := 20) hx hb dX5_perform_15 (by decide) (fun c_2 => ?_) (fun c_2 => ?_)
  · have hf := it_f c_2 hf
    refine lv_aload_n hx hb dX5_perform_20 rfl (lv_at hl 1 rfl) ?_
    refine lv_aload_n hx hb dX5_perform_21 rfl (lv_at hl 1 rfl) ?_
    refine gt_X5_33_machine hx hb hta hown hK hC dX5_perform_22 ?_
    refine gt_X5_188_lifted hx hb hta hown hK hC dX5_perform_25 ?_
    refine lv_iload_n hx hb dX5_perform_28 rfl (lv_at hl 2 rfl) ?_
    obtain ⟨hi_3, hf⟩ := ix_inv hf
    obtain ⟨v_3, e_3, hf⟩ := lt_inv hf
    refine al_X_51 hx hb hK hC hi_3 e_3 dX5_perform_29 ?_
    refine lv_iconst (v := 0) hx hb dX5_perform_30 (by decide) ?_
    obtain ⟨v_4, s_4, hc_4, hf⟩ := calv_inv hf
    refine cc_Vi (r_X5_value 250 (D := D) (y := y) (o := o) (ad := ad) (av := av) hc_4 l) hx hb hml hta hown hK hN hV hA hC hRc hRs (by omega) (by omega) wq_437 (q := 72) (ci := 5) rfl rfl wq_438 wq_439 wq_389 wq_440 hd_X5_value (As := [.int v_3, .int 0]) (rest := []) rfl rfl hl.1 rfl dX5_perform_31 (fun H locs hC => ?_)
    refine lv_istore (lv' := [(5, .int v_4), (4, .int v_1), (0, .ref (o 72)), (1, .int x1), (2, .int x2), (3, .int x3)]) hx hb dX5_perform_34 hl (by decide) rfl (fun ls hl => ?_)
    refine lv_aload_n hx hb dX5_perform_36 rfl (lv_at hl 2 rfl) ?_
    refine gt_X5_54_machine hx hb hta hown hK hC dX5_perform_37 ?_
    obtain ⟨k_49, hk_49, hf⟩ := jn_inv0 hf
    have hj_49 : ∀  (H : Heap) (locs : List Loc) (ls : Array Slot), k_49 = some (v, σ2) → CZ D A s H locs (WX y o s_4) → lv_has ls 7 [(0, .ref (o 72)), (2, .int x2), (5, .int v_4)] → W p l e R s m args below meth c H locs 0 0 Q (F0 m 49 ls []) := by
      intro H locs ls hf hC hl
      have hf := hk_49 hf
      refine lv_aload_n hx hb dX5_perform_49 rfl (lv_at hl 0 rfl) ?_
      refine lv_iload_n hx hb dX5_perform_50 rfl (lv_at hl 1 rfl) ?_
      refine lv_aload_n hx hb dX5_perform_51 rfl (lv_at hl 0 rfl) ?_
      refine gt_X5_54_machine hx hb hta hown hK hC dX5_perform_52 ?_
      refine lv_if_eq (tgt := 63) hx hb dX5_perform_55 (by decide) (fun c_6 => ?_) (fun c_6 => ?_)
      · have hf := it_t c_6 hf
        refine lv_iload hx hb dX5_perform_63 (lv_at hl 2 rfl) ?_
        obtain ⟨v_7, s_7, hc_7, hf⟩ := calv_inv hf
        refine cc_Vi (r_X5_catchIn (D := D) (y := y) (o := o) (ad := ad) (av := av) hc_7 l) hx hb hml hta hown hK hN hV hA hC hRc hRs (by omega) (by omega) wq_449 (q := 72) (ci := 5) rfl rfl wq_450 wq_451 wq_389 wq_445 hd_X5_catchIn (As := [.int x2, .int v_4]) (rest := []) rfl rfl hl.1 rfl dX5_perform_65 (fun H locs hC => ?_)
        exact hret _ _ _ _ _ _ (rv_inv hf).1 (congrArg (WX y o) (rv_inv hf).2) rfl dX5_perform_68 hC
      · have hf := it_f c_6 hf
        refine lv_bipush (v := 99) hx hb dX5_perform_58 (by decide) ?_
        refine lv_goto (tgt := 65) hx hb dX5_perform_60 (by decide) ?_
        obtain ⟨v_8, s_8, hc_8, hf⟩ := calv_inv hf
        refine cc_Vi (r_X5_catchIn (D := D) (y := y) (o := o) (ad := ad) (av := av) hc_8 l) hx hb hml hta hown hK hN hV hA hC hRc hRs (by omega) (by omega) wq_449 (q := 72) (ci := 5) rfl rfl wq_450 wq_451 wq_389 wq_445 hd_X5_catchIn (As := [.int x2, .int 99]) (rest := []) rfl rfl hl.1 rfl dX5_perform_65 (fun H locs hC => ?_)
        exact hret _ _ _ _ _ _ (rv_inv hf).1 (congrArg (WX y o) (rv_inv hf).2) rfl dX5_perform_68 hC
    refine lv_if_ne (tgt := 49) hx hb dX5_perform_40 (by decide) (fun c_9 => ?_) (fun c_9 => ?_)
    · have hf := it_f c_9 hf
      exact hj_49 _ _ _ hf hC (lv_sub hl [2, 4, 0] rfl)
    · have hf := it_t c_9 hf
      refine lv_iload hx hb dX5_perform_43 (lv_at hl 1 rfl) ?_
      refine lv_iconst (v := 5) hx hb dX5_perform_45 (by decide) ?_
      refine lv_icmp_ne (tgt := 69) hx hb dX5_perform_46 (by decide) (fun c_10 => ?_) (fun c_10 => ?_)
      · have hf := it_f c_10 hf
        refine lv_aload_n hx hb dX5_perform_69 rfl (lv_at hl 2 rfl) ?_
        refine gt_X5_33_machine hx hb hta hown hK hC dX5_perform_70 ?_
        refine gt_X5_194_lifted hx hb hta hown hK hC dX5_perform_73 ?_
        refine lv_iload_n hx hb dX5_perform_76 rfl (lv_at hl 3 rfl) ?_
        obtain ⟨hi_11, hf⟩ := ix_inv hf
        obtain ⟨v_11, e_11, hf⟩ := lt_inv hf
        refine al_X_50 hx hb hK hC hi_11 e_11 dX5_perform_77 ?_
        refine lv_istore (lv' := [(6, .int v_11), (5, .int v_4), (4, .int v_1), (0, .ref (o 72)), (1, .int x1), (2, .int x2), (3, .int x3)]) hx hb dX5_perform_78 hl (by decide) rfl (fun ls hl => ?_)
        refine lv_iload hx hb dX5_perform_80 (lv_at hl 2 rfl) ?_
        obtain ⟨k_157, hk_157, hf⟩ := jn_inv1 hf
        have hj_157 : ∀ (s_12 : Sto) (H : Heap) (locs : List Loc) (ls : Array Slot), k_157 s_12 = some (v, σ2) → CZ D A s H locs (WX y o s_12) → lv_has ls 7 [(3, .int x3)] → W p l e R s m args below meth c H locs 0 0 Q (F0 m 157 ls []) := by
          intro s_12 H locs ls hf hC hl
          have hf := hk_157 _ hf
          refine lv_iload_n hx hb dX5_perform_157 rfl (lv_at hl 0 rfl) ?_
          refine lv_iconst (v := 1) hx hb dX5_perform_158 (by decide) ?_
          refine lv_iadd hx hb dX5_perform_159 ?_
          exact hret _ _ _ _ _ _ (rv_inv hf).1 (congrArg (WX y o) (rv_inv hf).2) rfl dX5_perform_160 hC
        by_cases h_13_0 : v_1.toInt = 0
        · have hf := it_t h_13_0 hf
          refine lv_tab (tgt := 112) hx hb dX5_perform_82 (Or.inr ⟨30, by omega, by omega, by (rw [h_13_0]; decide), by decide⟩) ?_
          refine lv_aload_n hx hb dX5_perform_112 rfl (lv_at hl 3 rfl) ?_
          refine gt_X5_9_machine hx hb hta hown hK hC dX5_perform_113 ?_
          refine lv_iload hx hb dX5_perform_116 (lv_at hl 0 rfl) ?_
          refine lv_iload hx hb dX5_perform_118 (lv_at hl 1 rfl) ?_
          obtain ⟨hi_14, hf⟩ := ix_inv hf
          obtain ⟨s_14, e_14, hf⟩ := lt_inv hf
          refine as_X_73 hx hb hK hC hi_14 e_14 dX5_perform_120 (fun H locs hC => ?_)
          refine lv_goto (tgt := 157) hx hb dX5_perform_121 (by decide) ?_
          exact hj_157 _ _ _ _ hf hC (lv_sub hl [6] rfl)
        have hf := it_f h_13_0 hf
        by_cases h_13_1 : v_1.toInt = 1
        · have hf := it_t h_13_1 hf
          refine lv_tab (tgt := 124) hx hb dX5_perform_82 (Or.inr ⟨42, by omega, by omega, by (rw [h_13_1]; decide), by decide⟩) ?_
          refine lv_aload_n hx hb dX5_perform_124 rfl (lv_at hl 3 rfl) ?_
          refine gt_X5_15_machine hx hb hta hown hK hC dX5_perform_125 ?_
          refine lv_iload hx hb dX5_perform_128 (lv_at hl 0 rfl) ?_
          refine lv_iload hx hb dX5_perform_130 (lv_at hl 1 rfl) ?_
          obtain ⟨hi_15, hf⟩ := ix_inv hf
          obtain ⟨s_15, e_15, hf⟩ := lt_inv hf
          refine as_X_74 hx hb hK hC hi_15 e_15 dX5_perform_132 (fun H locs hC => ?_)
          refine lv_goto (tgt := 157) hx hb dX5_perform_133 (by decide) ?_
          exact hj_157 _ _ _ _ hf hC (lv_sub hl [6] rfl)
        have hf := it_f h_13_1 hf
        by_cases h_13_2 : v_1.toInt = 2
        · have hf := it_t h_13_2 hf
          refine lv_tab (tgt := 136) hx hb dX5_perform_82 (Or.inr ⟨54, by omega, by omega, by (rw [h_13_2]; decide), by decide⟩) ?_
          refine lv_aload_n hx hb dX5_perform_136 rfl (lv_at hl 3 rfl) ?_
          refine gt_X5_18_machine hx hb hta hown hK hC dX5_perform_137 ?_
          refine lv_iload hx hb dX5_perform_140 (lv_at hl 0 rfl) ?_
          refine lv_iload hx hb dX5_perform_142 (lv_at hl 1 rfl) ?_
          obtain ⟨hi_16, hf⟩ := ix_inv hf
          obtain ⟨s_16, e_16, hf⟩ := lt_inv hf
          refine as_X_75 hx hb hK hC hi_16 e_16 dX5_perform_144 (fun H locs hC => ?_)
          refine lv_goto (tgt := 157) hx hb dX5_perform_145 (by decide) ?_
          exact hj_157 _ _ _ _ hf hC (lv_sub hl [6] rfl)
        have hf := it_f h_13_2 hf
        by_cases h_13_3 : v_1.toInt = 3
        · have hf := it_t h_13_3 hf
          refine lv_tab (tgt := 148) hx hb dX5_perform_82 (Or.inr ⟨66, by omega, by omega, by (rw [h_13_3]; decide), by decide⟩) ?_
          refine lv_aload_n hx hb dX5_perform_148 rfl (lv_at hl 3 rfl) ?_
          refine lv_iload hx hb dX5_perform_149 (lv_at hl 1 rfl) ?_
          obtain ⟨s_17, hc_17, hf⟩ := cals_inv hf
          refine cc_Vv (r_X5_tellOut (D := D) (y := y) (o := o) (ad := ad) (av := av) hc_17 l) hx hb hml hta hown hK hN hV hA hC hRc hRs (by omega) (by omega) wq_411 (q := 72) (ci := 5) rfl rfl wq_412 wq_413 wq_389 wq_384 hd_X5_tellOut (As := [.int v_4]) (rest := []) rfl rfl hl.1 rfl dX5_perform_151 (fun H locs hC => ?_)
          refine lv_goto (tgt := 157) hx hb dX5_perform_154 (by decide) ?_
          exact hj_157 _ _ _ _ hf hC (lv_sub hl [6] rfl)
        have hf := it_f h_13_3 hf
        refine lv_tab (tgt := 157) hx hb dX5_perform_82 (Or.inl ⟨by omega, by decide⟩) ?_
        exact hj_157 _ _ _ _ hf hC (lv_sub hl [6] rfl)
      · have hf := it_t c_10 hf
        exact hj_49 _ _ _ hf hC (lv_sub hl [2, 4, 0] rfl)
  · have hf := it_t c_2 hf
    refine lv_iconst (v := (-1)) hx hb dX5_perform_18 (by decide) ?_
    exact hret _ _ _ _ _ _ (rv_inv hf).1 (congrArg (WX y o) (rv_inv hf).2) rfl dX5_perform_19 hC

set_option maxHeartbeats 8000000 in
set_option maxRecDepth 100000 in
theorem r_X5_follow {D : va_G} {y : Nat → ClassId} {o : Nat → Nat} {ad av : Nat → Nat} {x1 : Int32} {σ : Sto} {σ2 : Sto} {v : Int32} (hf : f_X5_follow x1 σ = some (v, σ2)) (l : Launch) (sz : Nat) : Met l yX5_follow (Cond.code yX5_follow cX5_follow 3 (some .int) :: ALW) { frames := 253, cells := 0, slots := 0, locals := 6574 } (va_Pc [.ref (o 72), .int x1] (PZ D y ad av (WX y o σ) sz)) (QZi D (WX y o σ) v (WX y o σ2) sz) 0 0 (va_A (WX y o σ) sz) := by
  refine met_i (by decide) (Nat.le_of_ble_eq_true rfl) ?_
  intro p e R s m args below meth c Q A ls hx hb hml hta hown hRc hRs hRf hRl hN hK hV hA hret hC hl
  have hl : lv_has ls 3 [(0, .ref (o 72)), (1, .int x1)] := hl
  unfold f_X5_follow at hf
  refine lv_aload_n hx hb dX5_follow_0 rfl (lv_at hl 0 rfl) ?_
  refine gt_X5_37_machine hx hb hta hown hK hC dX5_follow_1 ?_
  refine gt_X5_161_lines hx hb hta hown hK hC dX5_follow_4 ?_
  refine lv_iload_n hx hb dX5_follow_7 rfl (lv_at hl 1 rfl) ?_
  obtain ⟨hi_1, hf⟩ := ix_inv hf
  obtain ⟨v_1, e_1, hf⟩ := lt_inv hf
  refine al_X_65 hx hb hK hC hi_1 e_1 dX5_follow_8 ?_
  refine lv_istore_n (lv' := [(2, .int v_1), (0, .ref (o 72)), (1, .int x1)]) hx hb dX5_follow_9 rfl hl (by decide) rfl (fun ls hl => ?_)
  refine lv_aload_n hx hb dX5_follow_10 rfl (lv_at hl 1 rfl) ?_
  refine gt_X5_37_machine hx hb hta hown hK hC dX5_follow_11 ?_
  refine gt_X5_155_lines hx hb hta hown hK hC dX5_follow_14 ?_
  refine lv_iload_n hx hb dX5_follow_17 rfl (lv_at hl 2 rfl) ?_
  obtain ⟨hi_2, hf⟩ := ix_inv hf
  obtain ⟨v_2, e_2, hf⟩ := lt_inv hf
  refine al_X_64 hx hb hK hC hi_2 e_2 dX5_follow_18 ?_
  by_cases h_3_0 : v_2.toInt = 0
  · have hf := it_t h_3_0 hf
    refine lv_tab (tgt := 68) hx hb dX5_follow_19 (Or.inr ⟨49, by omega, by omega, by (rw [h_3_0]; decide), by decide⟩) ?_
    refine lv_aload_n hx hb dX5_follow_68 rfl (lv_at hl 1 rfl) ?_
    refine lv_aload_n hx hb dX5_follow_69 rfl (lv_at hl 1 rfl) ?_
    refine gt_X5_37_machine hx hb hta hown hK hC dX5_follow_70 ?_
    refine gt_X5_164_lines hx hb hta hown hK hC dX5_follow_73 ?_
    refine lv_iload_n hx hb dX5_follow_76 rfl (lv_at hl 2 rfl) ?_
    obtain ⟨hi_4, hf⟩ := ix_inv hf
    obtain ⟨v_4, e_4, hf⟩ := lt_inv hf
    refine al_X_67 hx hb hK hC hi_4 e_4 dX5_follow_77 ?_
    refine lv_iload_n hx hb dX5_follow_78 rfl (lv_at hl 0 rfl) ?_
    refine lv_iload_n hx hb dX5_follow_79 rfl (lv_at hl 2 rfl) ?_
    obtain ⟨v_5, s_5, hc_5, hf⟩ := calv_inv hf
    refine cc_Vi (r_X5_perform (D := D) (y := y) (o := o) (ad := ad) (av := av) hc_5 l) hx hb hml hta hown hK hN hV hA hC hRc hRs (by omega) (by omega) wq_460 (q := 72) (ci := 5) rfl rfl wq_461 wq_462 wq_389 wq_452 hd_X5_perform (As := [.int v_4, .int v_1, .int x1]) (rest := []) rfl rfl hl.1 rfl dX5_follow_80 (fun H locs hC => ?_)
    exact hret _ _ _ _ _ _ (rv_inv hf).1 (congrArg (WX y o) (rv_inv hf).2) rfl dX5_follow_83 hC
  have hf := it_f h_3_0 hf
  by_cases h_3_1 : v_2.toInt = 3
  · have hf := it_t h_3_1 hf
    refine lv_tab (tgt := 84) hx hb dX5_follow_19 (Or.inr ⟨65, by omega, by omega, by (rw [h_3_1]; decide), by decide⟩) ?_
    refine lv_aload_n hx hb dX5_follow_84 rfl (lv_at hl 1 rfl) ?_
    refine lv_aload_n hx hb dX5_follow_85 rfl (lv_at hl 1 rfl) ?_
    refine gt_X5_33_machine hx hb hta hown hK hC dX5_follow_86 ?_
    refine gt_X5_170_lifted hx hb hta hown hK hC dX5_follow_89 ?_
    refine lv_iload_n hx hb dX5_follow_92 rfl (lv_at hl 0 rfl) ?_
    obtain ⟨hi_6, hf⟩ := ix_inv hf
    obtain ⟨v_6, e_6, hf⟩ := lt_inv hf
    refine al_X_53 hx hb hK hC hi_6 e_6 dX5_follow_93 ?_
    refine lv_iconst (v := 0) hx hb dX5_follow_94 (by decide) ?_
    obtain ⟨v_7, s_7, hc_7, hf⟩ := calv_inv hf
    refine cc_Vi (r_X5_value 250 (D := D) (y := y) (o := o) (ad := ad) (av := av) hc_7 l) hx hb hml hta hown hK hN hV hA hC hRc hRs (by omega) (by omega) wq_437 (q := 72) (ci := 5) rfl rfl wq_438 wq_439 wq_389 wq_440 hd_X5_value (As := [.int v_6, .int 0]) (rest := []) rfl rfl hl.1 rfl dX5_follow_95 (fun H locs hC => ?_)
    refine lv_if_eq (tgt := 107) hx hb dX5_follow_98 (by decide) (fun c_8 => ?_) (fun c_8 => ?_)
    · have hf := it_t c_8 hf
      refine lv_aload_n hx hb dX5_follow_107 rfl (lv_at hl 1 rfl) ?_
      refine gt_X5_37_machine hx hb hta hown hK hC dX5_follow_108 ?_
      refine gt_X5_164_lines hx hb hta hown hK hC dX5_follow_111 ?_
      refine lv_iload_n hx hb dX5_follow_114 rfl (lv_at hl 2 rfl) ?_
      obtain ⟨hi_9, hf⟩ := ix_inv hf
      obtain ⟨v_9, e_9, hf⟩ := lt_inv hf
      refine al_X_67 hx hb hK hC hi_9 e_9 dX5_follow_115 ?_
      refine lv_iconst (v := 1) hx hb dX5_follow_116 (by decide) ?_
      refine lv_iadd hx hb dX5_follow_117 ?_
      exact hret _ _ _ _ _ _ (rv_inv hf).1 (congrArg (WX y o) (rv_inv hf).2) rfl dX5_follow_118 hC
    · have hf := it_f c_8 hf
      refine lv_iload_n hx hb dX5_follow_101 rfl (lv_at hl 2 rfl) ?_
      refine lv_iconst (v := 1) hx hb dX5_follow_102 (by decide) ?_
      refine lv_iadd hx hb dX5_follow_103 ?_
      refine lv_goto (tgt := 118) hx hb dX5_follow_104 (by decide) ?_
      exact hret _ _ _ _ _ _ (rv_inv hf).1 (congrArg (WX y o) (rv_inv hf).2) rfl dX5_follow_118 hC
  have hf := it_f h_3_1 hf
  by_cases h_3_2 : v_2.toInt = 4
  · have hf := it_t h_3_2 hf
    refine lv_tab (tgt := 119) hx hb dX5_follow_19 (Or.inr ⟨100, by omega, by omega, by (rw [h_3_2]; decide), by decide⟩) ?_
    refine lv_aload_n hx hb dX5_follow_119 rfl (lv_at hl 1 rfl) ?_
    refine gt_X5_37_machine hx hb hta hown hK hC dX5_follow_120 ?_
    refine gt_X5_164_lines hx hb hta hown hK hC dX5_follow_123 ?_
    refine lv_iload_n hx hb dX5_follow_126 rfl (lv_at hl 2 rfl) ?_
    obtain ⟨hi_10, hf⟩ := ix_inv hf
    obtain ⟨v_10, e_10, hf⟩ := lt_inv hf
    refine al_X_67 hx hb hK hC hi_10 e_10 dX5_follow_127 ?_
    refine lv_iconst (v := 1) hx hb dX5_follow_128 (by decide) ?_
    refine lv_iadd hx hb dX5_follow_129 ?_
    exact hret _ _ _ _ _ _ (rv_inv hf).1 (congrArg (WX y o) (rv_inv hf).2) rfl dX5_follow_130 hC
  have hf := it_f h_3_2 hf
  by_cases h_3_3 : v_2.toInt = 6
  · have hf := it_t h_3_3 hf
    refine lv_tab (tgt := 131) hx hb dX5_follow_19 (Or.inr ⟨112, by omega, by omega, by (rw [h_3_3]; decide), by decide⟩) ?_
    refine lv_aload_n hx hb dX5_follow_131 rfl (lv_at hl 1 rfl) ?_
    refine gt_X5_37_machine hx hb hta hown hK hC dX5_follow_132 ?_
    refine gt_X5_178_lines hx hb hta hown hK hC dX5_follow_135 ?_
    refine lv_iload_n hx hb dX5_follow_138 rfl (lv_at hl 0 rfl) ?_
    obtain ⟨hi_11, hf⟩ := ix_inv hf
    obtain ⟨v_11, e_11, hf⟩ := lt_inv hf
    refine al_X_70 hx hb hK hC hi_11 e_11 dX5_follow_139 ?_
    refine lv_iconst (v := 1) hx hb dX5_follow_140 (by decide) ?_
    refine lv_iadd hx hb dX5_follow_141 ?_
    exact hret _ _ _ _ _ _ (rv_inv hf).1 (congrArg (WX y o) (rv_inv hf).2) rfl dX5_follow_142 hC
  have hf := it_f h_3_3 hf
  by_cases h_3_4 : v_2.toInt = 7
  · have hf := it_t h_3_4 hf
    refine lv_tab (tgt := 143) hx hb dX5_follow_19 (Or.inr ⟨124, by omega, by omega, by (rw [h_3_4]; decide), by decide⟩) ?_
    refine lv_aload_n hx hb dX5_follow_143 rfl (lv_at hl 1 rfl) ?_
    refine gt_X5_37_machine hx hb hta hown hK hC dX5_follow_144 ?_
    refine gt_X5_181_lines hx hb hta hown hK hC dX5_follow_147 ?_
    refine lv_iload_n hx hb dX5_follow_150 rfl (lv_at hl 0 rfl) ?_
    obtain ⟨hi_12, hf⟩ := ix_inv hf
    obtain ⟨v_12, e_12, hf⟩ := lt_inv hf
    refine al_X_69 hx hb hK hC hi_12 e_12 dX5_follow_151 ?_
    exact hret _ _ _ _ _ _ (rv_inv hf).1 (congrArg (WX y o) (rv_inv hf).2) rfl dX5_follow_152 hC
  have hf := it_f h_3_4 hf
  by_cases h_3_5 : v_2.toInt = 8
  · have hf := it_t h_3_5 hf
    refine lv_tab (tgt := 153) hx hb dX5_follow_19 (Or.inr ⟨134, by omega, by omega, by (rw [h_3_5]; decide), by decide⟩) ?_
    refine lv_aload_n hx hb dX5_follow_153 rfl (lv_at hl 1 rfl) ?_
    refine gt_X5_37_machine hx hb hta hown hK hC dX5_follow_154 ?_
    refine gt_X5_184_lines hx hb hta hown hK hC dX5_follow_157 ?_
    refine lv_iload_n hx hb dX5_follow_160 rfl (lv_at hl 0 rfl) ?_
    obtain ⟨hi_13, hf⟩ := ix_inv hf
    obtain ⟨v_13, e_13, hf⟩ := lt_inv hf
    refine al_X_68 hx hb hK hC hi_13 e_13 dX5_follow_161 ?_
    exact hret _ _ _ _ _ _ (rv_inv hf).1 (congrArg (WX y o) (rv_inv hf).2) rfl dX5_follow_162 hC
  have hf := it_f h_3_5 hf
  refine lv_tab (tgt := 163) hx hb dX5_follow_19 (by rcases (show (v_2.toInt < 0 ∨ 8 < v_2.toInt ∨ v_2.toInt = 1 ∨ v_2.toInt = 2 ∨ v_2.toInt = 5) by omega) with h | h | h | h | h; exact Or.inl ⟨Or.inl h, by decide⟩; exact Or.inl ⟨Or.inr h, by decide⟩; all_goals exact Or.inr ⟨144, by omega, by omega, by rw [h]; decide, by decide⟩) ?_
  refine lv_iload_n hx hb dX5_follow_163 rfl (lv_at hl 2 rfl) ?_
  refine lv_iconst (v := 1) hx hb dX5_follow_164 (by decide) ?_
  refine lv_iadd hx hb dX5_follow_165 ?_
  exact hret _ _ _ _ _ _ (rv_inv hf).1 (congrArg (WX y o) (rv_inv hf).2) rfl dX5_follow_166 hC

set_option maxHeartbeats 8000000 in
set_option maxRecDepth 100000 in
theorem r_X5_goThroughLines {D : va_G} {y : Nat → ClassId} {o : Nat → Nat} {ad av : Nat → Nat} {σ : Sto} {σ2 : Sto} (hf : f_X5_goThroughLines σ = some σ2) (l : Launch) (sz : Nat) : Met l yX5_goThroughLines (Cond.code yX5_goThroughLines cX5_goThroughLines 3 none :: ALW) { frames := 254, cells := 0, slots := 0, locals := 6596 } (va_Pc [.ref (o 72)] (PZ D y ad av (WX y o σ) sz)) (QZv D (WX y o σ) (WX y o σ2) sz) 0 0 (va_A (WX y o σ) sz) := by
  refine met_v (by decide) (Nat.le_of_ble_eq_true rfl) ?_
  intro p e R s m args below meth c Q A ls hx hb hml hta hown hRc hRs hRf hRl hN hK hV hA hret hC hl
  have hl : lv_has ls 3 [(0, .ref (o 72))] := hl
  unfold f_X5_goThroughLines at hf
  refine lv_iconst (v := 0) hx hb dX5_goThroughLines_0 (by decide) ?_
  refine lv_istore_n (lv' := [(1, .int 0), (0, .ref (o 72))]) hx hb dX5_goThroughLines_1 rfl hl (by decide) rfl (fun ls hl => ?_)
  refine lv_iconst (v := 0) hx hb dX5_goThroughLines_2 (by decide) ?_
  refine lv_istore_n (lv' := [(2, .int 0), (1, .int 0), (0, .ref (o 72))]) hx hb dX5_goThroughLines_3 rfl hl (by decide) rfl (fun ls hl => ?_)
  refine itr_inv3 (P := fun (x1_1 : Int32) (x2_1 : Int32) (s_1 : Sto) => ∀ (H : Heap) (locs : List Loc) (ls : Array Slot), CZ D A s H locs (WX y o s_1) → lv_has ls 3 [(0, .ref (o 72)), (1, .int x1_1), (2, .int x2_1)] → W p l e R s m args below meth c H locs 0 0 Q (F0 m 4 ls [])) hf ?_ _ _ _ hC (lv_sub hl [2, 1, 0] rfl)
  intro a_4 x1_1 x2_1 s_1 ha_4 hf H locs ls hC hl
  refine lv_iload_n hx hb dX5_goThroughLines_4 rfl (lv_at hl 2 rfl) ?_
  refine lv_ldc hx hb hown (hta _ wq_424) dX5_goThroughLines_5 ?_
  refine lv_icmp_ge (tgt := 59) hx hb dX5_goThroughLines_7 (by decide) (fun c_2 => ?_) (fun c_2 => ?_)
  · have hf := it_t c_2 hf
    exact hret _ _ _ _ _ (congrArg (WX y o) (Option.some.inj hf)) dX5_goThroughLines_59 hC
  · have hf := it_f c_2 hf
    refine lv_iload_n hx hb dX5_goThroughLines_10 rfl (lv_at hl 1 rfl) ?_
    refine lv_if_lt (tgt := 59) hx hb dX5_goThroughLines_11 (by decide) (fun c_3 => ?_) (fun c_3 => ?_)
    · have hf := it_t c_3 hf
      exact hret _ _ _ _ _ (congrArg (WX y o) (Option.some.inj hf)) dX5_goThroughLines_59 hC
    · have hf := it_f c_3 hf
      refine lv_iload_n hx hb dX5_goThroughLines_14 rfl (lv_at hl 1 rfl) ?_
      refine lv_aload_n hx hb dX5_goThroughLines_15 rfl (lv_at hl 0 rfl) ?_
      refine gt_X5_37_machine hx hb hta hown hK hC dX5_goThroughLines_16 ?_
      refine gt_X5_152_lines hx hb hta hown hK hC dX5_goThroughLines_19 ?_
      refine lv_icmp_ge (tgt := 59) hx hb dX5_goThroughLines_22 (by decide) (fun c_4 => ?_) (fun c_4 => ?_)
      · have hf := it_t c_4 hf
        exact hret _ _ _ _ _ (congrArg (WX y o) (Option.some.inj hf)) dX5_goThroughLines_59 hC
      · have hf := it_f c_4 hf
        refine lv_aload_n hx hb dX5_goThroughLines_25 rfl (lv_at hl 0 rfl) ?_
        refine gt_X5_37_machine hx hb hta hown hK hC dX5_goThroughLines_26 ?_
        refine gt_X5_155_lines hx hb hta hown hK hC dX5_goThroughLines_29 ?_
        refine lv_iload_n hx hb dX5_goThroughLines_32 rfl (lv_at hl 1 rfl) ?_
        obtain ⟨hi_5, hf⟩ := ix_inv hf
        obtain ⟨v_5, e_5, hf⟩ := lt_inv hf
        refine al_X_64 hx hb hK hC hi_5 e_5 dX5_goThroughLines_33 ?_
        refine lv_bipush (v := 11) hx hb dX5_goThroughLines_34 (by decide) ?_
        obtain ⟨k_47, hk_47, hf⟩ := jn_inv1 hf
        have hj_47 : ∀ (s_6 : Sto) (H : Heap) (locs : List Loc) (ls : Array Slot), k_47 s_6 = some σ2 → CZ D A s H locs (WX y o s_6) → lv_has ls 3 [(0, .ref (o 72)), (1, .int x1_1), (2, .int x2_1)] → W p l e R s m args below meth c H locs 0 0 Q (F0 m 47 ls []) := by
          intro s_6 H locs ls hf hC hl
          have hf := hk_47 _ hf
          refine lv_aload_n hx hb dX5_goThroughLines_47 rfl (lv_at hl 0 rfl) ?_
          refine lv_iload_n hx hb dX5_goThroughLines_48 rfl (lv_at hl 1 rfl) ?_
          obtain ⟨v_7, s_7, hc_7, hf⟩ := calv_inv hf
          refine cc_Vi (r_X5_follow (D := D) (y := y) (o := o) (ad := ad) (av := av) hc_7 l) hx hb hml hta hown hK hN hV hA hC hRc hRs (by omega) (by omega) wq_465 (q := 72) (ci := 5) rfl rfl wq_466 wq_467 wq_389 wq_463 hd_X5_follow (As := [.int x1_1]) (rest := []) rfl rfl hl.1 rfl dX5_goThroughLines_49 (fun H locs hC => ?_)
          refine lv_istore_n (lv' := [(1, .int v_7), (0, .ref (o 72)), (2, .int x2_1)]) hx hb dX5_goThroughLines_52 rfl hl (by decide) rfl (fun ls hl => ?_)
          obtain ⟨x2_8, e_8, hf⟩ := lt_inv hf
          refine lv_iinc (v := x2_8) (lv' := [(2, .int x2_8), (1, .int v_7), (0, .ref (o 72))]) hx hb dX5_goThroughLines_53 hl (k := 2) rfl e_8.symm (by decide) rfl (fun ls hl => ?_)
          refine lv_goto (tgt := 4) hx hb dX5_goThroughLines_56 (by decide) ?_
          exact ha_4 _ _ _ hf _ _ _ hC (lv_sub hl [2, 1, 0] rfl)
        refine lv_icmp_ne (tgt := 47) hx hb dX5_goThroughLines_36 (by decide) (fun c_9 => ?_) (fun c_9 => ?_)
        · have hf := it_f c_9 hf
          exact hj_47 _ _ _ _ hf hC hl
        · have hf := it_t c_9 hf
          refine lv_aload_n hx hb dX5_goThroughLines_39 rfl (lv_at hl 0 rfl) ?_
          obtain ⟨v_10, s_10, hc_10, hf⟩ := calv_inv hf
          refine cc_Vi (r_X5_enter (D := D) (y := y) (o := o) (ad := ad) (av := av) hc_10 l) hx hb hml hta hown hK hN hV hA hC hRc hRs (by omega) (by omega) wq_427 (q := 72) (ci := 5) rfl rfl wq_428 wq_429 wq_389 wq_379 hd_X5_enter (As := []) (rest := []) rfl rfl hl.1 rfl dX5_goThroughLines_40 (fun H locs hC => ?_)
          refine lv_if_ne (tgt := 47) hx hb dX5_goThroughLines_43 (by decide) (fun c_11 => ?_) (fun c_11 => ?_)
          · have hf := it_f c_11 hf
            exact hj_47 _ _ _ _ hf hC hl
          · have hf := it_t c_11 hf
            exact hret _ _ _ _ _ (congrArg (WX y o) (Option.some.inj hf)) dX5_goThroughLines_46 hC

set_option maxHeartbeats 8000000 in
set_option maxRecDepth 100000 in
theorem r_X11_goThrough {D : va_G} {y : Nat → ClassId} {o : Nat → Nat} {ad av : Nat → Nat} {x1 : Int32} {σ : Sto} {σ2 : Sto} (hf : f_X11_goThrough x1 σ = some σ2) (l : Launch) (sz : Nat) : Met l yX11_goThrough (Cond.code yX11_goThrough cX11_goThrough 2 none :: ALW) { frames := 255, cells := 0, slots := 0, locals := 6618 } (va_Pc [.ref (o 0), .int x1] (PZ D y ad av (WX y o σ) sz)) (QZv D (WX y o σ) (WX y o σ2) sz) 0 0 (va_A (WX y o σ) sz) := by
  refine met_v (by decide) (Nat.le_of_ble_eq_true rfl) ?_
  intro p e R s m args below meth c Q A ls hx hb hml hta hown hRc hRs hRf hRl hN hK hV hA hret hC hl
  have hl : lv_has ls 2 [(0, .ref (o 0)), (1, .int x1)] := hl
  unfold f_X11_goThrough at hf
  refine lv_iload_n hx hb dX11_goThrough_0 rfl (lv_at hl 1 rfl) ?_
  refine lv_if_ne (tgt := 14) hx hb dX11_goThrough_1 (by decide) (fun c_1 => ?_) (fun c_1 => ?_)
  · have hf := it_f c_1 hf
    refine lv_aload_n hx hb dX11_goThrough_14 rfl (lv_at hl 0 rfl) ?_
    refine gt_X11_92_cl hx hb hta hown hK hC dX11_goThrough_15 ?_
    obtain ⟨s_3, hc_3, hf⟩ := cals_inv hf
    refine cc_Vv (r_X5_goThroughLines (D := D) (y := y) (o := o) (ad := ad) (av := av) hc_3 l) hx hb hml hta hown hK hN hV hA hC hRc hRs (by omega) (by omega) wq_902 (q := 72) (ci := 5) rfl rfl wq_903 wq_904 wq_389 wq_468 hd_X5_goThroughLines (As := []) (rest := []) rfl rfl hl.1 rfl dX11_goThrough_18 (fun H locs hC => ?_)
    exact hret _ _ _ _ _ (congrArg (WX y o) (Option.some.inj hf)) dX11_goThrough_21 hC
  · have hf := it_t c_1 hf
    refine lv_aload_n hx hb dX11_goThrough_4 rfl (lv_at hl 0 rfl) ?_
    refine gt_X11_92_cl hx hb hta hown hK hC dX11_goThrough_5 ?_
    obtain ⟨s_2, hc_2, hf⟩ := cals_inv hf
    refine cc_Vv (r_X5_goThroughCode (D := D) (y := y) (o := o) (ad := ad) (av := av) hc_2 l) hx hb hml hta hown hK hN hV hA hC hRc hRs (by omega) (by omega) wq_899 (q := 72) (ci := 5) rfl rfl wq_900 wq_901 wq_389 wq_433 hd_X5_goThroughCode (As := []) (rest := []) rfl rfl hl.1 rfl dX11_goThrough_8 (fun H locs hC => ?_)
    refine lv_goto (tgt := 21) hx hb dX11_goThrough_11 (by decide) ?_
    exact hret _ _ _ _ _ (congrArg (WX y o) (Option.some.inj hf)) dX11_goThrough_21 hC

set_option maxHeartbeats 8000000 in
set_option maxRecDepth 100000 in
theorem r_X11_run {D : va_G} {y : Nat → ClassId} {o : Nat → Nat} {ad av : Nat → Nat} {x1 : Int32} {x2 : Int32} {x3 : Int32} {x4 : Int32} {x5 : Int32} {x6 : Int32} {σ : Sto} {σ2 : Sto} {v : Int32} (hf : f_X11_run x1 x2 x3 x4 x5 x6 σ = some (v, σ2)) (l : Launch) (sz : Nat) : Met l yX11_run (Cond.code yX11_run cX11_run 7 (some .int) :: ALW) { frames := 256, cells := 0, slots := 0, locals := 6639 } (va_Pc [.ref (o 0), .int x1, .int x2, .int x3, .int x4, .int x5, .int x6] (PZ D y ad av (WX y o σ) sz)) (QZi D (WX y o σ) v (WX y o σ2) sz) 0 0 (va_A (WX y o σ) sz) := by
  refine met_i (by decide) (Nat.le_of_ble_eq_true rfl) ?_
  intro p e R s m args below meth c Q A ls hx hb hml hta hown hRc hRs hRf hRl hN hK hV hA hret hC hl
  have hl : lv_has ls 7 [(0, .ref (o 0)), (1, .int x1), (2, .int x2), (3, .int x3), (4, .int x4), (5, .int x5), (6, .int x6)] := hl
  unfold f_X11_run at hf
  refine lv_aload_n hx hb dX11_run_0 rfl (lv_at hl 0 rfl) ?_
  refine lv_iload_n hx hb dX11_run_1 rfl (lv_at hl 1 rfl) ?_
  refine lv_iload hx hb dX11_run_2 (lv_at hl 5 rfl) ?_
  obtain ⟨v_1, hc_1, hf⟩ := calp_inv hf
  refine cc_Vi (r_X11_canRun (D := D) (y := y) (o := o) (ad := ad) (av := av) hc_1 l) hx hb hml hta hown hK hN hV hA hC hRc hRs (by omega) (by omega) wq_913 (q := 0) (ci := 11) rfl rfl wq_914 wq_915 wq_38 wq_898 hd_X11_canRun (As := [.int x1, .int x5]) (rest := []) rfl rfl hl.1 rfl dX11_run_4 (fun H locs hC => ?_)
  refine lv_if_eq (tgt := 22) hx hb dX11_run_7 (by decide) (fun c_2 => ?_) (fun c_2 => ?_)
  · have hf := it_t c_2 hf
    refine lv_ldc hx hb hown (hta _ wq_820) dX11_run_22 ?_
    exact hret _ _ _ _ _ _ (rv_inv hf).1 (congrArg (WX y o) (rv_inv hf).2) rfl dX11_run_24 hC
  · have hf := it_f c_2 hf
    refine lv_iload hx hb dX11_run_10 (lv_at hl 6 rfl) ?_
    refine lv_if_lt (tgt := 22) hx hb dX11_run_12 (by decide) (fun c_3 => ?_) (fun c_3 => ?_)
    · have hf := it_t c_3 hf
      refine lv_ldc hx hb hown (hta _ wq_820) dX11_run_22 ?_
      exact hret _ _ _ _ _ _ (rv_inv hf).1 (congrArg (WX y o) (rv_inv hf).2) rfl dX11_run_24 hC
    · have hf := it_f c_3 hf
      refine lv_iload hx hb dX11_run_15 (lv_at hl 6 rfl) ?_
      refine lv_bipush (v := 11) hx hb dX11_run_17 (by decide) ?_
      refine lv_icmp_le (tgt := 25) hx hb dX11_run_19 (by decide) (fun c_4 => ?_) (fun c_4 => ?_)
      · have hf := it_t c_4 hf
        refine lv_aload_n hx hb dX11_run_25 rfl (lv_at hl 0 rfl) ?_
        refine gt_X11_92_cl hx hb hta hown hK hC dX11_run_26 ?_
        refine lv_iload_n hx hb dX11_run_29 rfl (lv_at hl 2 rfl) ?_
        refine lv_iload_n hx hb dX11_run_30 rfl (lv_at hl 3 rfl) ?_
        refine lv_iload hx hb dX11_run_31 (lv_at hl 4 rfl) ?_
        refine lv_iload hx hb dX11_run_33 (lv_at hl 5 rfl) ?_
        refine lv_iconst (v := (-1)) hx hb dX11_run_35 (by decide) ?_
        obtain ⟨s_5, hc_5, hf⟩ := cals_inv hf
        refine cc_Vv (r_X5_begin (D := D) (y := y) (o := o) (ad := ad) (av := av) hc_5 l) hx hb hml hta hown hK hN hV hA hC hRc hRs (by omega) (by omega) wq_916 (q := 72) (ci := 5) rfl rfl wq_917 wq_918 wq_389 wq_366 hd_X5_begin (As := [.int x2, .int x3, .int x4, .int x5, .int (-1)]) (rest := []) rfl rfl hl.1 rfl dX11_run_36 (fun H locs hC => ?_)
        refine lv_aload_n hx hb dX11_run_39 rfl (lv_at hl 0 rfl) ?_
        refine lv_iload_n hx hb dX11_run_40 rfl (lv_at hl 1 rfl) ?_
        obtain ⟨s_6, hc_6, hf⟩ := cals_inv hf
        refine cc_Vv (r_X11_goThrough (D := D) (y := y) (o := o) (ad := ad) (av := av) hc_6 l) hx hb hml hta hown hK hN hV hA hC hRc hRs (by omega) (by omega) wq_919 (q := 0) (ci := 11) rfl rfl wq_920 wq_921 wq_38 wq_905 hd_X11_goThrough (As := [.int x1]) (rest := []) rfl rfl hl.1 rfl dX11_run_41 (fun H locs hC => ?_)
        refine lv_iload hx hb dX11_run_44 (lv_at hl 6 rfl) ?_
        by_cases h_7_0 : x6.toInt = 0
        · have hf := it_t h_7_0 hf
          refine lv_tab (tgt := 108) hx hb dX11_run_46 (Or.inr ⟨62, by omega, by omega, by (rw [h_7_0]; decide), by decide⟩) ?_
          refine lv_aload_n hx hb dX11_run_108 rfl (lv_at hl 0 rfl) ?_
          refine gt_X11_92_cl hx hb hta hown hK hC dX11_run_109 ?_
          refine gt_X11_331_machine hx hb hta hown hK hC dX11_run_112 ?_
          exact hret _ _ _ _ _ _ (rv_inv hf).1 (congrArg (WX y o) (rv_inv hf).2) rfl dX11_run_115 hC
        have hf := it_f h_7_0 hf
        by_cases h_7_1 : x6.toInt = 1
        · have hf := it_t h_7_1 hf
          refine lv_tab (tgt := 116) hx hb dX11_run_46 (Or.inr ⟨70, by omega, by omega, by (rw [h_7_1]; decide), by decide⟩) ?_
          refine lv_aload_n hx hb dX11_run_116 rfl (lv_at hl 0 rfl) ?_
          refine gt_X11_92_cl hx hb hta hown hK hC dX11_run_117 ?_
          refine gt_X11_334_machine hx hb hta hown hK hC dX11_run_120 ?_
          exact hret _ _ _ _ _ _ (rv_inv hf).1 (congrArg (WX y o) (rv_inv hf).2) rfl dX11_run_123 hC
        have hf := it_f h_7_1 hf
        by_cases h_7_2 : x6.toInt = 2
        · have hf := it_t h_7_2 hf
          refine lv_tab (tgt := 124) hx hb dX11_run_46 (Or.inr ⟨78, by omega, by omega, by (rw [h_7_2]; decide), by decide⟩) ?_
          refine lv_aload_n hx hb dX11_run_124 rfl (lv_at hl 0 rfl) ?_
          refine gt_X11_92_cl hx hb hta hown hK hC dX11_run_125 ?_
          refine gt_X11_334_machine hx hb hta hown hK hC dX11_run_128 ?_
          refine lv_iconst (v := 1) hx hb dX11_run_131 (by decide) ?_
          refine lv_icmp_ne (tgt := 145) hx hb dX11_run_132 (by decide) (fun c_8 => ?_) (fun c_8 => ?_)
          · have hf := it_f c_8 hf
            refine lv_iconst (v := 0) hx hb dX11_run_145 (by decide) ?_
            exact hret _ _ _ _ _ _ (rv_inv hf).1 (congrArg (WX y o) (rv_inv hf).2) rfl dX11_run_146 hC
          · have hf := it_t c_8 hf
            refine lv_aload_n hx hb dX11_run_135 rfl (lv_at hl 0 rfl) ?_
            refine gt_X11_92_cl hx hb hta hown hK hC dX11_run_136 ?_
            refine gt_X11_337_machine hx hb hta hown hK hC dX11_run_139 ?_
            refine lv_goto (tgt := 146) hx hb dX11_run_142 (by decide) ?_
            exact hret _ _ _ _ _ _ (rv_inv hf).1 (congrArg (WX y o) (rv_inv hf).2) rfl dX11_run_146 hC
        have hf := it_f h_7_2 hf
        by_cases h_7_3 : x6.toInt = 3
        · have hf := it_t h_7_3 hf
          refine lv_tab (tgt := 147) hx hb dX11_run_46 (Or.inr ⟨101, by omega, by omega, by (rw [h_7_3]; decide), by decide⟩) ?_
          refine lv_aload_n hx hb dX11_run_147 rfl (lv_at hl 0 rfl) ?_
          refine gt_X11_92_cl hx hb hta hown hK hC dX11_run_148 ?_
          refine gt_X11_340_machine hx hb hta hown hK hC dX11_run_151 ?_
          exact hret _ _ _ _ _ _ (rv_inv hf).1 (congrArg (WX y o) (rv_inv hf).2) rfl dX11_run_154 hC
        have hf := it_f h_7_3 hf
        by_cases h_7_4 : x6.toInt = 4
        · have hf := it_t h_7_4 hf
          refine lv_tab (tgt := 155) hx hb dX11_run_46 (Or.inr ⟨109, by omega, by omega, by (rw [h_7_4]; decide), by decide⟩) ?_
          refine lv_aload_n hx hb dX11_run_155 rfl (lv_at hl 0 rfl) ?_
          refine gt_X11_92_cl hx hb hta hown hK hC dX11_run_156 ?_
          refine gt_X11_343_machine hx hb hta hown hK hC dX11_run_159 ?_
          exact hret _ _ _ _ _ _ (rv_inv hf).1 (congrArg (WX y o) (rv_inv hf).2) rfl dX11_run_162 hC
        have hf := it_f h_7_4 hf
        by_cases h_7_5 : x6.toInt = 11
        · have hf := it_t h_7_5 hf
          refine lv_tab (tgt := 163) hx hb dX11_run_46 (Or.inr ⟨117, by omega, by omega, by (rw [h_7_5]; decide), by decide⟩) ?_
          refine lv_aload_n hx hb dX11_run_163 rfl (lv_at hl 0 rfl) ?_
          refine gt_X11_92_cl hx hb hta hown hK hC dX11_run_164 ?_
          refine gt_X11_346_machine hx hb hta hown hK hC dX11_run_167 ?_
          exact hret _ _ _ _ _ _ (rv_inv hf).1 (congrArg (WX y o) (rv_inv hf).2) rfl dX11_run_170 hC
        have hf := it_f h_7_5 hf
        refine lv_tab (tgt := 171) hx hb dX11_run_46 (by rcases (show (x6.toInt < 0 ∨ 11 < x6.toInt ∨ x6.toInt = 5 ∨ x6.toInt = 6 ∨ x6.toInt = 7 ∨ x6.toInt = 8 ∨ x6.toInt = 9 ∨ x6.toInt = 10) by omega) with h | h | h | h | h | h | h | h; exact Or.inl ⟨Or.inl h, by decide⟩; exact Or.inl ⟨Or.inr h, by decide⟩; all_goals exact Or.inr ⟨125, by omega, by omega, by rw [h]; decide, by decide⟩) ?_
        refine lv_aload_n hx hb dX11_run_171 rfl (lv_at hl 0 rfl) ?_
        refine gt_X11_92_cl hx hb hta hown hK hC dX11_run_172 ?_
        refine gt_X11_349_machine hx hb hta hown hK hC dX11_run_175 ?_
        refine lv_iload hx hb dX11_run_178 (lv_at hl 6 rfl) ?_
        refine lv_iconst (v := 5) hx hb dX11_run_180 (by decide) ?_
        refine lv_isub hx hb dX11_run_181 ?_
        obtain ⟨hi_9, hf⟩ := ix_inv hf
        obtain ⟨v_9, e_9, hf⟩ := lt_inv hf
        refine al_X_73 hx hb hK hC hi_9 e_9 dX11_run_182 ?_
        exact hret _ _ _ _ _ _ (rv_inv hf).1 (congrArg (WX y o) (rv_inv hf).2) rfl dX11_run_183 hC
      · have hf := it_f c_4 hf
        refine lv_ldc hx hb hown (hta _ wq_820) dX11_run_22 ?_
        exact hret _ _ _ _ _ _ (rv_inv hf).1 (congrArg (WX y o) (rv_inv hf).2) rfl dX11_run_24 hC

set_option maxHeartbeats 8000000 in
set_option maxRecDepth 100000 in
theorem r_X11_output {D : va_G} {y : Nat → ClassId} {o : Nat → Nat} {ad av : Nat → Nat} {x1 : Int32} {x2 : Int32} {x3 : Int32} {x4 : Int32} {x5 : Int32} {x6 : Int32} {σ : Sto} {σ2 : Sto} {v : Int32} (hf : f_X11_output x1 x2 x3 x4 x5 x6 σ = some (v, σ2)) (l : Launch) (sz : Nat) : Met l yX11_output (Cond.code yX11_output cX11_output 7 (some .int) :: ALW) { frames := 256, cells := 0, slots := 0, locals := 6639 } (va_Pc [.ref (o 0), .int x1, .int x2, .int x3, .int x4, .int x5, .int x6] (PZ D y ad av (WX y o σ) sz)) (QZi D (WX y o σ) v (WX y o σ2) sz) 0 0 (va_A (WX y o σ) sz) := by
  refine met_i (by decide) (Nat.le_of_ble_eq_true rfl) ?_
  intro p e R s m args below meth c Q A ls hx hb hml hta hown hRc hRs hRf hRl hN hK hV hA hret hC hl
  have hl : lv_has ls 7 [(0, .ref (o 0)), (1, .int x1), (2, .int x2), (3, .int x3), (4, .int x4), (5, .int x5), (6, .int x6)] := hl
  unfold f_X11_output at hf
  refine lv_aload_n hx hb dX11_output_0 rfl (lv_at hl 0 rfl) ?_
  refine lv_iload_n hx hb dX11_output_1 rfl (lv_at hl 1 rfl) ?_
  refine lv_iload hx hb dX11_output_2 (lv_at hl 5 rfl) ?_
  obtain ⟨v_1, hc_1, hf⟩ := calp_inv hf
  refine cc_Vi (r_X11_canRun (D := D) (y := y) (o := o) (ad := ad) (av := av) hc_1 l) hx hb hml hta hown hK hN hV hA hC hRc hRs (by omega) (by omega) wq_913 (q := 0) (ci := 11) rfl rfl wq_914 wq_915 wq_38 wq_898 hd_X11_canRun (As := [.int x1, .int x5]) (rest := []) rfl rfl hl.1 rfl dX11_output_4 (fun H locs hC => ?_)
  refine lv_if_eq (tgt := 15) hx hb dX11_output_7 (by decide) (fun c_2 => ?_) (fun c_2 => ?_)
  · have hf := it_t c_2 hf
    refine lv_ldc hx hb hown (hta _ wq_820) dX11_output_15 ?_
    exact hret _ _ _ _ _ _ (rv_inv hf).1 (congrArg (WX y o) (rv_inv hf).2) rfl dX11_output_17 hC
  · have hf := it_f c_2 hf
    refine lv_iload hx hb dX11_output_10 (lv_at hl 6 rfl) ?_
    refine lv_if_ge (tgt := 18) hx hb dX11_output_12 (by decide) (fun c_3 => ?_) (fun c_3 => ?_)
    · have hf := it_t c_3 hf
      refine lv_aload_n hx hb dX11_output_18 rfl (lv_at hl 0 rfl) ?_
      refine gt_X11_92_cl hx hb hta hown hK hC dX11_output_19 ?_
      refine lv_iload_n hx hb dX11_output_22 rfl (lv_at hl 2 rfl) ?_
      refine lv_iload_n hx hb dX11_output_23 rfl (lv_at hl 3 rfl) ?_
      refine lv_iload hx hb dX11_output_24 (lv_at hl 4 rfl) ?_
      refine lv_iload hx hb dX11_output_26 (lv_at hl 5 rfl) ?_
      refine lv_iload hx hb dX11_output_28 (lv_at hl 6 rfl) ?_
      obtain ⟨s_4, hc_4, hf⟩ := cals_inv hf
      refine cc_Vv (r_X5_begin (D := D) (y := y) (o := o) (ad := ad) (av := av) hc_4 l) hx hb hml hta hown hK hN hV hA hC hRc hRs (by omega) (by omega) wq_916 (q := 72) (ci := 5) rfl rfl wq_917 wq_918 wq_389 wq_366 hd_X5_begin (As := [.int x2, .int x3, .int x4, .int x5, .int x6]) (rest := []) rfl rfl hl.1 rfl dX11_output_30 (fun H locs hC => ?_)
      refine lv_aload_n hx hb dX11_output_33 rfl (lv_at hl 0 rfl) ?_
      refine lv_iload_n hx hb dX11_output_34 rfl (lv_at hl 1 rfl) ?_
      obtain ⟨s_5, hc_5, hf⟩ := cals_inv hf
      refine cc_Vv (r_X11_goThrough (D := D) (y := y) (o := o) (ad := ad) (av := av) hc_5 l) hx hb hml hta hown hK hN hV hA hC hRc hRs (by omega) (by omega) wq_919 (q := 0) (ci := 11) rfl rfl wq_920 wq_921 wq_38 wq_905 hd_X11_goThrough (As := [.int x1]) (rest := []) rfl rfl hl.1 rfl dX11_output_35 (fun H locs hC => ?_)
      refine lv_iload hx hb dX11_output_38 (lv_at hl 6 rfl) ?_
      refine lv_aload_n hx hb dX11_output_40 rfl (lv_at hl 0 rfl) ?_
      refine gt_X11_92_cl hx hb hta hown hK hC dX11_output_41 ?_
      refine gt_X11_331_machine hx hb hta hown hK hC dX11_output_44 ?_
      refine lv_icmp_ge (tgt := 60) hx hb dX11_output_47 (by decide) (fun c_6 => ?_) (fun c_6 => ?_)
      · have hf := it_t c_6 hf
        refine lv_ldc hx hb hown (hta _ wq_820) dX11_output_60 ?_
        exact hret _ _ _ _ _ _ (rv_inv hf).1 (congrArg (WX y o) (rv_inv hf).2) rfl dX11_output_62 hC
      · have hf := it_f c_6 hf
        refine lv_aload_n hx hb dX11_output_50 rfl (lv_at hl 0 rfl) ?_
        refine gt_X11_92_cl hx hb hta hown hK hC dX11_output_51 ?_
        refine gt_X11_351_machine hx hb hta hown hK hC dX11_output_54 ?_
        refine lv_goto (tgt := 62) hx hb dX11_output_57 (by decide) ?_
        exact hret _ _ _ _ _ _ (rv_inv hf).1 (congrArg (WX y o) (rv_inv hf).2) rfl dX11_output_62 hC
    · have hf := it_f c_3 hf
      refine lv_ldc hx hb hown (hta _ wq_820) dX11_output_15 ?_
      exact hret _ _ _ _ _ _ (rv_inv hf).1 (congrArg (WX y o) (rv_inv hf).2) rfl dX11_output_17 hC

set_option maxHeartbeats 8000000 in
set_option maxRecDepth 100000 in
theorem r_X0_leadingTo {D : va_G} {y : Nat → ClassId} {o : Nat → Nat} {ad av : Nat → Nat} {x1 : Int32} {σ : Sto} {v : Int64} (hf : f_X0_leadingTo x1 σ = some v) (l : Launch) (sz : Nat) : Met l yX0_leadingTo (Cond.code yX0_leadingTo cX0_leadingTo 8 (some .long) :: ALW) { frames := 0, cells := 0, slots := 0, locals := 0 } (va_Pc [.ref (o 17), .int x1] (PZ D y ad av (WX y o σ) sz)) (QZl D (WX y o σ) v (WX y o σ) sz) 0 0 (va_A (WX y o σ) sz) := by
  refine met_l (by decide) (Nat.le_of_ble_eq_true rfl) ?_
  intro p e R s m args below meth c Q A ls hx hb hml hta hown hRc hRs hRf hRl hN hK hV hA hret hC hl
  have hl : lv_has ls 8 [(0, .ref (o 17)), (1, .int x1)] := hl
  unfold f_X0_leadingTo at hf
  refine lv_lconst (v := 0) hx hb dX0_leadingTo_0 rfl ?_
  refine lv_lstore_n (lv' := [(2, .long 0), (0, .ref (o 17)), (1, .int x1)]) hx hb dX0_leadingTo_1 rfl hl (by decide) rfl (fun ls hl => ?_)
  refine lv_lconst (v := 0) hx hb dX0_leadingTo_2 rfl ?_
  refine lv_lstore (lv' := [(4, .long 0), (2, .long 0), (0, .ref (o 17)), (1, .int x1)]) hx hb dX0_leadingTo_3 hl (by decide) rfl (fun ls hl => ?_)
  refine lv_iconst (v := 0) hx hb dX0_leadingTo_5 (by decide) ?_
  refine lv_istore (lv' := [(6, .int 0), (4, .long 0), (2, .long 0), (0, .ref (o 17)), (1, .int x1)]) hx hb dX0_leadingTo_6 hl (by decide) rfl (fun ls hl => ?_)
  refine itr_inv3 (P := fun (x2_1 : Int64) (x4_1 : Int64) (x6_1 : Int32) => ∀ (H : Heap) (locs : List Loc) (ls : Array Slot), CZ D A s H locs (WX y o σ) → lv_has ls 8 [(0, .ref (o 17)), (1, .int x1), (2, .long x2_1), (4, .long x4_1), (6, .int x6_1)] → W p l e R s m args below meth c H locs 0 0 Q (F0 m 8 ls [])) hf ?_ _ _ _ hC (lv_sub hl [3, 4, 2, 1, 0] rfl)
  intro a_8 x2_1 x4_1 x6_1 ha_8 hf H locs ls hC hl
  refine lv_iload hx hb dX0_leadingTo_8 (lv_at hl 4 rfl) ?_
  refine lv_aload_n hx hb dX0_leadingTo_10 rfl (lv_at hl 0 rfl) ?_
  refine gt_X0_57_blocks hx hb hta hown hK hC dX0_leadingTo_11 ?_
  refine lv_icmp_gt (tgt := 81) hx hb dX0_leadingTo_14 (by decide) (fun c_2 => ?_) (fun c_2 => ?_)
  · have hf := it_t c_2 hf
    refine lv_lload_n hx hb dX0_leadingTo_81 rfl (lv_at hl 2 rfl) ?_
    exact hret _ _ _ _ _ _ (Option.some.inj hf) rfl dX0_leadingTo_82 hC
  · have hf := it_f c_2 hf
    refine lv_lload hx hb dX0_leadingTo_17 (lv_at hl 3 rfl) ?_
    refine lv_lload_n hx hb dX0_leadingTo_19 rfl (lv_at hl 2 rfl) ?_
    refine lv_lconst (v := 1) hx hb dX0_leadingTo_20 rfl ?_
    refine lv_iload_n hx hb dX0_leadingTo_21 rfl (lv_at hl 1 rfl) ?_
    refine lv_lshl hx hb dX0_leadingTo_22 rfl ?_
    refine lv_lor hx hb dX0_leadingTo_23 ?_
    refine W.lcmp hx hb dX0_leadingTo_24 ?_
    refine lv_if_eq (tgt := 81) hx hb dX0_leadingTo_25 (by decide) (fun c_3 => ?_) (fun c_3 => ?_)
    · have hf := it_t c_3 hf
      refine lv_lload_n hx hb dX0_leadingTo_81 rfl (lv_at hl 2 rfl) ?_
      exact hret _ _ _ _ _ _ (Option.some.inj hf) rfl dX0_leadingTo_82 hC
    · have hf := it_f c_3 hf
      refine lv_lload_n hx hb dX0_leadingTo_28 rfl (lv_at hl 2 rfl) ?_
      refine lv_lconst (v := 1) hx hb dX0_leadingTo_29 rfl ?_
      refine lv_iload_n hx hb dX0_leadingTo_30 rfl (lv_at hl 1 rfl) ?_
      refine lv_lshl hx hb dX0_leadingTo_31 rfl ?_
      refine lv_lor hx hb dX0_leadingTo_32 ?_
      obtain ⟨x4_4, e_4, hf⟩ := lt_inv hf
      refine nml e_4 ?_
      refine lv_lstore (lv' := [(4, .long x4_4), (0, .ref (o 17)), (1, .int x1), (2, .long x2_1), (6, .int x6_1)]) hx hb dX0_leadingTo_33 hl (by decide) rfl (fun ls hl => ?_)
      refine lv_iconst (v := 0) hx hb dX0_leadingTo_35 (by decide) ?_
      refine lv_istore (lv' := [(7, .int 0), (4, .long x4_4), (0, .ref (o 17)), (1, .int x1), (2, .long x2_1), (6, .int x6_1)]) hx hb dX0_leadingTo_36 hl (by decide) rfl (fun ls hl => ?_)
      refine itr_inv2 (P := fun (x2_5 : Int64) (x7_5 : Int32) => ∀ (H : Heap) (locs : List Loc) (ls : Array Slot), CZ D A s H locs (WX y o σ) → lv_has ls 8 [(0, .ref (o 17)), (1, .int x1), (2, .long x2_5), (4, .long x4_4), (6, .int x6_1), (7, .int x7_5)] → W p l e R s m args below meth c H locs 0 0 Q (F0 m 38 ls [])) hf ?_ _ _ _ hC (lv_sub hl [2, 3, 4, 1, 5, 0] rfl)
      intro a_38 x2_5 x7_5 ha_38 hf H locs ls hC hl
      refine lv_iload hx hb dX0_leadingTo_38 (lv_at hl 5 rfl) ?_
      refine lv_aload_n hx hb dX0_leadingTo_40 rfl (lv_at hl 0 rfl) ?_
      refine gt_X0_57_blocks hx hb hta hown hK hC dX0_leadingTo_41 ?_
      refine lv_icmp_ge (tgt := 75) hx hb dX0_leadingTo_44 (by decide) (fun c_6 => ?_) (fun c_6 => ?_)
      · have hf := it_t c_6 hf
        obtain ⟨x6_7, e_7, hf⟩ := lt_inv hf
        refine lv_iinc (v := x6_7) (lv' := [(6, .int x6_7), (0, .ref (o 17)), (1, .int x1), (2, .long x2_5), (4, .long x4_4), (7, .int x7_5)]) hx hb dX0_leadingTo_75 hl (k := 4) rfl e_7.symm (by decide) rfl (fun ls hl => ?_)
        refine lv_goto (tgt := 8) hx hb dX0_leadingTo_78 (by decide) ?_
        exact ha_8 _ _ _ hf _ _ _ hC (lv_sub hl [1, 2, 3, 4, 0] rfl)
      · have hf := it_f c_6 hf
        refine lv_aload_n hx hb dX0_leadingTo_47 rfl (lv_at hl 0 rfl) ?_
        refine gt_X0_30_blocks hx hb hta hown hK hC dX0_leadingTo_48 ?_
        refine lv_iload hx hb dX0_leadingTo_51 (lv_at hl 5 rfl) ?_
        obtain ⟨hi_8, hf⟩ := ix_inv hf
        obtain ⟨v_8, e_8, hf⟩ := lt_inv hf
        refine al_X_24 hx hb hK hC hi_8 e_8 dX0_leadingTo_53 ?_
        refine lv_lload hx hb dX0_leadingTo_54 (lv_at hl 3 rfl) ?_
        refine lv_land hx hb dX0_leadingTo_56 ?_
        refine lv_lconst (v := 0) hx hb dX0_leadingTo_57 rfl ?_
        refine W.lcmp hx hb dX0_leadingTo_58 ?_
        obtain ⟨k_69, hk_69, hf⟩ := jn_inv1 hf
        have hj_69 : ∀ (x2_9 : Int64) (H : Heap) (locs : List Loc) (ls : Array Slot), k_69 x2_9 = some v → CZ D A s H locs (WX y o σ) → lv_has ls 8 [(0, .ref (o 17)), (1, .int x1), (2, .long x2_9), (4, .long x4_4), (6, .int x6_1), (7, .int x7_5)] → W p l e R s m args below meth c H locs 0 0 Q (F0 m 69 ls []) := by
          intro x2_9 H locs ls hf hC hl
          have hf := hk_69 _ hf
          obtain ⟨x7_10, e_10, hf⟩ := lt_inv hf
          refine lv_iinc (v := x7_10) (lv' := [(7, .int x7_10), (0, .ref (o 17)), (1, .int x1), (2, .long x2_9), (4, .long x4_4), (6, .int x6_1)]) hx hb dX0_leadingTo_69 hl (k := 5) rfl e_10.symm (by decide) rfl (fun ls hl => ?_)
          refine lv_goto (tgt := 38) hx hb dX0_leadingTo_72 (by decide) ?_
          exact ha_38 _ _ hf _ _ _ hC (lv_sub hl [1, 2, 3, 4, 5, 0] rfl)
        refine lv_if_eq (tgt := 69) hx hb dX0_leadingTo_59 (by decide) (fun c_11 => ?_) (fun c_11 => ?_)
        · have hf := it_t c_11 hf
          exact hj_69 _ _ _ _ hf hC hl
        · have hf := it_f c_11 hf
          refine lv_lload_n hx hb dX0_leadingTo_62 rfl (lv_at hl 2 rfl) ?_
          refine lv_lconst (v := 1) hx hb dX0_leadingTo_63 rfl ?_
          refine lv_iload hx hb dX0_leadingTo_64 (lv_at hl 5 rfl) ?_
          refine lv_lshl hx hb dX0_leadingTo_66 rfl ?_
          refine lv_lor hx hb dX0_leadingTo_67 ?_
          obtain ⟨x2_12, e_12, hf⟩ := lt_inv hf
          refine nml e_12 ?_
          refine lv_lstore_n (lv' := [(2, .long x2_12), (0, .ref (o 17)), (1, .int x1), (4, .long x4_4), (6, .int x6_1), (7, .int x7_5)]) hx hb dX0_leadingTo_68 rfl hl (by decide) rfl (fun ls hl => ?_)
          exact hj_69 _ _ _ _ hf hC (lv_sub hl [1, 2, 0, 3, 4, 5] rfl)

set_option maxHeartbeats 8000000 in
set_option maxRecDepth 100000 in
theorem r_X11_comesTo {D : va_G} {y : Nat → ClassId} {o : Nat → Nat} {ad av : Nat → Nat} {x1 : Int32} {σ : Sto} {v : Int64} (hf : f_X11_comesTo x1 σ = some v) (l : Launch) (sz : Nat) : Met l yX11_comesTo (Cond.code yX11_comesTo cX11_comesTo 2 (some .long) :: ALW) { frames := 1, cells := 0, slots := 0, locals := 27 } (va_Pc [.ref (o 0), .int x1] (PZ D y ad av (WX y o σ) sz)) (QZl D (WX y o σ) v (WX y o σ) sz) 0 0 (va_A (WX y o σ) sz) := by
  refine met_l (by decide) (Nat.le_of_ble_eq_true rfl) ?_
  intro p e R s m args below meth c Q A ls hx hb hml hta hown hRc hRs hRf hRl hN hK hV hA hret hC hl
  have hl : lv_has ls 2 [(0, .ref (o 0)), (1, .int x1)] := hl
  unfold f_X11_comesTo at hf
  refine lv_aload_n hx hb dX11_comesTo_0 rfl (lv_at hl 0 rfl) ?_
  refine lv_iload_n hx hb dX11_comesTo_1 rfl (lv_at hl 1 rfl) ?_
  obtain ⟨v_1, hc_1, hf⟩ := calp_inv hf
  refine cc_Vi (r_X11_isBlock (D := D) (y := y) (o := o) (ad := ad) (av := av) hc_1 l) hx hb hml hta hown hK hN hV hA hC hRc hRs (by omega) (by omega) wq_848 (q := 0) (ci := 11) rfl rfl wq_849 wq_850 wq_38 wq_839 hd_X11_isBlock (As := [.int x1]) (rest := []) rfl rfl hl.1 rfl dX11_comesTo_2 (fun H locs hC => ?_)
  refine lv_if_eq (tgt := 19) hx hb dX11_comesTo_5 (by decide) (fun c_2 => ?_) (fun c_2 => ?_)
  · have hf := it_t c_2 hf
    refine lv_ldc2 hx hb hown (hta _ wq_866) dX11_comesTo_19 ?_
    exact hret _ _ _ _ _ _ (Option.some.inj hf) rfl dX11_comesTo_22 hC
  · have hf := it_f c_2 hf
    refine lv_aload_n hx hb dX11_comesTo_8 rfl (lv_at hl 0 rfl) ?_
    refine gt_X11_31_cl hx hb hta hown hK hC dX11_comesTo_9 ?_
    refine lv_iload_n hx hb dX11_comesTo_12 rfl (lv_at hl 1 rfl) ?_
    obtain ⟨v_3, hc_3, hf⟩ := calp_inv hf
    refine cc_Vl (r_X0_leadingTo (D := D) (y := y) (o := o) (ad := ad) (av := av) hc_3 l) hx hb hml hta hown hK hN hV hA hC hRc hRs (by omega) (by omega) wq_926 (q := 17) (ci := 0) rfl rfl wq_927 wq_928 wq_42 wq_91 hd_X0_leadingTo (As := [.int x1]) (rest := []) rfl rfl hl.1 rfl dX11_comesTo_13 (fun H locs hC => ?_)
    refine lv_goto (tgt := 22) hx hb dX11_comesTo_16 (by decide) ?_
    exact hret _ _ _ _ _ _ (Option.some.inj hf) rfl dX11_comesTo_22 hC

set_option maxHeartbeats 8000000 in
set_option maxRecDepth 100000 in
theorem r_X0_way {D : va_G} {y : Nat → ClassId} {o : Nat → Nat} {ad av : Nat → Nat} {x1 : Int32} {x2 : Int32} {σ : Sto} {v : Int32} (hf : f_X0_way x1 x2 σ = some v) (l : Launch) (sz : Nat) : Met l yX0_way (Cond.code yX0_way cX0_way 9 (some .int) :: ALW) { frames := 1, cells := 0, slots := 0, locals := 22 } (va_Pc [.ref (o 17), .int x1, .int x2] (PZ D y ad av (WX y o σ) sz)) (QZi D (WX y o σ) v (WX y o σ) sz) 0 0 (va_A (WX y o σ) sz) := by
  refine met_i (by decide) (Nat.le_of_ble_eq_true rfl) ?_
  intro p e R s m args below meth c Q A ls hx hb hml hta hown hRc hRs hRf hRl hN hK hV hA hret hC hl
  have hl : lv_has ls 9 [(0, .ref (o 17)), (1, .int x1), (2, .int x2)] := hl
  unfold f_X0_way at hf
  refine lv_lconst (v := 1) hx hb dX0_way_0 rfl ?_
  refine lv_iload_n hx hb dX0_way_1 rfl (lv_at hl 1 rfl) ?_
  refine lv_lshl hx hb dX0_way_2 rfl ?_
  obtain ⟨x3_1, e_1, hf⟩ := lt_inv hf
  refine nml e_1 ?_
  refine lv_lstore_n (lv' := [(3, .long x3_1), (0, .ref (o 17)), (1, .int x1), (2, .int x2)]) hx hb dX0_way_3 rfl hl (by decide) rfl (fun ls hl => ?_)
  refine lv_iconst (v := 0) hx hb dX0_way_4 (by decide) ?_
  refine lv_istore (lv' := [(5, .int 0), (3, .long x3_1), (0, .ref (o 17)), (1, .int x1), (2, .int x2)]) hx hb dX0_way_5 hl (by decide) rfl (fun ls hl => ?_)
  refine itr_inv2 (P := fun (x3_2 : Int64) (x5_2 : Int32) => ∀ (H : Heap) (locs : List Loc) (ls : Array Slot), CZ D A s H locs (WX y o σ) → lv_has ls 9 [(0, .ref (o 17)), (2, .int x2), (3, .long x3_2), (5, .int x5_2)] → W p l e R s m args below meth c H locs 0 0 Q (F0 m 7 ls [])) hf ?_ _ _ _ hC (lv_sub hl [2, 4, 1, 0] rfl)
  intro a_7 x3_2 x5_2 ha_7 hf H locs ls hC hl
  refine lv_iload hx hb dX0_way_7 (lv_at hl 3 rfl) ?_
  refine lv_aload_n hx hb dX0_way_9 rfl (lv_at hl 0 rfl) ?_
  refine gt_X0_57_blocks hx hb hta hown hK hC dX0_way_10 ?_
  refine lv_icmp_gt (tgt := 78) hx hb dX0_way_13 (by decide) (fun c_3 => ?_) (fun c_3 => ?_)
  · have hf := it_t c_3 hf
    refine lv_iconst (v := (-1)) hx hb dX0_way_78 (by decide) ?_
    exact hret _ _ _ _ _ _ (Option.some.inj hf) rfl rfl dX0_way_79 hC
  · have hf := it_f c_3 hf
    refine lv_lload_n hx hb dX0_way_16 rfl (lv_at hl 2 rfl) ?_
    refine lv_iload_n hx hb dX0_way_17 rfl (lv_at hl 1 rfl) ?_
    obtain ⟨v_4, hc_4, hf⟩ := calp_inv hf
    refine cc_SiN (r_X11_isIn (D := D) (y := y) (w := WX y o σ) (ad := ad) (av := av) hc_4 l) hx hb hml hta hown hK hN hV hA hC hRc hRs (by omega) (by omega) (nw_X0_125 hN) wq_37 wq_38 wq_33 hd_X11_isIn (As := [.long x3_2, .int x2]) (rest := []) rfl rfl hl.1 rfl dX0_way_18 (fun H locs hC => ?_)
    refine lv_if_eq (tgt := 27) hx hb dX0_way_21 (by decide) (fun c_5 => ?_) (fun c_5 => ?_)
    · have hf := it_t c_5 hf
      refine lv_lload_n hx hb dX0_way_27 rfl (lv_at hl 2 rfl) ?_
      refine lv_lstore (lv' := [(6, .long x3_2), (0, .ref (o 17)), (2, .int x2), (3, .long x3_2), (5, .int x5_2)]) hx hb dX0_way_28 hl (by decide) rfl (fun ls hl => ?_)
      refine lv_iconst (v := 0) hx hb dX0_way_30 (by decide) ?_
      refine lv_istore (lv' := [(8, .int 0), (6, .long x3_2), (0, .ref (o 17)), (2, .int x2), (3, .long x3_2), (5, .int x5_2)]) hx hb dX0_way_31 hl (by decide) rfl (fun ls hl => ?_)
      refine itr_inv2 (P := fun (x6_6 : Int64) (x8_6 : Int32) => ∀ (H : Heap) (locs : List Loc) (ls : Array Slot), CZ D A s H locs (WX y o σ) → lv_has ls 9 [(0, .ref (o 17)), (2, .int x2), (3, .long x3_2), (5, .int x5_2), (6, .long x6_6), (8, .int x8_6)] → W p l e R s m args below meth c H locs 0 0 Q (F0 m 33 ls [])) hf ?_ _ _ _ hC (lv_sub hl [2, 3, 4, 5, 1, 0] rfl)
      intro a_33 x6_6 x8_6 ha_33 hf H locs ls hC hl
      refine lv_iload hx hb dX0_way_33 (lv_at hl 5 rfl) ?_
      refine lv_aload_n hx hb dX0_way_35 rfl (lv_at hl 0 rfl) ?_
      refine gt_X0_57_blocks hx hb hta hown hK hC dX0_way_36 ?_
      refine lv_icmp_ge (tgt := 69) hx hb dX0_way_39 (by decide) (fun c_7 => ?_) (fun c_7 => ?_)
      · have hf := it_t c_7 hf
        refine lv_lload hx hb dX0_way_69 (lv_at hl 4 rfl) ?_
        refine lv_lstore_n (lv' := [(3, .long x6_6), (0, .ref (o 17)), (2, .int x2), (5, .int x5_2), (6, .long x6_6), (8, .int x8_6)]) hx hb dX0_way_71 rfl hl (by decide) rfl (fun ls hl => ?_)
        obtain ⟨x5_8, e_8, hf⟩ := lt_inv hf
        refine lv_iinc (v := x5_8) (lv' := [(5, .int x5_8), (3, .long x6_6), (0, .ref (o 17)), (2, .int x2), (6, .long x6_6), (8, .int x8_6)]) hx hb dX0_way_72 hl (k := 3) rfl e_8.symm (by decide) rfl (fun ls hl => ?_)
        refine lv_goto (tgt := 7) hx hb dX0_way_75 (by decide) ?_
        exact ha_7 _ _ hf _ _ _ hC (lv_sub hl [2, 3, 1, 0] rfl)
      · have hf := it_f c_7 hf
        refine lv_lload_n hx hb dX0_way_42 rfl (lv_at hl 2 rfl) ?_
        refine lv_iload hx hb dX0_way_43 (lv_at hl 5 rfl) ?_
        obtain ⟨v_9, hc_9, hf⟩ := calp_inv hf
        refine cc_SiN (r_X11_isIn (D := D) (y := y) (w := WX y o σ) (ad := ad) (av := av) hc_9 l) hx hb hml hta hown hK hN hV hA hC hRc hRs (by omega) (by omega) (nw_X0_125 hN) wq_37 wq_38 wq_33 hd_X11_isIn (As := [.long x3_2, .int x8_6]) (rest := []) rfl rfl hl.1 rfl dX0_way_45 (fun H locs hC => ?_)
        obtain ⟨k_63, hk_63, hf⟩ := jn_inv1 hf
        have hj_63 : ∀ (x6_10 : Int64) (H : Heap) (locs : List Loc) (ls : Array Slot), k_63 x6_10 = some v → CZ D A s H locs (WX y o σ) → lv_has ls 9 [(0, .ref (o 17)), (2, .int x2), (3, .long x3_2), (5, .int x5_2), (6, .long x6_10), (8, .int x8_6)] → W p l e R s m args below meth c H locs 0 0 Q (F0 m 63 ls []) := by
          intro x6_10 H locs ls hf hC hl
          have hf := hk_63 _ hf
          obtain ⟨x8_11, e_11, hf⟩ := lt_inv hf
          refine lv_iinc (v := x8_11) (lv' := [(8, .int x8_11), (0, .ref (o 17)), (2, .int x2), (3, .long x3_2), (5, .int x5_2), (6, .long x6_10)]) hx hb dX0_way_63 hl (k := 5) rfl e_11.symm (by decide) rfl (fun ls hl => ?_)
          refine lv_goto (tgt := 33) hx hb dX0_way_66 (by decide) ?_
          exact ha_33 _ _ hf _ _ _ hC (lv_sub hl [1, 2, 3, 4, 5, 0] rfl)
        refine lv_if_eq (tgt := 63) hx hb dX0_way_48 (by decide) (fun c_12 => ?_) (fun c_12 => ?_)
        · have hf := it_t c_12 hf
          exact hj_63 _ _ _ _ hf hC hl
        · have hf := it_f c_12 hf
          refine lv_lload hx hb dX0_way_51 (lv_at hl 4 rfl) ?_
          refine lv_aload_n hx hb dX0_way_53 rfl (lv_at hl 0 rfl) ?_
          refine gt_X0_30_blocks hx hb hta hown hK hC dX0_way_54 ?_
          refine lv_iload hx hb dX0_way_57 (lv_at hl 5 rfl) ?_
          obtain ⟨hi_13, hf⟩ := ix_inv hf
          obtain ⟨v_13, e_13, hf⟩ := lt_inv hf
          refine al_X_24 hx hb hK hC hi_13 e_13 dX0_way_59 ?_
          refine lv_lor hx hb dX0_way_60 ?_
          obtain ⟨x6_14, e_14, hf⟩ := lt_inv hf
          refine nml e_14 ?_
          refine lv_lstore (lv' := [(6, .long x6_14), (0, .ref (o 17)), (2, .int x2), (3, .long x3_2), (5, .int x5_2), (8, .int x8_6)]) hx hb dX0_way_61 hl (by decide) rfl (fun ls hl => ?_)
          exact hj_63 _ _ _ _ hf hC (lv_sub hl [1, 2, 3, 4, 0, 5] rfl)
    · have hf := it_f c_5 hf
      refine lv_iload hx hb dX0_way_24 (lv_at hl 3 rfl) ?_
      exact hret _ _ _ _ _ _ (Option.some.inj hf) rfl rfl dX0_way_26 hC

set_option maxHeartbeats 8000000 in
set_option maxRecDepth 100000 in
theorem r_X11_far {D : va_G} {y : Nat → ClassId} {o : Nat → Nat} {ad av : Nat → Nat} {x1 : Int32} {x2 : Int32} {σ : Sto} {v : Int32} (hf : f_X11_far x1 x2 σ = some v) (l : Launch) (sz : Nat) : Met l yX11_far (Cond.code yX11_far cX11_far 3 (some .int) :: ALW) { frames := 2, cells := 0, slots := 0, locals := 50 } (va_Pc [.ref (o 0), .int x1, .int x2] (PZ D y ad av (WX y o σ) sz)) (QZi D (WX y o σ) v (WX y o σ) sz) 0 0 (va_A (WX y o σ) sz) := by
  refine met_i (by decide) (Nat.le_of_ble_eq_true rfl) ?_
  intro p e R s m args below meth c Q A ls hx hb hml hta hown hRc hRs hRf hRl hN hK hV hA hret hC hl
  have hl : lv_has ls 3 [(0, .ref (o 0)), (1, .int x1), (2, .int x2)] := hl
  unfold f_X11_far at hf
  refine lv_aload_n hx hb dX11_far_0 rfl (lv_at hl 0 rfl) ?_
  refine lv_iload_n hx hb dX11_far_1 rfl (lv_at hl 1 rfl) ?_
  obtain ⟨v_1, hc_1, hf⟩ := calp_inv hf
  refine cc_Vi (r_X11_isBlock (D := D) (y := y) (o := o) (ad := ad) (av := av) hc_1 l) hx hb hml hta hown hK hN hV hA hC hRc hRs (by omega) (by omega) wq_848 (q := 0) (ci := 11) rfl rfl wq_849 wq_850 wq_38 wq_839 hd_X11_isBlock (As := [.int x1]) (rest := []) rfl rfl hl.1 rfl dX11_far_2 (fun H locs hC => ?_)
  obtain ⟨k_28, hk_28, hf⟩ := jn_inv0 hf
  have hj_28 : ∀  (H : Heap) (locs : List Loc) (ls : Array Slot), k_28 = some v → CZ D A s H locs (WX y o σ) → lv_has ls 3 [] → W p l e R s m args below meth c H locs 0 0 Q (F0 m 28 ls []) := by
    intro H locs ls hf hC hl
    have hf := hk_28 hf
    refine lv_iconst (v := (-1)) hx hb dX11_far_28 (by decide) ?_
    exact hret _ _ _ _ _ _ (Option.some.inj hf) rfl rfl dX11_far_29 hC
  refine lv_if_eq (tgt := 28) hx hb dX11_far_5 (by decide) (fun c_3 => ?_) (fun c_3 => ?_)
  · have hf := it_t c_3 hf
    exact hj_28 _ _ _ hf hC (lv_sub hl [] rfl)
  · have hf := it_f c_3 hf
    refine lv_aload_n hx hb dX11_far_8 rfl (lv_at hl 0 rfl) ?_
    refine lv_iload_n hx hb dX11_far_9 rfl (lv_at hl 2 rfl) ?_
    obtain ⟨v_4, hc_4, hf⟩ := calp_inv hf
    refine cc_Vi (r_X11_isBlock (D := D) (y := y) (o := o) (ad := ad) (av := av) hc_4 l) hx hb hml hta hown hK hN hV hA hC hRc hRs (by omega) (by omega) wq_848 (q := 0) (ci := 11) rfl rfl wq_849 wq_850 wq_38 wq_839 hd_X11_isBlock (As := [.int x2]) (rest := []) rfl rfl hl.1 rfl dX11_far_10 (fun H locs hC => ?_)
    refine lv_if_eq (tgt := 28) hx hb dX11_far_13 (by decide) (fun c_5 => ?_) (fun c_5 => ?_)
    · have hf := it_t c_5 hf
      exact hj_28 _ _ _ hf hC (lv_sub hl [] rfl)
    · have hf := it_f c_5 hf
      refine lv_aload_n hx hb dX11_far_16 rfl (lv_at hl 0 rfl) ?_
      refine gt_X11_31_cl hx hb hta hown hK hC dX11_far_17 ?_
      refine lv_iload_n hx hb dX11_far_20 rfl (lv_at hl 1 rfl) ?_
      refine lv_iload_n hx hb dX11_far_21 rfl (lv_at hl 2 rfl) ?_
      obtain ⟨v_6, hc_6, hf⟩ := calp_inv hf
      refine cc_Vi (r_X0_way (D := D) (y := y) (o := o) (ad := ad) (av := av) hc_6 l) hx hb hml hta hown hK hN hV hA hC hRc hRs (by omega) (by omega) wq_930 (q := 17) (ci := 0) rfl rfl wq_931 wq_932 wq_42 wq_92 hd_X0_way (As := [.int x1, .int x2]) (rest := []) rfl rfl hl.1 rfl dX11_far_22 (fun H locs hC => ?_)
      refine lv_goto (tgt := 29) hx hb dX11_far_25 (by decide) ?_
      exact hret _ _ _ _ _ _ (Option.some.inj hf) rfl rfl dX11_far_29 hC

set_option maxHeartbeats 8000000 in
set_option maxRecDepth 100000 in
theorem r_X8_mostLoops {D : va_G} {y : Nat → ClassId} {o : Nat → Nat} {ad av : Nat → Nat} {σ : Sto} {v : Int32} (hf : f_X8_mostLoops σ = some v) (l : Launch) (sz : Nat) : Met l yX8_mostLoops (Cond.code yX8_mostLoops cX8_mostLoops 3 (some .int) :: ALW) { frames := 2, cells := 0, slots := 0, locals := 60 } (va_Pc [.ref (o 30)] (PZ D y ad av (WX y o σ) sz)) (QZi D (WX y o σ) v (WX y o σ) sz) 0 0 (va_A (WX y o σ) sz) := by
  refine met_i (by decide) (Nat.le_of_ble_eq_true rfl) ?_
  intro p e R s m args below meth c Q A ls hx hb hml hta hown hRc hRs hRf hRl hN hK hV hA hret hC hl
  have hl : lv_has ls 3 [(0, .ref (o 30))] := hl
  unfold f_X8_mostLoops at hf
  refine lv_iconst (v := 0) hx hb dX8_mostLoops_0 (by decide) ?_
  refine lv_istore_n (lv' := [(1, .int 0), (0, .ref (o 30))]) hx hb dX8_mostLoops_1 rfl hl (by decide) rfl (fun ls hl => ?_)
  refine lv_iconst (v := 0) hx hb dX8_mostLoops_2 (by decide) ?_
  refine lv_istore_n (lv' := [(2, .int 0), (1, .int 0), (0, .ref (o 30))]) hx hb dX8_mostLoops_3 rfl hl (by decide) rfl (fun ls hl => ?_)
  refine itr_inv2 (P := fun (x1_1 : Int32) (x2_1 : Int32) => ∀ (H : Heap) (locs : List Loc) (ls : Array Slot), CZ D A s H locs (WX y o σ) → lv_has ls 3 [(0, .ref (o 30)), (1, .int x1_1), (2, .int x2_1)] → W p l e R s m args below meth c H locs 0 0 Q (F0 m 4 ls [])) hf ?_ _ _ _ hC (lv_sub hl [2, 1, 0] rfl)
  intro a_4 x1_1 x2_1 ha_4 hf H locs ls hC hl
  refine lv_iload_n hx hb dX8_mostLoops_4 rfl (lv_at hl 2 rfl) ?_
  refine lv_aload_n hx hb dX8_mostLoops_5 rfl (lv_at hl 0 rfl) ?_
  refine gt_X8_47_shape hx hb hta hown hK hC dX8_mostLoops_6 ?_
  refine gt_X8_109_blocks hx hb hta hown hK hC dX8_mostLoops_9 ?_
  refine lv_icmp_ge (tgt := 31) hx hb dX8_mostLoops_12 (by decide) (fun c_2 => ?_) (fun c_2 => ?_)
  · have hf := it_t c_2 hf
    refine lv_iload_n hx hb dX8_mostLoops_31 rfl (lv_at hl 1 rfl) ?_
    exact hret _ _ _ _ _ _ (Option.some.inj hf) rfl rfl dX8_mostLoops_32 hC
  · have hf := it_f c_2 hf
    refine lv_iload_n hx hb dX8_mostLoops_15 rfl (lv_at hl 1 rfl) ?_
    refine lv_aload_n hx hb dX8_mostLoops_16 rfl (lv_at hl 0 rfl) ?_
    refine lv_iload_n hx hb dX8_mostLoops_17 rfl (lv_at hl 2 rfl) ?_
    obtain ⟨v_3, hc_3, hf⟩ := calp_inv hf
    refine cc_Vi (r_X8_loopsRound (D := D) (y := y) (o := o) (ad := ad) (av := av) hc_3 l) hx hb hml hta hown hK hN hV hA hC hRc hRs (by omega) (by omega) wq_659 (q := 30) (ci := 8) rfl rfl wq_660 wq_661 wq_603 wq_656 hd_X8_loopsRound (As := [.int x2_1]) (rest := [.int x1_1]) rfl rfl hl.1 rfl dX8_mostLoops_18 (fun H locs hC => ?_)
    obtain ⟨v_4, e_4, hf⟩ := lt_inv hf
    refine cc_max hx hb hml hta hown hRc hRs (by omega) (by omega) wq_658 hl.1 rfl e_4 dX8_mostLoops_21 ?_
    refine lv_istore_n (lv' := [(1, .int v_4), (0, .ref (o 30)), (2, .int x2_1)]) hx hb dX8_mostLoops_24 rfl hl (by decide) rfl (fun ls hl => ?_)
    obtain ⟨x2_5, e_5, hf⟩ := lt_inv hf
    refine lv_iinc (v := x2_5) (lv' := [(2, .int x2_5), (1, .int v_4), (0, .ref (o 30))]) hx hb dX8_mostLoops_25 hl (k := 2) rfl e_5.symm (by decide) rfl (fun ls hl => ?_)
    refine lv_goto (tgt := 4) hx hb dX8_mostLoops_28 (by decide) ?_
    exact ha_4 _ _ hf _ _ _ hC (lv_sub hl [2, 1, 0] rfl)

set_option maxHeartbeats 8000000 in
set_option maxRecDepth 100000 in
theorem r_X2_deepest {D : va_G} {y : Nat → ClassId} {o : Nat → Nat} {ad av : Nat → Nat} {σ : Sto} {v : Int32} (hf : f_X2_deepest σ = some v) (l : Launch) (sz : Nat) : Met l yX2_deepest (Cond.code yX2_deepest cX2_deepest 3 (some .int) :: ALW) { frames := 1, cells := 0, slots := 0, locals := 60 } (va_Pc [.ref (o 63)] (PZ D y ad av (WX y o σ) sz)) (QZi D (WX y o σ) v (WX y o σ) sz) 0 0 (va_A (WX y o σ) sz) := by
  refine met_i (by decide) (Nat.le_of_ble_eq_true rfl) ?_
  intro p e R s m args below meth c Q A ls hx hb hml hta hown hRc hRs hRf hRl hN hK hV hA hret hC hl
  have hl : lv_has ls 3 [(0, .ref (o 63))] := hl
  unfold f_X2_deepest at hf
  refine lv_iconst (v := 0) hx hb dX2_deepest_0 (by decide) ?_
  refine lv_istore_n (lv' := [(1, .int 0), (0, .ref (o 63))]) hx hb dX2_deepest_1 rfl hl (by decide) rfl (fun ls hl => ?_)
  refine lv_iconst (v := 0) hx hb dX2_deepest_2 (by decide) ?_
  refine lv_istore_n (lv' := [(2, .int 0), (1, .int 0), (0, .ref (o 63))]) hx hb dX2_deepest_3 rfl hl (by decide) rfl (fun ls hl => ?_)
  refine itr_inv2 (P := fun (x1_1 : Int32) (x2_1 : Int32) => ∀ (H : Heap) (locs : List Loc) (ls : Array Slot), CZ D A s H locs (WX y o σ) → lv_has ls 3 [(0, .ref (o 63)), (1, .int x1_1), (2, .int x2_1)] → W p l e R s m args below meth c H locs 0 0 Q (F0 m 4 ls [])) hf ?_ _ _ _ hC (lv_sub hl [2, 1, 0] rfl)
  intro a_4 x1_1 x2_1 ha_4 hf H locs ls hC hl
  refine lv_iload_n hx hb dX2_deepest_4 rfl (lv_at hl 2 rfl) ?_
  refine lv_aload_n hx hb dX2_deepest_5 rfl (lv_at hl 0 rfl) ?_
  refine gt_X2_48_lines hx hb hta hown hK hC dX2_deepest_6 ?_
  refine lv_icmp_ge (tgt := 29) hx hb dX2_deepest_9 (by decide) (fun c_2 => ?_) (fun c_2 => ?_)
  · have hf := it_t c_2 hf
    refine lv_iload_n hx hb dX2_deepest_29 rfl (lv_at hl 1 rfl) ?_
    exact hret _ _ _ _ _ _ (Option.some.inj hf) rfl rfl dX2_deepest_30 hC
  · have hf := it_f c_2 hf
    refine lv_iload_n hx hb dX2_deepest_12 rfl (lv_at hl 1 rfl) ?_
    refine lv_aload_n hx hb dX2_deepest_13 rfl (lv_at hl 0 rfl) ?_
    refine gt_X2_18_lines hx hb hta hown hK hC dX2_deepest_14 ?_
    refine lv_iload_n hx hb dX2_deepest_17 rfl (lv_at hl 2 rfl) ?_
    obtain ⟨hi_3, hf⟩ := ix_inv hf
    obtain ⟨v_3, e_3, hf⟩ := lt_inv hf
    refine al_X_66 hx hb hK hC hi_3 e_3 dX2_deepest_18 ?_
    obtain ⟨v_4, e_4, hf⟩ := lt_inv hf
    refine cc_max hx hb hml hta hown hRc hRs (by omega) (by omega) wq_305 hl.1 rfl e_4 dX2_deepest_19 ?_
    refine lv_istore_n (lv' := [(1, .int v_4), (0, .ref (o 63)), (2, .int x2_1)]) hx hb dX2_deepest_22 rfl hl (by decide) rfl (fun ls hl => ?_)
    obtain ⟨x2_5, e_5, hf⟩ := lt_inv hf
    refine lv_iinc (v := x2_5) (lv' := [(2, .int x2_5), (1, .int v_4), (0, .ref (o 63))]) hx hb dX2_deepest_23 hl (k := 2) rfl e_5.symm (by decide) rfl (fun ls hl => ?_)
    refine lv_goto (tgt := 4) hx hb dX2_deepest_26 (by decide) ?_
    exact ha_4 _ _ hf _ _ _ hC (lv_sub hl [2, 1, 0] rfl)

set_option maxHeartbeats 8000000 in
set_option maxRecDepth 100000 in
theorem r_X2_ofKind {D : va_G} {y : Nat → ClassId} {o : Nat → Nat} {ad av : Nat → Nat} {x1 : Int32} {σ : Sto} {v : Int32} (hf : f_X2_ofKind x1 σ = some v) (l : Launch) (sz : Nat) : Met l yX2_ofKind (Cond.code yX2_ofKind cX2_ofKind 4 (some .int) :: ALW) { frames := 0, cells := 0, slots := 0, locals := 0 } (va_Pc [.ref (o 63), .int x1] (PZ D y ad av (WX y o σ) sz)) (QZi D (WX y o σ) v (WX y o σ) sz) 0 0 (va_A (WX y o σ) sz) := by
  refine met_i (by decide) (Nat.le_of_ble_eq_true rfl) ?_
  intro p e R s m args below meth c Q A ls hx hb hml hta hown hRc hRs hRf hRl hN hK hV hA hret hC hl
  have hl : lv_has ls 4 [(0, .ref (o 63)), (1, .int x1)] := hl
  unfold f_X2_ofKind at hf
  refine lv_iconst (v := 0) hx hb dX2_ofKind_0 (by decide) ?_
  refine lv_istore_n (lv' := [(2, .int 0), (0, .ref (o 63)), (1, .int x1)]) hx hb dX2_ofKind_1 rfl hl (by decide) rfl (fun ls hl => ?_)
  refine lv_iconst (v := 0) hx hb dX2_ofKind_2 (by decide) ?_
  refine lv_istore_n (lv' := [(3, .int 0), (2, .int 0), (0, .ref (o 63)), (1, .int x1)]) hx hb dX2_ofKind_3 rfl hl (by decide) rfl (fun ls hl => ?_)
  refine itr_inv2 (P := fun (x2_1 : Int32) (x3_1 : Int32) => ∀ (H : Heap) (locs : List Loc) (ls : Array Slot), CZ D A s H locs (WX y o σ) → lv_has ls 4 [(0, .ref (o 63)), (1, .int x1), (2, .int x2_1), (3, .int x3_1)] → W p l e R s m args below meth c H locs 0 0 Q (F0 m 4 ls [])) hf ?_ _ _ _ hC (lv_sub hl [2, 3, 1, 0] rfl)
  intro a_4 x2_1 x3_1 ha_4 hf H locs ls hC hl
  refine lv_iload_n hx hb dX2_ofKind_4 rfl (lv_at hl 3 rfl) ?_
  refine lv_aload_n hx hb dX2_ofKind_5 rfl (lv_at hl 0 rfl) ?_
  refine gt_X2_48_lines hx hb hta hown hK hC dX2_ofKind_6 ?_
  refine lv_icmp_ge (tgt := 31) hx hb dX2_ofKind_9 (by decide) (fun c_2 => ?_) (fun c_2 => ?_)
  · have hf := it_t c_2 hf
    refine lv_iload_n hx hb dX2_ofKind_31 rfl (lv_at hl 2 rfl) ?_
    exact hret _ _ _ _ _ _ (Option.some.inj hf) rfl rfl dX2_ofKind_32 hC
  · have hf := it_f c_2 hf
    refine lv_aload_n hx hb dX2_ofKind_12 rfl (lv_at hl 0 rfl) ?_
    refine gt_X2_9_lines hx hb hta hown hK hC dX2_ofKind_13 ?_
    refine lv_iload_n hx hb dX2_ofKind_16 rfl (lv_at hl 3 rfl) ?_
    obtain ⟨hi_3, hf⟩ := ix_inv hf
    obtain ⟨v_3, e_3, hf⟩ := lt_inv hf
    refine al_X_64 hx hb hK hC hi_3 e_3 dX2_ofKind_17 ?_
    refine lv_iload_n hx hb dX2_ofKind_18 rfl (lv_at hl 1 rfl) ?_
    obtain ⟨k_25, hk_25, hf⟩ := jn_inv1 hf
    have hj_25 : ∀ (x2_4 : Int32) (H : Heap) (locs : List Loc) (ls : Array Slot), k_25 x2_4 = some v → CZ D A s H locs (WX y o σ) → lv_has ls 4 [(0, .ref (o 63)), (1, .int x1), (2, .int x2_4), (3, .int x3_1)] → W p l e R s m args below meth c H locs 0 0 Q (F0 m 25 ls []) := by
      intro x2_4 H locs ls hf hC hl
      have hf := hk_25 _ hf
      obtain ⟨x3_5, e_5, hf⟩ := lt_inv hf
      refine lv_iinc (v := x3_5) (lv' := [(3, .int x3_5), (0, .ref (o 63)), (1, .int x1), (2, .int x2_4)]) hx hb dX2_ofKind_25 hl (k := 3) rfl e_5.symm (by decide) rfl (fun ls hl => ?_)
      refine lv_goto (tgt := 4) hx hb dX2_ofKind_28 (by decide) ?_
      exact ha_4 _ _ hf _ _ _ hC (lv_sub hl [1, 2, 3, 0] rfl)
    refine lv_icmp_ne (tgt := 25) hx hb dX2_ofKind_19 (by decide) (fun c_6 => ?_) (fun c_6 => ?_)
    · have hf := it_f c_6 hf
      exact hj_25 _ _ _ _ hf hC hl
    · have hf := it_t c_6 hf
      obtain ⟨x2_7, e_7, hf⟩ := lt_inv hf
      refine lv_iinc (v := x2_7) (lv' := [(2, .int x2_7), (0, .ref (o 63)), (1, .int x1), (3, .int x3_1)]) hx hb dX2_ofKind_22 hl (k := 2) rfl e_7.symm (by decide) rfl (fun ls hl => ?_)
      exact hj_25 _ _ _ _ hf hC (lv_sub hl [1, 2, 0, 3] rfl)

set_option maxHeartbeats 8000000 in
set_option maxRecDepth 100000 in
theorem r_X1_mostParts {D : va_G} {y : Nat → ClassId} {o : Nat → Nat} {ad av : Nat → Nat} {σ : Sto} {v : Int32} (hf : f_X1_mostParts σ = some v) (l : Launch) (sz : Nat) : Met l yX1_mostParts (Cond.code yX1_mostParts cX1_mostParts 3 (some .int) :: ALW) { frames := 1, cells := 0, slots := 0, locals := 60 } (va_Pc [.ref (o 48)] (PZ D y ad av (WX y o σ) sz)) (QZi D (WX y o σ) v (WX y o σ) sz) 0 0 (va_A (WX y o σ) sz) := by
  refine met_i (by decide) (Nat.le_of_ble_eq_true rfl) ?_
  intro p e R s m args below meth c Q A ls hx hb hml hta hown hRc hRs hRf hRl hN hK hV hA hret hC hl
  have hl : lv_has ls 3 [(0, .ref (o 48))] := hl
  unfold f_X1_mostParts at hf
  refine lv_iconst (v := 0) hx hb dX1_mostParts_0 (by decide) ?_
  refine lv_istore_n (lv' := [(1, .int 0), (0, .ref (o 48))]) hx hb dX1_mostParts_1 rfl hl (by decide) rfl (fun ls hl => ?_)
  refine lv_iconst (v := 0) hx hb dX1_mostParts_2 (by decide) ?_
  refine lv_istore_n (lv' := [(2, .int 0), (1, .int 0), (0, .ref (o 48))]) hx hb dX1_mostParts_3 rfl hl (by decide) rfl (fun ls hl => ?_)
  refine itr_inv2 (P := fun (x1_1 : Int32) (x2_1 : Int32) => ∀ (H : Heap) (locs : List Loc) (ls : Array Slot), CZ D A s H locs (WX y o σ) → lv_has ls 3 [(0, .ref (o 48)), (1, .int x1_1), (2, .int x2_1)] → W p l e R s m args below meth c H locs 0 0 Q (F0 m 4 ls [])) hf ?_ _ _ _ hC (lv_sub hl [2, 1, 0] rfl)
  intro a_4 x1_1 x2_1 ha_4 hf H locs ls hC hl
  refine lv_iload_n hx hb dX1_mostParts_4 rfl (lv_at hl 2 rfl) ?_
  refine lv_aload_n hx hb dX1_mostParts_5 rfl (lv_at hl 0 rfl) ?_
  refine gt_X1_46_lifted hx hb hta hown hK hC dX1_mostParts_6 ?_
  refine lv_icmp_ge (tgt := 47) hx hb dX1_mostParts_9 (by decide) (fun c_2 => ?_) (fun c_2 => ?_)
  · have hf := it_t c_2 hf
    refine lv_iload_n hx hb dX1_mostParts_47 rfl (lv_at hl 1 rfl) ?_
    exact hret _ _ _ _ _ _ (Option.some.inj hf) rfl rfl dX1_mostParts_48 hC
  · have hf := it_f c_2 hf
    refine lv_aload_n hx hb dX1_mostParts_12 rfl (lv_at hl 0 rfl) ?_
    refine gt_X1_18_lifted hx hb hta hown hK hC dX1_mostParts_13 ?_
    refine lv_iload_n hx hb dX1_mostParts_16 rfl (lv_at hl 2 rfl) ?_
    obtain ⟨hi_3, hf⟩ := ix_inv hf
    obtain ⟨v_3, e_3, hf⟩ := lt_inv hf
    refine al_X_51 hx hb hK hC hi_3 e_3 dX1_mostParts_17 ?_
    refine lv_iconst (v := (-1)) hx hb dX1_mostParts_18 (by decide) ?_
    obtain ⟨k_41, hk_41, hf⟩ := jn_inv1 hf
    have hj_41 : ∀ (x1_4 : Int32) (H : Heap) (locs : List Loc) (ls : Array Slot), k_41 x1_4 = some v → CZ D A s H locs (WX y o σ) → lv_has ls 3 [(0, .ref (o 48)), (1, .int x1_4), (2, .int x2_1)] → W p l e R s m args below meth c H locs 0 0 Q (F0 m 41 ls []) := by
      intro x1_4 H locs ls hf hC hl
      have hf := hk_41 _ hf
      obtain ⟨x2_5, e_5, hf⟩ := lt_inv hf
      refine lv_iinc (v := x2_5) (lv' := [(2, .int x2_5), (0, .ref (o 48)), (1, .int x1_4)]) hx hb dX1_mostParts_41 hl (k := 2) rfl e_5.symm (by decide) rfl (fun ls hl => ?_)
      refine lv_goto (tgt := 4) hx hb dX1_mostParts_44 (by decide) ?_
      exact ha_4 _ _ hf _ _ _ hC (lv_sub hl [1, 2, 0] rfl)
    refine lv_icmp_eq (tgt := 41) hx hb dX1_mostParts_19 (by decide) (fun c_6 => ?_) (fun c_6 => ?_)
    · have hf := it_t c_6 hf
      exact hj_41 _ _ _ _ hf hC hl
    · have hf := it_f c_6 hf
      refine lv_iload_n hx hb dX1_mostParts_22 rfl (lv_at hl 1 rfl) ?_
      refine lv_aload_n hx hb dX1_mostParts_23 rfl (lv_at hl 0 rfl) ?_
      refine gt_X1_42_lifted hx hb hta hown hK hC dX1_mostParts_24 ?_
      refine gt_X1_174_pool hx hb hta hown hK hC dX1_mostParts_27 ?_
      refine lv_aload_n hx hb dX1_mostParts_30 rfl (lv_at hl 0 rfl) ?_
      refine gt_X1_18_lifted hx hb hta hown hK hC dX1_mostParts_31 ?_
      refine lv_iload_n hx hb dX1_mostParts_34 rfl (lv_at hl 2 rfl) ?_
      obtain ⟨hi_7, hf⟩ := ix_inv hf
      obtain ⟨v_7, e_7, hf⟩ := lt_inv hf
      refine al_X_51 hx hb hK hC hi_7 e_7 dX1_mostParts_35 ?_
      obtain ⟨hi_8, hf⟩ := ix_inv hf
      obtain ⟨v_8, e_8, hf⟩ := lt_inv hf
      refine al_X_46 hx hb hK hC hi_8 e_8 dX1_mostParts_36 ?_
      obtain ⟨v_9, e_9, hf⟩ := lt_inv hf
      refine cc_max hx hb hml hta hown hRc hRs (by omega) (by omega) wq_222 hl.1 rfl e_9 dX1_mostParts_37 ?_
      refine lv_istore_n (lv' := [(1, .int v_9), (0, .ref (o 48)), (2, .int x2_1)]) hx hb dX1_mostParts_40 rfl hl (by decide) rfl (fun ls hl => ?_)
      exact hj_41 _ _ _ _ hf hC (lv_sub hl [1, 0, 2] rfl)

set_option maxHeartbeats 8000000 in
set_option maxRecDepth 100000 in
theorem r_X3_highest {D : va_G} {y : Nat → ClassId} {o : Nat → Nat} {ad av : Nat → Nat} {σ : Sto} {v : Int32} (hf : f_X3_highest σ = some v) (l : Launch) (sz : Nat) : Met l yX3_highest (Cond.code yX3_highest cX3_highest 3 (some .int) :: ALW) { frames := 3, cells := 0, slots := 0, locals := 61 } (va_Pc [.ref (o 3)] (PZ D y ad av (WX y o σ) sz)) (QZi D (WX y o σ) v (WX y o σ) sz) 0 0 (va_A (WX y o σ) sz) := by
  refine met_i (by decide) (Nat.le_of_ble_eq_true rfl) ?_
  intro p e R s m args below meth c Q A ls hx hb hml hta hown hRc hRs hRf hRl hN hK hV hA hret hC hl
  have hl : lv_has ls 3 [(0, .ref (o 3))] := hl
  unfold f_X3_highest at hf
  refine lv_iconst (v := 0) hx hb dX3_highest_0 (by decide) ?_
  refine lv_istore_n (lv' := [(1, .int 0), (0, .ref (o 3))]) hx hb dX3_highest_1 rfl hl (by decide) rfl (fun ls hl => ?_)
  refine lv_iconst (v := 0) hx hb dX3_highest_2 (by decide) ?_
  refine lv_istore_n (lv' := [(2, .int 0), (1, .int 0), (0, .ref (o 3))]) hx hb dX3_highest_3 rfl hl (by decide) rfl (fun ls hl => ?_)
  refine itr_inv2 (P := fun (x1_1 : Int32) (x2_1 : Int32) => ∀ (H : Heap) (locs : List Loc) (ls : Array Slot), CZ D A s H locs (WX y o σ) → lv_has ls 3 [(0, .ref (o 3)), (1, .int x1_1), (2, .int x2_1)] → W p l e R s m args below meth c H locs 0 0 Q (F0 m 4 ls [])) hf ?_ _ _ _ hC (lv_sub hl [2, 1, 0] rfl)
  intro a_4 x1_1 x2_1 ha_4 hf H locs ls hC hl
  refine lv_iload_n hx hb dX3_highest_4 rfl (lv_at hl 2 rfl) ?_
  refine lv_aload_n hx hb dX3_highest_5 rfl (lv_at hl 0 rfl) ?_
  refine gt_X3_30_listing hx hb hta hown hK hC dX3_highest_6 ?_
  refine lv_icmp_ge (tgt := 47) hx hb dX3_highest_9 (by decide) (fun c_2 => ?_) (fun c_2 => ?_)
  · have hf := it_t c_2 hf
    refine lv_iload_n hx hb dX3_highest_47 rfl (lv_at hl 1 rfl) ?_
    exact hret _ _ _ _ _ _ (Option.some.inj hf) rfl rfl dX3_highest_48 hC
  · have hf := it_f c_2 hf
    refine lv_aload_n hx hb dX3_highest_12 rfl (lv_at hl 0 rfl) ?_
    refine gt_X3_18_listing hx hb hta hown hK hC dX3_highest_13 ?_
    refine lv_iload_n hx hb dX3_highest_16 rfl (lv_at hl 2 rfl) ?_
    obtain ⟨hi_3, hf⟩ := ix_inv hf
    obtain ⟨v_3, e_3, hf⟩ := lt_inv hf
    refine al_X_6 hx hb hK hC hi_3 e_3 dX3_highest_17 ?_
    refine lv_iconst (v := (-1)) hx hb dX3_highest_18 (by decide) ?_
    obtain ⟨k_41, hk_41, hf⟩ := jn_inv1 hf
    have hj_41 : ∀ (x1_4 : Int32) (H : Heap) (locs : List Loc) (ls : Array Slot), k_41 x1_4 = some v → CZ D A s H locs (WX y o σ) → lv_has ls 3 [(0, .ref (o 3)), (1, .int x1_4), (2, .int x2_1)] → W p l e R s m args below meth c H locs 0 0 Q (F0 m 41 ls []) := by
      intro x1_4 H locs ls hf hC hl
      have hf := hk_41 _ hf
      obtain ⟨x2_5, e_5, hf⟩ := lt_inv hf
      refine lv_iinc (v := x2_5) (lv' := [(2, .int x2_5), (0, .ref (o 3)), (1, .int x1_4)]) hx hb dX3_highest_41 hl (k := 2) rfl e_5.symm (by decide) rfl (fun ls hl => ?_)
      refine lv_goto (tgt := 4) hx hb dX3_highest_44 (by decide) ?_
      exact ha_4 _ _ hf _ _ _ hC (lv_sub hl [1, 2, 0] rfl)
    refine lv_icmp_eq (tgt := 41) hx hb dX3_highest_19 (by decide) (fun c_6 => ?_) (fun c_6 => ?_)
    · have hf := it_t c_6 hf
      exact hj_41 _ _ _ _ hf hC hl
    · have hf := it_f c_6 hf
      refine lv_iload_n hx hb dX3_highest_22 rfl (lv_at hl 1 rfl) ?_
      refine lv_aload_n hx hb dX3_highest_23 rfl (lv_at hl 0 rfl) ?_
      refine gt_X3_18_listing hx hb hta hown hK hC dX3_highest_24 ?_
      refine lv_iload_n hx hb dX3_highest_27 rfl (lv_at hl 2 rfl) ?_
      obtain ⟨hi_7, hf⟩ := ix_inv hf
      obtain ⟨v_7, e_7, hf⟩ := lt_inv hf
      refine al_X_6 hx hb hK hC hi_7 e_7 dX3_highest_28 ?_
      refine lv_aload_n hx hb dX3_highest_29 rfl (lv_at hl 0 rfl) ?_
      refine lv_iload_n hx hb dX3_highest_30 rfl (lv_at hl 2 rfl) ?_
      obtain ⟨v_8, hc_8, hf⟩ := calp_inv hf
      refine cc_Vi (r_X3_depthBehind (D := D) (y := y) (o := o) (ad := ad) (av := av) hc_8 l) hx hb hml hta hown hK hN hV hA hC hRc hRs (by omega) (by omega) wq_318 (q := 3) (ci := 3) rfl rfl wq_88 wq_89 wq_27 wq_69 hd_X3_depthBehind (As := [.int x2_1]) (rest := [.int v_7, .int x1_1]) rfl rfl hl.1 rfl dX3_highest_31 (fun H locs hC => ?_)
      obtain ⟨v_9, e_9, hf⟩ := lt_inv hf
      refine cc_max hx hb hml hta hown hRc hRs (by omega) (by omega) wq_337 hl.1 rfl e_9 dX3_highest_34 ?_
      obtain ⟨v_10, e_10, hf⟩ := lt_inv hf
      refine cc_max hx hb hml hta hown hRc hRs (by omega) (by omega) wq_337 hl.1 rfl e_10 dX3_highest_37 ?_
      refine lv_istore_n (lv' := [(1, .int v_10), (0, .ref (o 3)), (2, .int x2_1)]) hx hb dX3_highest_40 rfl hl (by decide) rfl (fun ls hl => ?_)
      exact hj_41 _ _ _ _ hf hC (lv_sub hl [1, 0, 2] rfl)

set_option maxHeartbeats 8000000 in
set_option maxRecDepth 100000 in
theorem r_X1_fullest {D : va_G} {y : Nat → ClassId} {o : Nat → Nat} {ad av : Nat → Nat} {σ : Sto} {v : Int32} (hf : f_X1_fullest σ = some v) (l : Launch) (sz : Nat) : Met l yX1_fullest (Cond.code yX1_fullest cX1_fullest 3 (some .int) :: ALW) { frames := 0, cells := 0, slots := 0, locals := 0 } (va_Pc [.ref (o 48)] (PZ D y ad av (WX y o σ) sz)) (QZi D (WX y o σ) v (WX y o σ) sz) 0 0 (va_A (WX y o σ) sz) := by
  refine met_i (by decide) (Nat.le_of_ble_eq_true rfl) ?_
  intro p e R s m args below meth c Q A ls hx hb hml hta hown hRc hRs hRf hRl hN hK hV hA hret hC hl
  have hl : lv_has ls 3 [(0, .ref (o 48))] := hl
  unfold f_X1_fullest at hf
  refine lv_iconst (v := 0) hx hb dX1_fullest_0 (by decide) ?_
  refine lv_istore_n (lv' := [(1, .int 0), (0, .ref (o 48))]) hx hb dX1_fullest_1 rfl hl (by decide) rfl (fun ls hl => ?_)
  refine lv_iconst (v := 1) hx hb dX1_fullest_2 (by decide) ?_
  refine lv_istore_n (lv' := [(2, .int 1), (1, .int 0), (0, .ref (o 48))]) hx hb dX1_fullest_3 rfl hl (by decide) rfl (fun ls hl => ?_)
  refine itr_inv2 (P := fun (x1_1 : Int32) (x2_1 : Int32) => ∀ (H : Heap) (locs : List Loc) (ls : Array Slot), CZ D A s H locs (WX y o σ) → lv_has ls 3 [(0, .ref (o 48)), (1, .int x1_1), (2, .int x2_1)] → W p l e R s m args below meth c H locs 0 0 Q (F0 m 4 ls [])) hf ?_ _ _ _ hC (lv_sub hl [2, 1, 0] rfl)
  intro a_4 x1_1 x2_1 ha_4 hf H locs ls hC hl
  refine lv_iload_n hx hb dX1_fullest_4 rfl (lv_at hl 2 rfl) ?_
  refine lv_aload_n hx hb dX1_fullest_5 rfl (lv_at hl 0 rfl) ?_
  refine gt_X1_38_lifted hx hb hta hown hK hC dX1_fullest_6 ?_
  refine gt_X1_56_blocks hx hb hta hown hK hC dX1_fullest_9 ?_
  refine lv_icmp_ge (tgt := 56) hx hb dX1_fullest_12 (by decide) (fun c_2 => ?_) (fun c_2 => ?_)
  · have hf := it_t c_2 hf
    refine lv_iload_n hx hb dX1_fullest_56 rfl (lv_at hl 1 rfl) ?_
    exact hret _ _ _ _ _ _ (Option.some.inj hf) rfl rfl dX1_fullest_57 hC
  · have hf := it_f c_2 hf
    refine lv_aload_n hx hb dX1_fullest_15 rfl (lv_at hl 0 rfl) ?_
    refine gt_X1_21_lifted hx hb hta hown hK hC dX1_fullest_16 ?_
    refine lv_iload_n hx hb dX1_fullest_19 rfl (lv_at hl 2 rfl) ?_
    refine lv_iconst (v := 1) hx hb dX1_fullest_20 (by decide) ?_
    refine lv_iadd hx hb dX1_fullest_21 ?_
    obtain ⟨hi_3, hf⟩ := ix_inv hf
    obtain ⟨v_3, e_3, hf⟩ := lt_inv hf
    refine al_X_52 hx hb hK hC hi_3 e_3 dX1_fullest_22 ?_
    refine lv_aload_n hx hb dX1_fullest_23 rfl (lv_at hl 0 rfl) ?_
    refine gt_X1_21_lifted hx hb hta hown hK hC dX1_fullest_24 ?_
    refine lv_iload_n hx hb dX1_fullest_27 rfl (lv_at hl 2 rfl) ?_
    obtain ⟨hi_4, hf⟩ := ix_inv hf
    obtain ⟨v_4, e_4, hf⟩ := lt_inv hf
    refine al_X_52 hx hb hK hC hi_4 e_4 dX1_fullest_28 ?_
    refine lv_isub hx hb dX1_fullest_29 ?_
    refine lv_aload_n hx hb dX1_fullest_30 rfl (lv_at hl 0 rfl) ?_
    refine gt_X1_21_lifted hx hb hta hown hK hC dX1_fullest_31 ?_
    refine lv_iload_n hx hb dX1_fullest_34 rfl (lv_at hl 1 rfl) ?_
    refine lv_iconst (v := 1) hx hb dX1_fullest_35 (by decide) ?_
    refine lv_iadd hx hb dX1_fullest_36 ?_
    obtain ⟨hi_5, hf⟩ := ix_inv hf
    obtain ⟨v_5, e_5, hf⟩ := lt_inv hf
    refine al_X_52 hx hb hK hC hi_5 e_5 dX1_fullest_37 ?_
    refine lv_aload_n hx hb dX1_fullest_38 rfl (lv_at hl 0 rfl) ?_
    refine gt_X1_21_lifted hx hb hta hown hK hC dX1_fullest_39 ?_
    refine lv_iload_n hx hb dX1_fullest_42 rfl (lv_at hl 1 rfl) ?_
    obtain ⟨hi_6, hf⟩ := ix_inv hf
    obtain ⟨v_6, e_6, hf⟩ := lt_inv hf
    refine al_X_52 hx hb hK hC hi_6 e_6 dX1_fullest_43 ?_
    refine lv_isub hx hb dX1_fullest_44 ?_
    obtain ⟨k_50, hk_50, hf⟩ := jn_inv1 hf
    have hj_50 : ∀ (x1_7 : Int32) (H : Heap) (locs : List Loc) (ls : Array Slot), k_50 x1_7 = some v → CZ D A s H locs (WX y o σ) → lv_has ls 3 [(0, .ref (o 48)), (1, .int x1_7), (2, .int x2_1)] → W p l e R s m args below meth c H locs 0 0 Q (F0 m 50 ls []) := by
      intro x1_7 H locs ls hf hC hl
      have hf := hk_50 _ hf
      obtain ⟨x2_8, e_8, hf⟩ := lt_inv hf
      refine lv_iinc (v := x2_8) (lv' := [(2, .int x2_8), (0, .ref (o 48)), (1, .int x1_7)]) hx hb dX1_fullest_50 hl (k := 2) rfl e_8.symm (by decide) rfl (fun ls hl => ?_)
      refine lv_goto (tgt := 4) hx hb dX1_fullest_53 (by decide) ?_
      exact ha_4 _ _ hf _ _ _ hC (lv_sub hl [1, 2, 0] rfl)
    refine lv_icmp_le (tgt := 50) hx hb dX1_fullest_45 (by decide) (fun c_9 => ?_) (fun c_9 => ?_)
    · have hf := it_t c_9 hf
      exact hj_50 _ _ _ _ hf hC hl
    · have hf := it_f c_9 hf
      refine lv_iload_n hx hb dX1_fullest_48 rfl (lv_at hl 2 rfl) ?_
      refine lv_istore_n (lv' := [(1, .int x2_1), (0, .ref (o 48)), (2, .int x2_1)]) hx hb dX1_fullest_49 rfl hl (by decide) rfl (fun ls hl => ?_)
      exact hj_50 _ _ _ _ hf hC (lv_sub hl [1, 0, 2] rfl)

set_option maxHeartbeats 8000000 in
set_option maxRecDepth 100000 in
theorem r_X10_howMany {D : va_G} {y : Nat → ClassId} {o : Nat → Nat} {ad av : Nat → Nat} {σ : Sto} {v : Int32} (hf : f_X10_howMany σ = some v) (l : Launch) (sz : Nat) : Met l yX10_howMany (Cond.code yX10_howMany cX10_howMany 3 (some .int) :: ALW) { frames := 1, cells := 0, slots := 0, locals := 20 } (va_Pc [.ref (o 56)] (PZ D y ad av (WX y o σ) sz)) (QZi D (WX y o σ) v (WX y o σ) sz) 0 0 (va_A (WX y o σ) sz) := by
  refine met_i (by decide) (Nat.le_of_ble_eq_true rfl) ?_
  intro p e R s m args below meth c Q A ls hx hb hml hta hown hRc hRs hRf hRl hN hK hV hA hret hC hl
  have hl : lv_has ls 3 [(0, .ref (o 56))] := hl
  unfold f_X10_howMany at hf
  refine lv_iconst (v := 0) hx hb dX10_howMany_0 (by decide) ?_
  refine lv_istore_n (lv' := [(1, .int 0), (0, .ref (o 56))]) hx hb dX10_howMany_1 rfl hl (by decide) rfl (fun ls hl => ?_)
  refine lv_iconst (v := 0) hx hb dX10_howMany_2 (by decide) ?_
  refine lv_istore_n (lv' := [(2, .int 0), (1, .int 0), (0, .ref (o 56))]) hx hb dX10_howMany_3 rfl hl (by decide) rfl (fun ls hl => ?_)
  refine itr_inv2 (P := fun (x1_1 : Int32) (x2_1 : Int32) => ∀ (H : Heap) (locs : List Loc) (ls : Array Slot), CZ D A s H locs (WX y o σ) → lv_has ls 3 [(0, .ref (o 56)), (1, .int x1_1), (2, .int x2_1)] → W p l e R s m args below meth c H locs 0 0 Q (F0 m 4 ls [])) hf ?_ _ _ _ hC (lv_sub hl [2, 1, 0] rfl)
  intro a_4 x1_1 x2_1 ha_4 hf H locs ls hC hl
  refine lv_iload_n hx hb dX10_howMany_4 rfl (lv_at hl 2 rfl) ?_
  refine lv_bipush (v := 6) hx hb dX10_howMany_5 (by decide) ?_
  refine lv_icmp_ge (tgt := 28) hx hb dX10_howMany_7 (by decide) (fun c_2 => ?_) (fun c_2 => ?_)
  · have hf := it_t c_2 hf
    refine lv_iconst (v := 0) hx hb dX10_howMany_28 (by decide) ?_
    refine lv_istore_n (lv' := [(2, .int 0), (0, .ref (o 56)), (1, .int x1_1)]) hx hb dX10_howMany_29 rfl hl (by decide) rfl (fun ls hl => ?_)
    refine itr_inv2 (P := fun (x1_3 : Int32) (x2_3 : Int32) => ∀ (H : Heap) (locs : List Loc) (ls : Array Slot), CZ D A s H locs (WX y o σ) → lv_has ls 3 [(0, .ref (o 56)), (1, .int x1_3), (2, .int x2_3)] → W p l e R s m args below meth c H locs 0 0 Q (F0 m 30 ls [])) hf ?_ _ _ _ hC (lv_sub hl [1, 2, 0] rfl)
    intro a_30 x1_3 x2_3 ha_30 hf H locs ls hC hl
    refine lv_iload_n hx hb dX10_howMany_30 rfl (lv_at hl 2 rfl) ?_
    refine lv_aload_n hx hb dX10_howMany_31 rfl (lv_at hl 0 rfl) ?_
    refine gt_X10_21_truths hx hb hta hown hK hC dX10_howMany_32 ?_
    refine gt_X10_84_blocks hx hb hta hown hK hC dX10_howMany_35 ?_
    refine lv_icmp_ge (tgt := 59) hx hb dX10_howMany_38 (by decide) (fun c_4 => ?_) (fun c_4 => ?_)
    · have hf := it_t c_4 hf
      refine lv_iconst (v := 0) hx hb dX10_howMany_59 (by decide) ?_
      refine lv_istore_n (lv' := [(2, .int 0), (0, .ref (o 56)), (1, .int x1_3)]) hx hb dX10_howMany_60 rfl hl (by decide) rfl (fun ls hl => ?_)
      refine itr_inv2 (P := fun (x1_5 : Int32) (x2_5 : Int32) => ∀ (H : Heap) (locs : List Loc) (ls : Array Slot), CZ D A s H locs (WX y o σ) → lv_has ls 3 [(0, .ref (o 56)), (1, .int x1_5), (2, .int x2_5)] → W p l e R s m args below meth c H locs 0 0 Q (F0 m 61 ls [])) hf ?_ _ _ _ hC (lv_sub hl [1, 2, 0] rfl)
      intro a_61 x1_5 x2_5 ha_61 hf H locs ls hC hl
      refine lv_iload_n hx hb dX10_howMany_61 rfl (lv_at hl 2 rfl) ?_
      refine lv_aload_n hx hb dX10_howMany_62 rfl (lv_at hl 0 rfl) ?_
      refine gt_X10_29_truths hx hb hta hown hK hC dX10_howMany_63 ?_
      refine gt_X10_87_lifted hx hb hta hown hK hC dX10_howMany_66 ?_
      refine lv_icmp_ge (tgt := 90) hx hb dX10_howMany_69 (by decide) (fun c_6 => ?_) (fun c_6 => ?_)
      · have hf := it_t c_6 hf
        refine lv_iload_n hx hb dX10_howMany_90 rfl (lv_at hl 1 rfl) ?_
        exact hret _ _ _ _ _ _ (Option.some.inj hf) rfl rfl dX10_howMany_91 hC
      · have hf := it_f c_6 hf
        refine lv_iload_n hx hb dX10_howMany_72 rfl (lv_at hl 1 rfl) ?_
        refine lv_aload_n hx hb dX10_howMany_73 rfl (lv_at hl 0 rfl) ?_
        refine gt_X10_18_truths hx hb hta hown hK hC dX10_howMany_74 ?_
        refine lv_iload_n hx hb dX10_howMany_77 rfl (lv_at hl 2 rfl) ?_
        obtain ⟨hi_7, hf⟩ := ix_inv hf
        obtain ⟨v_7, e_7, hf⟩ := lt_inv hf
        refine al_X_59 hx hb hK hC hi_7 e_7 dX10_howMany_78 ?_
        obtain ⟨v_8, hc_8, hf⟩ := calp_inv hf
        refine cc_SiN (r_X11_oneIf (D := D) (y := y) (w := WX y o σ) (ad := ad) (av := av) hc_8 l) hx hb hml hta hown hK hN hV hA hC hRc hRs (by omega) (by omega) (nw_X10_80 hN) wq_744 wq_38 wq_740 hd_X11_oneIf (As := [.int v_7]) (rest := [.int x1_5]) rfl rfl hl.1 rfl dX10_howMany_79 (fun H locs hC => ?_)
        refine lv_iadd hx hb dX10_howMany_82 ?_
        obtain ⟨x1_9, e_9, hf⟩ := lt_inv hf
        refine nmi e_9 ?_
        refine lv_istore_n (lv' := [(1, .int x1_9), (0, .ref (o 56)), (2, .int x2_5)]) hx hb dX10_howMany_83 rfl hl (by decide) rfl (fun ls hl => ?_)
        obtain ⟨x2_10, e_10, hf⟩ := lt_inv hf
        refine lv_iinc (v := x2_10) (lv' := [(2, .int x2_10), (1, .int x1_9), (0, .ref (o 56))]) hx hb dX10_howMany_84 hl (k := 2) rfl e_10.symm (by decide) rfl (fun ls hl => ?_)
        refine lv_goto (tgt := 61) hx hb dX10_howMany_87 (by decide) ?_
        exact ha_61 _ _ hf _ _ _ hC (lv_sub hl [2, 1, 0] rfl)
    · have hf := it_f c_4 hf
      refine lv_iload_n hx hb dX10_howMany_41 rfl (lv_at hl 1 rfl) ?_
      refine lv_aload_n hx hb dX10_howMany_42 rfl (lv_at hl 0 rfl) ?_
      refine gt_X10_15_truths hx hb hta hown hK hC dX10_howMany_43 ?_
      refine lv_iload_n hx hb dX10_howMany_46 rfl (lv_at hl 2 rfl) ?_
      obtain ⟨hi_11, hf⟩ := ix_inv hf
      obtain ⟨v_11, e_11, hf⟩ := lt_inv hf
      refine al_X_58 hx hb hK hC hi_11 e_11 dX10_howMany_47 ?_
      obtain ⟨v_12, hc_12, hf⟩ := calp_inv hf
      refine cc_SiN (r_X11_oneIf (D := D) (y := y) (w := WX y o σ) (ad := ad) (av := av) hc_12 l) hx hb hml hta hown hK hN hV hA hC hRc hRs (by omega) (by omega) (nw_X10_80 hN) wq_744 wq_38 wq_740 hd_X11_oneIf (As := [.int v_11]) (rest := [.int x1_3]) rfl rfl hl.1 rfl dX10_howMany_48 (fun H locs hC => ?_)
      refine lv_iadd hx hb dX10_howMany_51 ?_
      obtain ⟨x1_13, e_13, hf⟩ := lt_inv hf
      refine nmi e_13 ?_
      refine lv_istore_n (lv' := [(1, .int x1_13), (0, .ref (o 56)), (2, .int x2_3)]) hx hb dX10_howMany_52 rfl hl (by decide) rfl (fun ls hl => ?_)
      obtain ⟨x2_14, e_14, hf⟩ := lt_inv hf
      refine lv_iinc (v := x2_14) (lv' := [(2, .int x2_14), (1, .int x1_13), (0, .ref (o 56))]) hx hb dX10_howMany_53 hl (k := 2) rfl e_14.symm (by decide) rfl (fun ls hl => ?_)
      refine lv_goto (tgt := 30) hx hb dX10_howMany_56 (by decide) ?_
      exact ha_30 _ _ hf _ _ _ hC (lv_sub hl [2, 1, 0] rfl)
  · have hf := it_f c_2 hf
    refine lv_iload_n hx hb dX10_howMany_10 rfl (lv_at hl 1 rfl) ?_
    refine lv_aload_n hx hb dX10_howMany_11 rfl (lv_at hl 0 rfl) ?_
    refine gt_X10_9_truths hx hb hta hown hK hC dX10_howMany_12 ?_
    refine lv_iload_n hx hb dX10_howMany_15 rfl (lv_at hl 2 rfl) ?_
    obtain ⟨hi_15, hf⟩ := ix_inv hf
    obtain ⟨v_15, e_15, hf⟩ := lt_inv hf
    refine al_X_57 hx hb hK hC hi_15 e_15 dX10_howMany_16 ?_
    obtain ⟨v_16, hc_16, hf⟩ := calp_inv hf
    refine cc_SiN (r_X11_oneIf (D := D) (y := y) (w := WX y o σ) (ad := ad) (av := av) hc_16 l) hx hb hml hta hown hK hN hV hA hC hRc hRs (by omega) (by omega) (nw_X10_80 hN) wq_744 wq_38 wq_740 hd_X11_oneIf (As := [.int v_15]) (rest := [.int x1_1]) rfl rfl hl.1 rfl dX10_howMany_17 (fun H locs hC => ?_)
    refine lv_iadd hx hb dX10_howMany_20 ?_
    obtain ⟨x1_17, e_17, hf⟩ := lt_inv hf
    refine nmi e_17 ?_
    refine lv_istore_n (lv' := [(1, .int x1_17), (0, .ref (o 56)), (2, .int x2_1)]) hx hb dX10_howMany_21 rfl hl (by decide) rfl (fun ls hl => ?_)
    obtain ⟨x2_18, e_18, hf⟩ := lt_inv hf
    refine lv_iinc (v := x2_18) (lv' := [(2, .int x2_18), (1, .int x1_17), (0, .ref (o 56))]) hx hb dX10_howMany_22 hl (k := 2) rfl e_18.symm (by decide) rfl (fun ls hl => ?_)
    refine lv_goto (tgt := 4) hx hb dX10_howMany_25 (by decide) ?_
    exact ha_4 _ _ hf _ _ _ hC (lv_sub hl [2, 1, 0] rfl)
