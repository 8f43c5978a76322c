set_option maxHeartbeats 8000000 in
set_option maxRecDepth 100000 in
theorem r_X12_endOf {D : va_G} {y : Nat → ClassId} {o : Nat → Nat} {ad av : Nat → Nat} {x1 : Int32} {x2 : Int32} {σ : Sto} {v : Int32} (hf : f_X12_endOf x1 x2 σ = some v) (l : Launch) (sz : Nat) : Met l yX12_endOf (Cond.code yX12_endOf cX12_endOf 4 (some .int) :: ALW) { frames := 0, cells := 0, slots := 0, locals := 0 } (va_Pc [.ref (o 0), .int x1, .int x2] (PZ D y ad av (WM y o σ) sz)) (QZi D (WM y o σ) v (WM y o σ) sz) 0 0 (va_A (WM y o σ) sz) := by
  refine met_i (by decide) (Nat.le_of_ble_eq_true rfl) ?_
  intro p e R s m args below meth c Q A ls hx hb hml hta hown hRc hRs hRf hRl hN hK hV hA hret hC hl
  have hl : lv_has ls 4 [(0, .ref (o 0)), (1, .int x1), (2, .int x2)] := hl
  unfold f_X12_endOf at hf
  refine lv_iconst (v := 0) hx hb dX12_endOf_0 (by decide) ?_
  refine lv_istore_n (lv' := [(3, .int 0), (0, .ref (o 0)), (1, .int x1), (2, .int x2)]) hx hb dX12_endOf_1 rfl hl (by decide) rfl (fun ls hl => ?_)
  refine itr_inv1 (P := fun (x3_1 : Int32) => ∀ (H : Heap) (locs : List Loc) (ls : Array Slot), CZ D A s H locs (WM y o σ) → lv_has ls 4 [(0, .ref (o 0)), (1, .int x1), (2, .int x2), (3, .int x3_1)] → W p l e R s m args below meth c H locs 0 0 Q (F0 m 2 ls [])) hf ?_ _ _ _ hC (lv_sub hl [1, 2, 3, 0] rfl)
  intro a_2 x3_1 ha_2 hf H locs ls hC hl
  refine lv_aload_n hx hb dX12_endOf_2 rfl (lv_at hl 0 rfl) ?_
  refine gt_X12_133_m hx hb hta hown hK hC dX12_endOf_3 ?_
  refine lv_iload_n hx hb dX12_endOf_6 rfl (lv_at hl 3 rfl) ?_
  obtain ⟨hi_2, hf⟩ := ix_inv hf
  obtain ⟨v_2, e_2, hf⟩ := lt_inv hf
  refine al_M_41 hx hb hK hC hi_2 e_2 dX12_endOf_7 ?_
  refine lv_iconst (v := 5) hx hb dX12_endOf_8 (by decide) ?_
  obtain ⟨k_32, hk_32, hf⟩ := jn_inv0 hf
  have hj_32 : ∀  (H : Heap) (locs : List Loc) (ls : Array Slot), k_32 = some v → CZ D A s H locs (WM y o σ) → lv_has ls 4 [(0, .ref (o 0)), (1, .int x1), (2, .int x2), (3, .int x3_1)] → W p l e R s m args below meth c H locs 0 0 Q (F0 m 32 ls []) := by
    intro H locs ls hf hC hl
    have hf := hk_32 hf
    obtain ⟨x3_4, e_4, hf⟩ := lt_inv hf
    refine lv_iinc (v := x3_4) (lv' := [(3, .int x3_4), (0, .ref (o 0)), (1, .int x1), (2, .int x2)]) hx hb dX12_endOf_32 hl (k := 3) rfl e_4.symm (by decide) rfl (fun ls hl => ?_)
    refine lv_goto (tgt := 2) hx hb dX12_endOf_35 (by decide) ?_
    exact ha_2 _ hf _ _ _ hC (lv_sub hl [1, 2, 3, 0] rfl)
  refine lv_icmp_ne (tgt := 32) hx hb dX12_endOf_9 (by decide) (fun c_5 => ?_) (fun c_5 => ?_)
  · have hf := it_f c_5 hf
    exact hj_32 _ _ _ hf hC hl
  · have hf := it_t c_5 hf
    refine lv_aload_n hx hb dX12_endOf_12 rfl (lv_at hl 0 rfl) ?_
    refine gt_X12_142_m hx hb hta hown hK hC dX12_endOf_13 ?_
    refine lv_iload_n hx hb dX12_endOf_16 rfl (lv_at hl 3 rfl) ?_
    obtain ⟨hi_6, hf⟩ := ix_inv hf
    obtain ⟨v_6, e_6, hf⟩ := lt_inv hf
    refine al_M_44 hx hb hK hC hi_6 e_6 dX12_endOf_17 ?_
    refine lv_iload_n hx hb dX12_endOf_18 rfl (lv_at hl 1 rfl) ?_
    refine lv_icmp_ne (tgt := 32) hx hb dX12_endOf_19 (by decide) (fun c_7 => ?_) (fun c_7 => ?_)
    · have hf := it_f c_7 hf
      exact hj_32 _ _ _ hf hC hl
    · have hf := it_t c_7 hf
      refine lv_aload_n hx hb dX12_endOf_22 rfl (lv_at hl 0 rfl) ?_
      refine gt_X12_136_m hx hb hta hown hK hC dX12_endOf_23 ?_
      refine lv_iload_n hx hb dX12_endOf_26 rfl (lv_at hl 3 rfl) ?_
      obtain ⟨hi_8, hf⟩ := ix_inv hf
      obtain ⟨v_8, e_8, hf⟩ := lt_inv hf
      refine al_M_42 hx hb hK hC hi_8 e_8 dX12_endOf_27 ?_
      refine lv_iload_n hx hb dX12_endOf_28 rfl (lv_at hl 2 rfl) ?_
      refine lv_icmp_eq (tgt := 38) hx hb dX12_endOf_29 (by decide) (fun c_9 => ?_) (fun c_9 => ?_)
      · have hf := it_t c_9 hf
        refine lv_iload_n hx hb dX12_endOf_38 rfl (lv_at hl 3 rfl) ?_
        exact hret _ _ _ _ _ _ (Option.some.inj hf) rfl rfl dX12_endOf_39 hC
      · have hf := it_f c_9 hf
        exact hj_32 _ _ _ hf hC hl

set_option maxHeartbeats 8000000 in
set_option maxRecDepth 100000 in
theorem r_X12_lineWith {D : va_G} {y : Nat → ClassId} {o : Nat → Nat} {ad av : Nat → Nat} {x1 : Int32} {x2 : Int32} {σ : Sto} {v : Int32} (hf : f_X12_lineWith x1 x2 σ = some v) (l : Launch) (sz : Nat) : Met l yX12_lineWith (Cond.code yX12_lineWith cX12_lineWith 4 (some .int) :: ALW) { frames := 0, cells := 0, slots := 0, locals := 0 } (va_Pc [.ref (o 0), .int x1, .int x2] (PZ D y ad av (WM y o σ) sz)) (QZi D (WM y o σ) v (WM y o σ) sz) 0 0 (va_A (WM y o σ) sz) := by
  refine met_i (by decide) (Nat.le_of_ble_eq_true rfl) ?_
  intro p e R s m args below meth c Q A ls hx hb hml hta hown hRc hRs hRf hRl hN hK hV hA hret hC hl
  have hl : lv_has ls 4 [(0, .ref (o 0)), (1, .int x1), (2, .int x2)] := hl
  unfold f_X12_lineWith at hf
  refine lv_iconst (v := 0) hx hb dX12_lineWith_0 (by decide) ?_
  refine lv_istore_n (lv' := [(3, .int 0), (0, .ref (o 0)), (1, .int x1), (2, .int x2)]) hx hb dX12_lineWith_1 rfl hl (by decide) rfl (fun ls hl => ?_)
  refine itr_inv1 (P := fun (x3_1 : Int32) => ∀ (H : Heap) (locs : List Loc) (ls : Array Slot), CZ D A s H locs (WM y o σ) → lv_has ls 4 [(0, .ref (o 0)), (1, .int x1), (2, .int x2), (3, .int x3_1)] → W p l e R s m args below meth c H locs 0 0 Q (F0 m 2 ls [])) hf ?_ _ _ _ hC (lv_sub hl [1, 2, 3, 0] rfl)
  intro a_2 x3_1 ha_2 hf H locs ls hC hl
  refine lv_aload_n hx hb dX12_lineWith_2 rfl (lv_at hl 0 rfl) ?_
  refine gt_X12_133_m hx hb hta hown hK hC dX12_lineWith_3 ?_
  refine lv_iload_n hx hb dX12_lineWith_6 rfl (lv_at hl 3 rfl) ?_
  obtain ⟨hi_2, hf⟩ := ix_inv hf
  obtain ⟨v_2, e_2, hf⟩ := lt_inv hf
  refine al_M_41 hx hb hK hC hi_2 e_2 dX12_lineWith_7 ?_
  refine lv_iload_n hx hb dX12_lineWith_8 rfl (lv_at hl 1 rfl) ?_
  obtain ⟨k_22, hk_22, hf⟩ := jn_inv0 hf
  have hj_22 : ∀  (H : Heap) (locs : List Loc) (ls : Array Slot), k_22 = some v → CZ D A s H locs (WM y o σ) → lv_has ls 4 [(0, .ref (o 0)), (1, .int x1), (2, .int x2), (3, .int x3_1)] → W p l e R s m args below meth c H locs 0 0 Q (F0 m 22 ls []) := by
    intro H locs ls hf hC hl
    have hf := hk_22 hf
    obtain ⟨x3_4, e_4, hf⟩ := lt_inv hf
    refine lv_iinc (v := x3_4) (lv' := [(3, .int x3_4), (0, .ref (o 0)), (1, .int x1), (2, .int x2)]) hx hb dX12_lineWith_22 hl (k := 3) rfl e_4.symm (by decide) rfl (fun ls hl => ?_)
    refine lv_goto (tgt := 2) hx hb dX12_lineWith_25 (by decide) ?_
    exact ha_2 _ hf _ _ _ hC (lv_sub hl [1, 2, 3, 0] rfl)
  refine lv_icmp_ne (tgt := 22) hx hb dX12_lineWith_9 (by decide) (fun c_5 => ?_) (fun c_5 => ?_)
  · have hf := it_f c_5 hf
    exact hj_22 _ _ _ hf hC hl
  · have hf := it_t c_5 hf
    refine lv_aload_n hx hb dX12_lineWith_12 rfl (lv_at hl 0 rfl) ?_
    refine gt_X12_136_m hx hb hta hown hK hC dX12_lineWith_13 ?_
    refine lv_iload_n hx hb dX12_lineWith_16 rfl (lv_at hl 3 rfl) ?_
    obtain ⟨hi_6, hf⟩ := ix_inv hf
    obtain ⟨v_6, e_6, hf⟩ := lt_inv hf
    refine al_M_42 hx hb hK hC hi_6 e_6 dX12_lineWith_17 ?_
    refine lv_iload_n hx hb dX12_lineWith_18 rfl (lv_at hl 2 rfl) ?_
    refine lv_icmp_eq (tgt := 28) hx hb dX12_lineWith_19 (by decide) (fun c_7 => ?_) (fun c_7 => ?_)
    · have hf := it_t c_7 hf
      refine lv_iload_n hx hb dX12_lineWith_28 rfl (lv_at hl 3 rfl) ?_
      exact hret _ _ _ _ _ _ (Option.some.inj hf) rfl rfl dX12_lineWith_29 hC
    · have hf := it_f c_7 hf
      exact hj_22 _ _ _ hf hC hl

set_option maxHeartbeats 8000000 in
set_option maxRecDepth 100000 in
theorem r_X12_wayTo {D : va_G} {y : Nat → ClassId} {o : Nat → Nat} {ad av : Nat → Nat} {x1 : Int32} {x2 : Int32} {σ : Sto} {v : Int32} (hf : f_X12_wayTo x1 x2 σ = some v) (l : Launch) (sz : Nat) : Met l yX12_wayTo (Cond.code yX12_wayTo cX12_wayTo 3 (some .int) :: ALW) { frames := 1, cells := 0, slots := 0, locals := 23 } (va_Pc [.ref (o 0), .int x1, .int x2] (PZ D y ad av (WM y o σ) sz)) (QZi D (WM y o σ) v (WM y o σ) sz) 0 0 (va_A (WM y o σ) sz) := by
  refine met_i (by decide) (Nat.le_of_ble_eq_true rfl) ?_
  intro p e R s m args below meth c Q A ls hx hb hml hta hown hRc hRs hRf hRl hN hK hV hA hret hC hl
  have hl : lv_has ls 3 [(0, .ref (o 0)), (1, .int x1), (2, .int x2)] := hl
  unfold f_X12_wayTo at hf
  refine lv_aload_n hx hb dX12_wayTo_0 rfl (lv_at hl 0 rfl) ?_
  refine gt_X12_72_m hx hb hta hown hK hC dX12_wayTo_1 ?_
  refine lv_aload_n hx hb dX12_wayTo_4 rfl (lv_at hl 0 rfl) ?_
  refine lv_iload_n hx hb dX12_wayTo_5 rfl (lv_at hl 1 rfl) ?_
  refine lv_iload_n hx hb dX12_wayTo_6 rfl (lv_at hl 2 rfl) ?_
  obtain ⟨v_1, hc_1, hf⟩ := calp_inv hf
  refine cc_Vi (r_X12_edgeOf (D := D) (y := y) (o := o) (ad := ad) (av := av) hc_1 l) hx hb hml hta hown hK hN hV hA hC hRc hRs (by omega) (by omega) wq_1275 (q := 0) (ci := 12) rfl rfl wq_1276 wq_1277 wq_1012 wq_1265 hd_X12_edgeOf (As := [.int x1, .int x2]) (rest := [.ref (o 21)]) rfl rfl hl.1 rfl dX12_wayTo_7 (fun H locs hC => ?_)
  obtain ⟨hi_2, hf⟩ := ix_inv hf
  obtain ⟨v_2, e_2, hf⟩ := lt_inv hf
  refine al_M_21 hx hb hK hC hi_2 e_2 dX12_wayTo_10 ?_
  refine lv_if_eq (tgt := 23) hx hb dX12_wayTo_11 (by decide) (fun c_3 => ?_) (fun c_3 => ?_)
  · have hf := it_t c_3 hf
    refine lv_aload_n hx hb dX12_wayTo_23 rfl (lv_at hl 0 rfl) ?_
    refine lv_iconst (v := 2) hx hb dX12_wayTo_24 (by decide) ?_
    refine lv_iload_n hx hb dX12_wayTo_25 rfl (lv_at hl 2 rfl) ?_
    obtain ⟨v_4, hc_4, hf⟩ := calp_inv hf
    refine cc_Vi (r_X12_endOf (D := D) (y := y) (o := o) (ad := ad) (av := av) hc_4 l) hx hb hml hta hown hK hN hV hA hC hRc hRs (by omega) (by omega) wq_1553 (q := 0) (ci := 12) rfl rfl wq_1554 wq_1555 wq_1012 wq_1545 hd_X12_endOf (As := [.int 2, .int x2]) (rest := []) rfl rfl hl.1 rfl dX12_wayTo_26 (fun H locs hC => ?_)
    refine lv_iconst (v := 1) hx hb dX12_wayTo_29 (by decide) ?_
    refine lv_iadd hx hb dX12_wayTo_30 ?_
    exact hret _ _ _ _ _ _ (Option.some.inj hf) rfl rfl dX12_wayTo_31 hC
  · have hf := it_f c_3 hf
    refine lv_aload_n hx hb dX12_wayTo_14 rfl (lv_at hl 0 rfl) ?_
    refine lv_iconst (v := 1) hx hb dX12_wayTo_15 (by decide) ?_
    refine lv_iload_n hx hb dX12_wayTo_16 rfl (lv_at hl 2 rfl) ?_
    obtain ⟨v_5, hc_5, hf⟩ := calp_inv hf
    refine cc_Vi (r_X12_lineWith (D := D) (y := y) (o := o) (ad := ad) (av := av) hc_5 l) hx hb hml hta hown hK hN hV hA hC hRc hRs (by omega) (by omega) wq_1548 (q := 0) (ci := 12) rfl rfl wq_1549 wq_1550 wq_1012 wq_1546 hd_X12_lineWith (As := [.int 1, .int x2]) (rest := []) rfl rfl hl.1 rfl dX12_wayTo_17 (fun H locs hC => ?_)
    refine lv_goto (tgt := 31) hx hb dX12_wayTo_20 (by decide) ?_
    exact hret _ _ _ _ _ _ (Option.some.inj hf) rfl rfl dX12_wayTo_31 hC

set_option maxHeartbeats 8000000 in
set_option maxRecDepth 100000 in
theorem r_X12_caughtLine {D : va_G} {y : Nat → ClassId} {o : Nat → Nat} {ad av : Nat → Nat} {x1 : Int32} {x2 : Int32} {σ : Sto} {σ2 : Sto} {v : Int32} (hf : f_X12_caughtLine x1 x2 σ = some (v, σ2)) (l : Launch) (sz : Nat) : Met l yX12_caughtLine (Cond.code yX12_caughtLine cX12_caughtLine 3 (some .int) :: ALW) { frames := 2, cells := 0, slots := 0, locals := 45 } (va_Pc [.ref (o 0), .int x1, .int x2] (PZ D y ad av (WM y o σ) sz)) (QZi D (WM y o σ) v (WM y o σ2) sz) 0 0 (va_A (WM y o σ) sz) := by
  refine met_i (by decide) (Nat.le_of_ble_eq_true rfl) ?_
  intro p e R s m args below meth c Q A ls hx hb hml hta hown hRc hRs hRf hRl hN hK hV hA hret hC hl
  have hl : lv_has ls 3 [(0, .ref (o 0)), (1, .int x1), (2, .int x2)] := hl
  unfold f_X12_caughtLine at hf
  refine lv_aload_n hx hb dX12_caughtLine_0 rfl (lv_at hl 0 rfl) ?_
  refine lv_iconst (v := 0) hx hb dX12_caughtLine_1 (by decide) ?_
  obtain ⟨s_1, e_1, hf⟩ := lt_inv hf
  refine pt_X12_697_m hx hb hta hown hK hC (Or.inl rfl) e_1 dX12_caughtLine_2 (fun H locs hC => ?_)
  refine lv_aload_n hx hb dX12_caughtLine_5 rfl (lv_at hl 0 rfl) ?_
  refine gt_X12_56_m hx hb hta hown hK hC dX12_caughtLine_6 ?_
  refine lv_iload_n hx hb dX12_caughtLine_9 rfl (lv_at hl 1 rfl) ?_
  obtain ⟨hi_2, hf⟩ := ix_inv hf
  obtain ⟨v_2, e_2, hf⟩ := lt_inv hf
  refine al_M_16 hx hb hK hC hi_2 e_2 dX12_caughtLine_10 ?_
  refine lv_iconst (v := (-1)) hx hb dX12_caughtLine_11 (by decide) ?_
  refine lv_icmp_ne (tgt := 30) hx hb dX12_caughtLine_12 (by decide) (fun c_3 => ?_) (fun c_3 => ?_)
  · have hf := it_f c_3 hf
    refine lv_aload_n hx hb dX12_caughtLine_30 rfl (lv_at hl 0 rfl) ?_
    refine gt_X12_163_m hx hb hta hown hK hC dX12_caughtLine_31 ?_
    refine lv_iconst (v := 0) hx hb dX12_caughtLine_34 (by decide) ?_
    refine lv_aload_n hx hb dX12_caughtLine_35 rfl (lv_at hl 0 rfl) ?_
    refine gt_X12_700_m hx hb hta hown hK hC dX12_caughtLine_36 ?_
    obtain ⟨hi_6, hf⟩ := ix_inv hf
    obtain ⟨s_6, e_6, hf⟩ := lt_inv hf
    refine as_M_51 hx hb hK hC hi_6 e_6 dX12_caughtLine_39 (fun H locs hC => ?_)
    refine lv_aload_n hx hb dX12_caughtLine_40 rfl (lv_at hl 0 rfl) ?_
    refine lv_iload_n hx hb dX12_caughtLine_41 rfl (lv_at hl 1 rfl) ?_
    refine lv_aload_n hx hb dX12_caughtLine_42 rfl (lv_at hl 0 rfl) ?_
    refine gt_X12_56_m hx hb hta hown hK hC dX12_caughtLine_43 ?_
    refine lv_iload_n hx hb dX12_caughtLine_46 rfl (lv_at hl 1 rfl) ?_
    obtain ⟨hi_7, hf⟩ := ix_inv hf
    obtain ⟨v_7, e_7, hf⟩ := lt_inv hf
    refine al_M_16 hx hb hK hC hi_7 e_7 dX12_caughtLine_47 ?_
    obtain ⟨v_8, hc_8, hf⟩ := calp_inv hf
    refine cc_Vi (r_X12_wayTo (D := D) (y := y) (o := o) (ad := ad) (av := av) hc_8 l) hx hb hml hta hown hK hN hV hA hC hRc hRs (by omega) (by omega) wq_1556 (q := 0) (ci := 12) rfl rfl wq_1557 wq_1558 wq_1012 wq_1552 hd_X12_wayTo (As := [.int x1, .int v_7]) (rest := []) rfl rfl hl.1 rfl dX12_caughtLine_48 (fun H locs hC => ?_)
    exact hret _ _ _ _ _ _ (rv_inv hf).1 (congrArg (WM y o) (rv_inv hf).2) rfl dX12_caughtLine_51 hC
  · have hf := it_t c_3 hf
    refine lv_aload_n hx hb dX12_caughtLine_15 rfl (lv_at hl 0 rfl) ?_
    refine lv_iconst (v := 1) hx hb dX12_caughtLine_16 (by decide) ?_
    obtain ⟨s_4, e_4, hf⟩ := lt_inv hf
    refine pt_X12_684_m hx hb hta hown hK hC e_4 dX12_caughtLine_17 (fun H locs hC => ?_)
    refine lv_aload_n hx hb dX12_caughtLine_20 rfl (lv_at hl 0 rfl) ?_
    refine lv_aload_n hx hb dX12_caughtLine_21 rfl (lv_at hl 0 rfl) ?_
    refine gt_X12_700_m hx hb hta hown hK hC dX12_caughtLine_22 ?_
    obtain ⟨s_5, e_5, hf⟩ := lt_inv hf
    refine pt_X12_687_m hx hb hta hown hK hC e_5 dX12_caughtLine_25 (fun H locs hC => ?_)
    refine lv_iload_n hx hb dX12_caughtLine_28 rfl (lv_at hl 2 rfl) ?_
    exact hret _ _ _ _ _ _ (rv_inv hf).1 (congrArg (WM y o) (rv_inv hf).2) rfl dX12_caughtLine_29 hC

set_option maxHeartbeats 8000000 in
set_option maxRecDepth 100000 in
theorem r_X12_puts {D : va_G} {y : Nat → ClassId} {o : Nat → Nat} {ad av : Nat → Nat} {x1 : Int32} {x2 : Int32} {σ : Sto} {σ2 : Sto} (hf : f_X12_puts x1 x2 σ = some σ2) (l : Launch) (sz : Nat) : Met l yX12_puts (Cond.code yX12_puts cX12_puts 3 none :: ALW) { frames := 1, cells := 0, slots := 0, locals := 21 } (va_Pc [.ref (o 0), .int x1, .int x2] (PZ D y ad av (WM y o σ) sz)) (QZv D (WM y o σ) (WM y o σ2) sz) 0 0 (va_A (WM y o σ) sz) := by
  refine met_v (by decide) (Nat.le_of_ble_eq_true rfl) ?_
  intro p e R s m args below meth c Q A ls hx hb hml hta hown hRc hRs hRf hRl hN hK hV hA hret hC hl
  have hl : lv_has ls 3 [(0, .ref (o 0)), (1, .int x1), (2, .int x2)] := hl
  unfold f_X12_puts at hf
  refine lv_aload_n hx hb dX12_puts_0 rfl (lv_at hl 0 rfl) ?_
  refine gt_X12_97_m hx hb hta hown hK hC dX12_puts_1 ?_
  refine lv_iload_n hx hb dX12_puts_4 rfl (lv_at hl 1 rfl) ?_
  obtain ⟨hi_1, hf⟩ := ix_inv hf
  obtain ⟨v_1, e_1, hf⟩ := lt_inv hf
  refine al_M_29 hx hb hK hC hi_1 e_1 dX12_puts_5 ?_
  by_cases h_2_0 : v_1.toInt = 0
  · have hf := it_t h_2_0 hf
    refine lv_tab (tgt := 44) hx hb dX12_puts_6 (Or.inr ⟨38, by omega, by omega, by (rw [h_2_0]; decide), by decide⟩) ?_
    refine lv_aload_n hx hb dX12_puts_44 rfl (lv_at hl 0 rfl) ?_
    refine gt_X12_154_m hx hb hta hown hK hC dX12_puts_45 ?_
    refine lv_aload_n hx hb dX12_puts_48 rfl (lv_at hl 0 rfl) ?_
    refine gt_X12_100_m hx hb hta hown hK hC dX12_puts_49 ?_
    refine lv_iload_n hx hb dX12_puts_52 rfl (lv_at hl 1 rfl) ?_
    obtain ⟨hi_3, hf⟩ := ix_inv hf
    obtain ⟨v_3, e_3, hf⟩ := lt_inv hf
    refine al_M_30 hx hb hK hC hi_3 e_3 dX12_puts_53 ?_
    refine lv_iload_n hx hb dX12_puts_54 rfl (lv_at hl 2 rfl) ?_
    obtain ⟨hi_4, hf⟩ := ix_inv hf
    obtain ⟨s_4, e_4, hf⟩ := lt_inv hf
    refine as_M_48 hx hb hK hC hi_4 e_4 dX12_puts_55 (fun H locs hC => ?_)
    exact hret _ _ _ _ _ (congrArg (WM y o) (Option.some.inj hf)) dX12_puts_56 hC
  have hf := it_f h_2_0 hf
  by_cases h_2_1 : v_1.toInt = 1
  · have hf := it_t h_2_1 hf
    refine lv_tab (tgt := 57) hx hb dX12_puts_6 (Or.inr ⟨51, by omega, by omega, by (rw [h_2_1]; decide), by decide⟩) ?_
    refine lv_aload_n hx hb dX12_puts_57 rfl (lv_at hl 0 rfl) ?_
    refine gt_X12_163_m hx hb hta hown hK hC dX12_puts_58 ?_
    refine lv_aload_n hx hb dX12_puts_61 rfl (lv_at hl 0 rfl) ?_
    refine gt_X12_100_m hx hb hta hown hK hC dX12_puts_62 ?_
    refine lv_iload_n hx hb dX12_puts_65 rfl (lv_at hl 1 rfl) ?_
    obtain ⟨hi_5, hf⟩ := ix_inv hf
    obtain ⟨v_5, e_5, hf⟩ := lt_inv hf
    refine al_M_30 hx hb hK hC hi_5 e_5 dX12_puts_66 ?_
    refine lv_iload_n hx hb dX12_puts_67 rfl (lv_at hl 2 rfl) ?_
    obtain ⟨hi_6, hf⟩ := ix_inv hf
    obtain ⟨s_6, e_6, hf⟩ := lt_inv hf
    refine as_M_51 hx hb hK hC hi_6 e_6 dX12_puts_68 (fun H locs hC => ?_)
    exact hret _ _ _ _ _ (congrArg (WM y o) (Option.some.inj hf)) dX12_puts_69 hC
  have hf := it_f h_2_1 hf
  by_cases h_2_2 : v_1.toInt = 2
  · have hf := it_t h_2_2 hf
    refine lv_tab (tgt := 70) hx hb dX12_puts_6 (Or.inr ⟨64, by omega, by omega, by (rw [h_2_2]; decide), by decide⟩) ?_
    refine lv_aload_n hx hb dX12_puts_70 rfl (lv_at hl 0 rfl) ?_
    refine gt_X12_166_m hx hb hta hown hK hC dX12_puts_71 ?_
    refine lv_aload_n hx hb dX12_puts_74 rfl (lv_at hl 0 rfl) ?_
    refine gt_X12_100_m hx hb hta hown hK hC dX12_puts_75 ?_
    refine lv_iload_n hx hb dX12_puts_78 rfl (lv_at hl 1 rfl) ?_
    obtain ⟨hi_7, hf⟩ := ix_inv hf
    obtain ⟨v_7, e_7, hf⟩ := lt_inv hf
    refine al_M_30 hx hb hK hC hi_7 e_7 dX12_puts_79 ?_
    refine lv_iload_n hx hb dX12_puts_80 rfl (lv_at hl 2 rfl) ?_
    obtain ⟨hi_8, hf⟩ := ix_inv hf
    obtain ⟨s_8, e_8, hf⟩ := lt_inv hf
    refine as_M_52 hx hb hK hC hi_8 e_8 dX12_puts_81 (fun H locs hC => ?_)
    exact hret _ _ _ _ _ (congrArg (WM y o) (Option.some.inj hf)) dX12_puts_82 hC
  have hf := it_f h_2_2 hf
  by_cases h_2_3 : v_1.toInt = 3
  · have hf := it_t h_2_3 hf
    refine lv_tab (tgt := 83) hx hb dX12_puts_6 (Or.inr ⟨77, by omega, by omega, by (rw [h_2_3]; decide), by decide⟩) ?_
    refine lv_aload_n hx hb dX12_puts_83 rfl (lv_at hl 0 rfl) ?_
    refine lv_iload_n hx hb dX12_puts_84 rfl (lv_at hl 2 rfl) ?_
    obtain ⟨s_9, hc_9, hf⟩ := cals_inv hf
    refine cc_Vv (r_X12_outputs (D := D) (y := y) (o := o) (ad := ad) (av := av) hc_9 l) hx hb hml hta hown hK hN hV hA hC hRc hRs (by omega) (by omega) wq_1524 (q := 0) (ci := 12) rfl rfl wq_1525 wq_1526 wq_1012 wq_1510 hd_X12_outputs (As := [.int x2]) (rest := []) rfl rfl hl.1 rfl dX12_puts_85 (fun H locs hC => ?_)
    exact hret _ _ _ _ _ (congrArg (WM y o) (Option.some.inj hf)) dX12_puts_88 hC
  have hf := it_f h_2_3 hf
  by_cases h_2_4 : v_1.toInt = 5
  · have hf := it_t h_2_4 hf
    refine lv_tab (tgt := 89) hx hb dX12_puts_6 (Or.inr ⟨83, by omega, by omega, by (rw [h_2_4]; decide), by decide⟩) ?_
    refine lv_aload_n hx hb dX12_puts_89 rfl (lv_at hl 0 rfl) ?_
    refine lv_iload_n hx hb dX12_puts_90 rfl (lv_at hl 2 rfl) ?_
    obtain ⟨s_10, hc_10, hf⟩ := cals_inv hf
    refine cc_Vv (r_X12_throwsIt (D := D) (y := y) (o := o) (ad := ad) (av := av) hc_10 l) hx hb hml hta hown hK hN hV hA hC hRc hRs (by omega) (by omega) wq_1516 (q := 0) (ci := 12) rfl rfl wq_1517 wq_1518 wq_1012 wq_1512 hd_X12_throwsIt (As := [.int x2]) (rest := []) rfl rfl hl.1 rfl dX12_puts_91 (fun H locs hC => ?_)
    exact hret _ _ _ _ _ (congrArg (WM y o) (Option.some.inj hf)) dX12_puts_94 hC
  have hf := it_f h_2_4 hf
  refine lv_tab (tgt := 95) hx hb dX12_puts_6 (by rcases (show (v_1.toInt < 0 ∨ 5 < v_1.toInt ∨ v_1.toInt = 4) by omega) with h | h | h; exact Or.inl ⟨Or.inl h, by decide⟩; exact Or.inl ⟨Or.inr h, by decide⟩; all_goals exact Or.inr ⟨89, by omega, by omega, by rw [h]; decide, by decide⟩) ?_
  exact hret _ _ _ _ _ (congrArg (WM y o) (Option.some.inj hf)) dX12_puts_95 hC

set_option maxHeartbeats 8000000 in
set_option maxRecDepth 100000 in
theorem r_X12_states_ {D : va_G} {y : Nat → ClassId} {o : Nat → Nat} {ad av : Nat → Nat} {x1 : Int32} {x2 : Int32} {σ : Sto} {σ2 : Sto} {v : Int32} (hf : f_X12_states_ x1 x2 σ = some (v, σ2)) (l : Launch) (sz : Nat) : Met l yX12_states_ (Cond.code yX12_states_ cX12_states_ 5 (some .int) :: ALW) { frames := 253, cells := 0, slots := 0, locals := 5817 } (va_Pc [.ref (o 0), .int x1, .int x2] (PZ D y ad av (WM y o σ) sz)) (QZi D (WM y o σ) v (WM y o σ2) sz) 0 0 (va_A (WM y o σ) sz) := by
  refine met_i (by decide) (Nat.le_of_ble_eq_true rfl) ?_
  intro p e R s m args below meth c Q A ls hx hb hml hta hown hRc hRs hRf hRl hN hK hV hA hret hC hl
  have hl : lv_has ls 5 [(0, .ref (o 0)), (1, .int x1), (2, .int x2)] := hl
  unfold f_X12_states_ at hf
  refine lv_aload_n hx hb dX12_states__0 rfl (lv_at hl 0 rfl) ?_
  refine gt_X12_103_m hx hb hta hown hK hC dX12_states__1 ?_
  refine lv_iload_n hx hb dX12_states__4 rfl (lv_at hl 1 rfl) ?_
  obtain ⟨hi_1, hf⟩ := ix_inv hf
  obtain ⟨v_1, e_1, hf⟩ := lt_inv hf
  refine al_M_31 hx hb hK hC hi_1 e_1 dX12_states__5 ?_
  refine lv_istore_n (lv' := [(3, .int v_1), (0, .ref (o 0)), (1, .int x1), (2, .int x2)]) hx hb dX12_states__6 rfl hl (by decide) rfl (fun ls hl => ?_)
  refine lv_aload_n hx hb dX12_states__7 rfl (lv_at hl 1 rfl) ?_
  refine gt_X12_97_m hx hb hta hown hK hC dX12_states__8 ?_
  refine lv_iload_n hx hb dX12_states__11 rfl (lv_at hl 2 rfl) ?_
  obtain ⟨hi_2, hf⟩ := ix_inv hf
  obtain ⟨v_2, e_2, hf⟩ := lt_inv hf
  refine al_M_29 hx hb hK hC hi_2 e_2 dX12_states__12 ?_
  refine lv_bipush (v := 6) hx hb dX12_states__13 (by decide) ?_
  refine lv_icmp_ne (tgt := 25) hx hb dX12_states__15 (by decide) (fun c_3 => ?_) (fun c_3 => ?_)
  · have hf := it_f c_3 hf
    refine lv_aload_n hx hb dX12_states__25 rfl (lv_at hl 1 rfl) ?_
    refine lv_iload_n hx hb dX12_states__26 rfl (lv_at hl 0 rfl) ?_
    obtain ⟨v_5, s_5, hc_5, hf⟩ := calv_inv hf
    refine cc_Vi (r_X12_valueOf 250 (D := D) (y := y) (o := o) (ad := ad) (av := av) hc_5 l) hx hb hml hta hown hK hN hV hA hC hRc hRs (by omega) (by omega) wq_1541 (q := 0) (ci := 12) rfl rfl wq_1542 wq_1543 wq_1012 wq_1544 hd_X12_valueOf (As := [.int v_1]) (rest := []) rfl rfl hl.1 rfl dX12_states__27 (fun H locs hC => ?_)
    refine lv_istore (lv' := [(4, .int v_5), (3, .int v_1), (0, .ref (o 0)), (1, .int x1), (2, .int x2)]) hx hb dX12_states__30 hl (by decide) rfl (fun ls hl => ?_)
    refine lv_aload_n hx hb dX12_states__32 rfl (lv_at hl 2 rfl) ?_
    refine gt_X12_697_m hx hb hta hown hK hC dX12_states__33 ?_
    obtain ⟨k_46, hk_46, hf⟩ := jn_inv1 hf
    have hj_46 : ∀ (s_6 : Sto) (H : Heap) (locs : List Loc) (ls : Array Slot), k_46 s_6 = some (v, σ2) → CZ D A s H locs (WM y o s_6) → lv_has ls 5 [(0, .ref (o 0)), (2, .int x2)] → W p l e R s m args below meth c H locs 0 0 Q (F0 m 46 ls []) := by
      intro s_6 H locs ls hf hC hl
      have hf := hk_46 _ hf
      refine lv_aload_n hx hb dX12_states__46 rfl (lv_at hl 0 rfl) ?_
      refine gt_X12_697_m hx hb hta hown hK hC dX12_states__47 ?_
      refine lv_if_eq (tgt := 67) hx hb dX12_states__50 (by decide) (fun c_7 => ?_) (fun c_7 => ?_)
      · have hf := it_t c_7 hf
        refine lv_iload_n hx hb dX12_states__67 rfl (lv_at hl 1 rfl) ?_
        refine lv_iconst (v := 1) hx hb dX12_states__68 (by decide) ?_
        refine lv_iadd hx hb dX12_states__69 ?_
        exact hret _ _ _ _ _ _ (rv_inv hf).1 (congrArg (WM y o) (rv_inv hf).2) rfl dX12_states__70 hC
      · have hf := it_f c_7 hf
        refine lv_aload_n hx hb dX12_states__53 rfl (lv_at hl 0 rfl) ?_
        refine lv_aload_n hx hb dX12_states__54 rfl (lv_at hl 0 rfl) ?_
        refine gt_X12_136_m hx hb hta hown hK hC dX12_states__55 ?_
        refine lv_iload_n hx hb dX12_states__58 rfl (lv_at hl 1 rfl) ?_
        obtain ⟨hi_8, hf⟩ := ix_inv hf
        obtain ⟨v_8, e_8, hf⟩ := lt_inv hf
        refine al_M_42 hx hb hK hC hi_8 e_8 dX12_states__59 ?_
        refine lv_iload_n hx hb dX12_states__60 rfl (lv_at hl 1 rfl) ?_
        obtain ⟨v_9, s_9, hc_9, hf⟩ := calv_inv hf
        refine cc_Vi (r_X12_caughtLine (D := D) (y := y) (o := o) (ad := ad) (av := av) hc_9 l) hx hb hml hta hown hK hN hV hA hC hRc hRs (by omega) (by omega) wq_1563 (q := 0) (ci := 12) rfl rfl wq_1564 wq_1565 wq_1012 wq_1559 hd_X12_caughtLine (As := [.int v_8, .int x2]) (rest := []) rfl rfl hl.1 rfl dX12_states__61 (fun H locs hC => ?_)
        refine lv_goto (tgt := 70) hx hb dX12_states__64 (by decide) ?_
        exact hret _ _ _ _ _ _ (rv_inv hf).1 (congrArg (WM y o) (rv_inv hf).2) rfl dX12_states__70 hC
    refine lv_if_ne (tgt := 46) hx hb dX12_states__36 (by decide) (fun c_10 => ?_) (fun c_10 => ?_)
    · have hf := it_f c_10 hf
      exact hj_46 _ _ _ _ hf hC (lv_sub hl [2, 4] rfl)
    · have hf := it_t c_10 hf
      refine lv_aload_n hx hb dX12_states__39 rfl (lv_at hl 2 rfl) ?_
      refine lv_iload_n hx hb dX12_states__40 rfl (lv_at hl 3 rfl) ?_
      refine lv_iload hx hb dX12_states__41 (lv_at hl 0 rfl) ?_
      obtain ⟨s_11, hc_11, hf⟩ := cals_inv hf
      refine cc_Vv (r_X12_puts (D := D) (y := y) (o := o) (ad := ad) (av := av) hc_11 l) hx hb hml hta hown hK hN hV hA hC hRc hRs (by omega) (by omega) wq_1560 (q := 0) (ci := 12) rfl rfl wq_1561 wq_1562 wq_1012 wq_1551 hd_X12_puts (As := [.int x1, .int v_5]) (rest := []) rfl rfl hl.1 rfl dX12_states__43 (fun H locs hC => ?_)
      exact hj_46 _ _ _ _ hf hC (lv_sub hl [2, 4] rfl)
  · have hf := it_t c_3 hf
    refine lv_aload_n hx hb dX12_states__18 rfl (lv_at hl 1 rfl) ?_
    refine lv_iconst (v := 0) hx hb dX12_states__19 (by decide) ?_
    obtain ⟨s_4, e_4, hf⟩ := lt_inv hf
    refine pt_X12_684_m hx hb hta hown hK hC e_4 dX12_states__20 (fun H locs hC => ?_)
    refine lv_iload_n hx hb dX12_states__23 rfl (lv_at hl 3 rfl) ?_
    exact hret _ _ _ _ _ _ (rv_inv hf).1 (congrArg (WM y o) (rv_inv hf).2) rfl dX12_states__24 hC

set_option maxHeartbeats 8000000 in
set_option maxRecDepth 100000 in
theorem r_X12_otherwiseOf {D : va_G} {y : Nat → ClassId} {o : Nat → Nat} {ad av : Nat → Nat} {x1 : Int32} {σ : Sto} {v : Int32} (hf : f_X12_otherwiseOf x1 σ = some v) (l : Launch) (sz : Nat) : Met l yX12_otherwiseOf (Cond.code yX12_otherwiseOf cX12_otherwiseOf 3 (some .int) :: ALW) { frames := 1, cells := 0, slots := 0, locals := 23 } (va_Pc [.ref (o 0), .int x1] (PZ D y ad av (WM y o σ) sz)) (QZi D (WM y o σ) v (WM y o σ) sz) 0 0 (va_A (WM y o σ) sz) := by
  refine met_i (by decide) (Nat.le_of_ble_eq_true rfl) ?_
  intro p e R s m args below meth c Q A ls hx hb hml hta hown hRc hRs hRf hRl hN hK hV hA hret hC hl
  have hl : lv_has ls 3 [(0, .ref (o 0)), (1, .int x1)] := hl
  unfold f_X12_otherwiseOf at hf
  refine lv_aload_n hx hb dX12_otherwiseOf_0 rfl (lv_at hl 0 rfl) ?_
  refine lv_iconst (v := 3) hx hb dX12_otherwiseOf_1 (by decide) ?_
  refine lv_iload_n hx hb dX12_otherwiseOf_2 rfl (lv_at hl 1 rfl) ?_
  obtain ⟨v_1, hc_1, hf⟩ := calp_inv hf
  refine cc_Vi (r_X12_lineWith (D := D) (y := y) (o := o) (ad := ad) (av := av) hc_1 l) hx hb hml hta hown hK hN hV hA hC hRc hRs (by omega) (by omega) wq_1548 (q := 0) (ci := 12) rfl rfl wq_1549 wq_1550 wq_1012 wq_1546 hd_X12_lineWith (As := [.int 3, .int x1]) (rest := []) rfl rfl hl.1 rfl dX12_otherwiseOf_3 (fun H locs hC => ?_)
  refine lv_iconst (v := 1) hx hb dX12_otherwiseOf_6 (by decide) ?_
  refine lv_iadd hx hb dX12_otherwiseOf_7 ?_
  obtain ⟨x2_2, e_2, hf⟩ := lt_inv hf
  refine nmi e_2 ?_
  refine lv_istore_n (lv' := [(2, .int x2_2), (0, .ref (o 0)), (1, .int x1)]) hx hb dX12_otherwiseOf_8 rfl hl (by decide) rfl (fun ls hl => ?_)
  refine itr_inv1 (P := fun (x2_3 : Int32) => ∀ (H : Heap) (locs : List Loc) (ls : Array Slot), CZ D A s H locs (WM y o σ) → lv_has ls 3 [(0, .ref (o 0)), (1, .int x1), (2, .int x2_3)] → W p l e R s m args below meth c H locs 0 0 Q (F0 m 9 ls [])) hf ?_ _ _ _ hC (lv_sub hl [1, 2, 0] rfl)
  intro a_9 x2_3 ha_9 hf H locs ls hC hl
  refine lv_aload_n hx hb dX12_otherwiseOf_9 rfl (lv_at hl 0 rfl) ?_
  refine gt_X12_133_m hx hb hta hown hK hC dX12_otherwiseOf_10 ?_
  refine lv_iload_n hx hb dX12_otherwiseOf_13 rfl (lv_at hl 2 rfl) ?_
  obtain ⟨hi_4, hf⟩ := ix_inv hf
  obtain ⟨v_4, e_4, hf⟩ := lt_inv hf
  refine al_M_41 hx hb hK hC hi_4 e_4 dX12_otherwiseOf_14 ?_
  refine lv_iconst (v := 4) hx hb dX12_otherwiseOf_15 (by decide) ?_
  obtain ⟨k_65, hk_65, hf⟩ := jn_inv0 hf
  have hj_65 : ∀  (H : Heap) (locs : List Loc) (ls : Array Slot), k_65 = some v → CZ D A s H locs (WM y o σ) → lv_has ls 3 [(2, .int x2_3)] → W p l e R s m args below meth c H locs 0 0 Q (F0 m 65 ls []) := by
    intro H locs ls hf hC hl
    have hf := hk_65 hf
    refine lv_iload_n hx hb dX12_otherwiseOf_65 rfl (lv_at hl 0 rfl) ?_
    refine lv_iconst (v := 1) hx hb dX12_otherwiseOf_66 (by decide) ?_
    refine lv_iadd hx hb dX12_otherwiseOf_67 ?_
    exact hret _ _ _ _ _ _ (Option.some.inj hf) rfl rfl dX12_otherwiseOf_68 hC
  obtain ⟨k_29, hk_29, hf⟩ := jn_inv0 hf
  have hj_29 : ∀  (H : Heap) (locs : List Loc) (ls : Array Slot), k_29 = some v → CZ D A s H locs (WM y o σ) → lv_has ls 3 [(0, .ref (o 0)), (1, .int x1), (2, .int x2_3)] → W p l e R s m args below meth c H locs 0 0 Q (F0 m 29 ls []) := by
    intro H locs ls hf hC hl
    have hf := hk_29 hf
    refine lv_aload_n hx hb dX12_otherwiseOf_29 rfl (lv_at hl 0 rfl) ?_
    refine gt_X12_133_m hx hb hta hown hK hC dX12_otherwiseOf_30 ?_
    refine lv_iload_n hx hb dX12_otherwiseOf_33 rfl (lv_at hl 2 rfl) ?_
    obtain ⟨hi_7, hf⟩ := ix_inv hf
    obtain ⟨v_7, e_7, hf⟩ := lt_inv hf
    refine al_M_41 hx hb hK hC hi_7 e_7 dX12_otherwiseOf_34 ?_
    refine lv_iconst (v := 5) hx hb dX12_otherwiseOf_35 (by decide) ?_
    obtain ⟨k_59, hk_59, hf⟩ := jn_inv0 hf
    have hj_59 : ∀  (H : Heap) (locs : List Loc) (ls : Array Slot), k_59 = some v → CZ D A s H locs (WM y o σ) → lv_has ls 3 [(0, .ref (o 0)), (1, .int x1), (2, .int x2_3)] → W p l e R s m args below meth c H locs 0 0 Q (F0 m 59 ls []) := by
      intro H locs ls hf hC hl
      have hf := hk_59 hf
      obtain ⟨x2_9, e_9, hf⟩ := lt_inv hf
      refine lv_iinc (v := x2_9) (lv' := [(2, .int x2_9), (0, .ref (o 0)), (1, .int x1)]) hx hb dX12_otherwiseOf_59 hl (k := 2) rfl e_9.symm (by decide) rfl (fun ls hl => ?_)
      refine lv_goto (tgt := 9) hx hb dX12_otherwiseOf_62 (by decide) ?_
      exact ha_9 _ hf _ _ _ hC (lv_sub hl [1, 2, 0] rfl)
    refine lv_icmp_ne (tgt := 59) hx hb dX12_otherwiseOf_36 (by decide) (fun c_10 => ?_) (fun c_10 => ?_)
    · have hf := it_f c_10 hf
      exact hj_59 _ _ _ hf hC hl
    · have hf := it_t c_10 hf
      refine lv_aload_n hx hb dX12_otherwiseOf_39 rfl (lv_at hl 0 rfl) ?_
      refine gt_X12_142_m hx hb hta hown hK hC dX12_otherwiseOf_40 ?_
      refine lv_iload_n hx hb dX12_otherwiseOf_43 rfl (lv_at hl 2 rfl) ?_
      obtain ⟨hi_11, hf⟩ := ix_inv hf
      obtain ⟨v_11, e_11, hf⟩ := lt_inv hf
      refine al_M_44 hx hb hK hC hi_11 e_11 dX12_otherwiseOf_44 ?_
      refine lv_iconst (v := 3) hx hb dX12_otherwiseOf_45 (by decide) ?_
      refine lv_icmp_ne (tgt := 59) hx hb dX12_otherwiseOf_46 (by decide) (fun c_12 => ?_) (fun c_12 => ?_)
      · have hf := it_f c_12 hf
        exact hj_59 _ _ _ hf hC hl
      · have hf := it_t c_12 hf
        refine lv_aload_n hx hb dX12_otherwiseOf_49 rfl (lv_at hl 0 rfl) ?_
        refine gt_X12_136_m hx hb hta hown hK hC dX12_otherwiseOf_50 ?_
        refine lv_iload_n hx hb dX12_otherwiseOf_53 rfl (lv_at hl 2 rfl) ?_
        obtain ⟨hi_13, hf⟩ := ix_inv hf
        obtain ⟨v_13, e_13, hf⟩ := lt_inv hf
        refine al_M_42 hx hb hK hC hi_13 e_13 dX12_otherwiseOf_54 ?_
        refine lv_iload_n hx hb dX12_otherwiseOf_55 rfl (lv_at hl 1 rfl) ?_
        refine lv_icmp_eq (tgt := 65) hx hb dX12_otherwiseOf_56 (by decide) (fun c_14 => ?_) (fun c_14 => ?_)
        · have hf := it_t c_14 hf
          exact hj_65 _ _ _ hf hC (lv_sub hl [2] rfl)
        · have hf := it_f c_14 hf
          exact hj_59 _ _ _ hf hC hl
  refine lv_icmp_ne (tgt := 29) hx hb dX12_otherwiseOf_16 (by decide) (fun c_15 => ?_) (fun c_15 => ?_)
  · have hf := it_f c_15 hf
    exact hj_29 _ _ _ hf hC hl
  · have hf := it_t c_15 hf
    refine lv_aload_n hx hb dX12_otherwiseOf_19 rfl (lv_at hl 0 rfl) ?_
    refine gt_X12_136_m hx hb hta hown hK hC dX12_otherwiseOf_20 ?_
    refine lv_iload_n hx hb dX12_otherwiseOf_23 rfl (lv_at hl 2 rfl) ?_
    obtain ⟨hi_16, hf⟩ := ix_inv hf
    obtain ⟨v_16, e_16, hf⟩ := lt_inv hf
    refine al_M_42 hx hb hK hC hi_16 e_16 dX12_otherwiseOf_24 ?_
    refine lv_iload_n hx hb dX12_otherwiseOf_25 rfl (lv_at hl 1 rfl) ?_
    refine lv_icmp_eq (tgt := 65) hx hb dX12_otherwiseOf_26 (by decide) (fun c_17 => ?_) (fun c_17 => ?_)
    · have hf := it_t c_17 hf
      exact hj_65 _ _ _ hf hC (lv_sub hl [2] rfl)
    · have hf := it_f c_17 hf
      exact hj_29 _ _ _ hf hC hl

set_option maxHeartbeats 8000000 in
set_option maxRecDepth 100000 in
theorem r_X12_nextLine {D : va_G} {y : Nat → ClassId} {o : Nat → Nat} {ad av : Nat → Nat} {x1 : Int32} {σ : Sto} {σ2 : Sto} {v : Int32} (hf : f_X12_nextLine x1 σ = some (v, σ2)) (l : Launch) (sz : Nat) : Met l yX12_nextLine (Cond.code yX12_nextLine cX12_nextLine 3 (some .int) :: ALW) { frames := 254, cells := 0, slots := 0, locals := 5841 } (va_Pc [.ref (o 0), .int x1] (PZ D y ad av (WM y o σ) sz)) (QZi D (WM y o σ) v (WM y o σ2) sz) 0 0 (va_A (WM y o σ) sz) := by
  refine met_i (by decide) (Nat.le_of_ble_eq_true rfl) ?_
  intro p e R s m args below meth c Q A ls hx hb hml hta hown hRc hRs hRf hRl hN hK hV hA hret hC hl
  have hl : lv_has ls 3 [(0, .ref (o 0)), (1, .int x1)] := hl
  unfold f_X12_nextLine at hf
  refine lv_aload_n hx hb dX12_nextLine_0 rfl (lv_at hl 0 rfl) ?_
  refine gt_X12_136_m hx hb hta hown hK hC dX12_nextLine_1 ?_
  refine lv_iload_n hx hb dX12_nextLine_4 rfl (lv_at hl 1 rfl) ?_
  obtain ⟨hi_1, hf⟩ := ix_inv hf
  obtain ⟨v_1, e_1, hf⟩ := lt_inv hf
  refine al_M_42 hx hb hK hC hi_1 e_1 dX12_nextLine_5 ?_
  refine lv_istore_n (lv' := [(2, .int v_1), (0, .ref (o 0)), (1, .int x1)]) hx hb dX12_nextLine_6 rfl hl (by decide) rfl (fun ls hl => ?_)
  refine lv_aload_n hx hb dX12_nextLine_7 rfl (lv_at hl 1 rfl) ?_
  refine gt_X12_133_m hx hb hta hown hK hC dX12_nextLine_8 ?_
  refine lv_iload_n hx hb dX12_nextLine_11 rfl (lv_at hl 2 rfl) ?_
  obtain ⟨hi_2, hf⟩ := ix_inv hf
  obtain ⟨v_2, e_2, hf⟩ := lt_inv hf
  refine al_M_41 hx hb hK hC hi_2 e_2 dX12_nextLine_12 ?_
  by_cases h_3_0 : v_2.toInt = 0
  · have hf := it_t h_3_0 hf
    refine lv_tab (tgt := 76) hx hb dX12_nextLine_13 (Or.inr ⟨63, by omega, by omega, by (rw [h_3_0]; decide), by decide⟩) ?_
    refine lv_aload_n hx hb dX12_nextLine_76 rfl (lv_at hl 1 rfl) ?_
    refine lv_aload_n hx hb dX12_nextLine_77 rfl (lv_at hl 1 rfl) ?_
    refine gt_X12_142_m hx hb hta hown hK hC dX12_nextLine_78 ?_
    refine lv_iload_n hx hb dX12_nextLine_81 rfl (lv_at hl 2 rfl) ?_
    obtain ⟨hi_4, hf⟩ := ix_inv hf
    obtain ⟨v_4, e_4, hf⟩ := lt_inv hf
    refine al_M_44 hx hb hK hC hi_4 e_4 dX12_nextLine_82 ?_
    refine lv_iload_n hx hb dX12_nextLine_83 rfl (lv_at hl 2 rfl) ?_
    obtain ⟨v_5, s_5, hc_5, hf⟩ := calv_inv hf
    refine cc_Vi (r_X12_states_ (D := D) (y := y) (o := o) (ad := ad) (av := av) hc_5 l) hx hb hml hta hown hK hN hV hA hC hRc hRs (by omega) (by omega) wq_1567 (q := 0) (ci := 12) rfl rfl wq_1568 wq_1569 wq_1012 wq_1566 hd_X12_states_ (As := [.int v_4, .int x1]) (rest := []) rfl rfl hl.1 rfl dX12_nextLine_84 (fun H locs hC => ?_)
    exact hret _ _ _ _ _ _ (rv_inv hf).1 (congrArg (WM y o) (rv_inv hf).2) rfl dX12_nextLine_87 hC
  have hf := it_f h_3_0 hf
  by_cases h_3_1 : v_2.toInt = 3
  · have hf := it_t h_3_1 hf
    refine lv_tab (tgt := 88) hx hb dX12_nextLine_13 (Or.inr ⟨75, by omega, by omega, by (rw [h_3_1]; decide), by decide⟩) ?_
    refine lv_aload_n hx hb dX12_nextLine_88 rfl (lv_at hl 1 rfl) ?_
    refine lv_aload_n hx hb dX12_nextLine_89 rfl (lv_at hl 1 rfl) ?_
    refine gt_X12_109_m hx hb hta hown hK hC dX12_nextLine_90 ?_
    refine lv_iload_n hx hb dX12_nextLine_93 rfl (lv_at hl 0 rfl) ?_
    obtain ⟨hi_6, hf⟩ := ix_inv hf
    obtain ⟨v_6, e_6, hf⟩ := lt_inv hf
    refine al_M_33 hx hb hK hC hi_6 e_6 dX12_nextLine_94 ?_
    obtain ⟨v_7, s_7, hc_7, hf⟩ := calv_inv hf
    refine cc_Vi (r_X12_valueOf 250 (D := D) (y := y) (o := o) (ad := ad) (av := av) hc_7 l) hx hb hml hta hown hK hN hV hA hC hRc hRs (by omega) (by omega) wq_1541 (q := 0) (ci := 12) rfl rfl wq_1542 wq_1543 wq_1012 wq_1544 hd_X12_valueOf (As := [.int v_6]) (rest := []) rfl rfl hl.1 rfl dX12_nextLine_95 (fun H locs hC => ?_)
    refine lv_if_eq (tgt := 107) hx hb dX12_nextLine_98 (by decide) (fun c_8 => ?_) (fun c_8 => ?_)
    · have hf := it_t c_8 hf
      refine lv_aload_n hx hb dX12_nextLine_107 rfl (lv_at hl 1 rfl) ?_
      refine lv_iload_n hx hb dX12_nextLine_108 rfl (lv_at hl 0 rfl) ?_
      obtain ⟨v_9, hc_9, hf⟩ := calp_inv hf
      refine cc_Vi (r_X12_otherwiseOf (D := D) (y := y) (o := o) (ad := ad) (av := av) hc_9 l) hx hb hml hta hown hK hN hV hA hC hRc hRs (by omega) (by omega) wq_1570 (q := 0) (ci := 12) rfl rfl wq_1571 wq_1572 wq_1012 wq_1547 hd_X12_otherwiseOf (As := [.int v_1]) (rest := []) rfl rfl hl.1 rfl dX12_nextLine_109 (fun H locs hC => ?_)
      exact hret _ _ _ _ _ _ (rv_inv hf).1 (congrArg (WM y o) (rv_inv hf).2) rfl dX12_nextLine_112 hC
    · have hf := it_f c_8 hf
      refine lv_iload_n hx hb dX12_nextLine_101 rfl (lv_at hl 2 rfl) ?_
      refine lv_iconst (v := 1) hx hb dX12_nextLine_102 (by decide) ?_
      refine lv_iadd hx hb dX12_nextLine_103 ?_
      refine lv_goto (tgt := 112) hx hb dX12_nextLine_104 (by decide) ?_
      exact hret _ _ _ _ _ _ (rv_inv hf).1 (congrArg (WM y o) (rv_inv hf).2) rfl dX12_nextLine_112 hC
  have hf := it_f h_3_1 hf
  by_cases h_3_2 : v_2.toInt = 4
  · have hf := it_t h_3_2 hf
    refine lv_tab (tgt := 113) hx hb dX12_nextLine_13 (Or.inr ⟨100, by omega, by omega, by (rw [h_3_2]; decide), by decide⟩) ?_
    refine lv_aload_n hx hb dX12_nextLine_113 rfl (lv_at hl 1 rfl) ?_
    refine lv_iconst (v := 3) hx hb dX12_nextLine_114 (by decide) ?_
    refine lv_iload_n hx hb dX12_nextLine_115 rfl (lv_at hl 0 rfl) ?_
    obtain ⟨v_10, hc_10, hf⟩ := calp_inv hf
    refine cc_Vi (r_X12_endOf (D := D) (y := y) (o := o) (ad := ad) (av := av) hc_10 l) hx hb hml hta hown hK hN hV hA hC hRc hRs (by omega) (by omega) wq_1553 (q := 0) (ci := 12) rfl rfl wq_1554 wq_1555 wq_1012 wq_1545 hd_X12_endOf (As := [.int 3, .int v_1]) (rest := []) rfl rfl hl.1 rfl dX12_nextLine_116 (fun H locs hC => ?_)
    refine lv_iconst (v := 1) hx hb dX12_nextLine_119 (by decide) ?_
    refine lv_iadd hx hb dX12_nextLine_120 ?_
    exact hret _ _ _ _ _ _ (rv_inv hf).1 (congrArg (WM y o) (rv_inv hf).2) rfl dX12_nextLine_121 hC
  have hf := it_f h_3_2 hf
  by_cases h_3_3 : v_2.toInt = 6
  · have hf := it_t h_3_3 hf
    refine lv_tab (tgt := 122) hx hb dX12_nextLine_13 (Or.inr ⟨109, by omega, by omega, by (rw [h_3_3]; decide), by decide⟩) ?_
    refine lv_aload_n hx hb dX12_nextLine_122 rfl (lv_at hl 1 rfl) ?_
    refine lv_iconst (v := 2) hx hb dX12_nextLine_123 (by decide) ?_
    refine lv_iload_n hx hb dX12_nextLine_124 rfl (lv_at hl 0 rfl) ?_
    obtain ⟨v_11, hc_11, hf⟩ := calp_inv hf
    refine cc_Vi (r_X12_endOf (D := D) (y := y) (o := o) (ad := ad) (av := av) hc_11 l) hx hb hml hta hown hK hN hV hA hC hRc hRs (by omega) (by omega) wq_1553 (q := 0) (ci := 12) rfl rfl wq_1554 wq_1555 wq_1012 wq_1545 hd_X12_endOf (As := [.int 2, .int v_1]) (rest := []) rfl rfl hl.1 rfl dX12_nextLine_125 (fun H locs hC => ?_)
    refine lv_iconst (v := 1) hx hb dX12_nextLine_128 (by decide) ?_
    refine lv_iadd hx hb dX12_nextLine_129 ?_
    exact hret _ _ _ _ _ _ (rv_inv hf).1 (congrArg (WM y o) (rv_inv hf).2) rfl dX12_nextLine_130 hC
  have hf := it_f h_3_3 hf
  by_cases h_3_4 : v_2.toInt = 7
  · have hf := it_t h_3_4 hf
    refine lv_tab (tgt := 131) hx hb dX12_nextLine_13 (Or.inr ⟨118, by omega, by omega, by (rw [h_3_4]; decide), by decide⟩) ?_
    refine lv_aload_n hx hb dX12_nextLine_131 rfl (lv_at hl 1 rfl) ?_
    refine lv_iconst (v := 1) hx hb dX12_nextLine_132 (by decide) ?_
    refine lv_iload_n hx hb dX12_nextLine_133 rfl (lv_at hl 0 rfl) ?_
    obtain ⟨v_12, hc_12, hf⟩ := calp_inv hf
    refine cc_Vi (r_X12_lineWith (D := D) (y := y) (o := o) (ad := ad) (av := av) hc_12 l) hx hb hml hta hown hK hN hV hA hC hRc hRs (by omega) (by omega) wq_1548 (q := 0) (ci := 12) rfl rfl wq_1549 wq_1550 wq_1012 wq_1546 hd_X12_lineWith (As := [.int 1, .int v_1]) (rest := []) rfl rfl hl.1 rfl dX12_nextLine_134 (fun H locs hC => ?_)
    exact hret _ _ _ _ _ _ (rv_inv hf).1 (congrArg (WM y o) (rv_inv hf).2) rfl dX12_nextLine_137 hC
  have hf := it_f h_3_4 hf
  by_cases h_3_5 : v_2.toInt = 8
  · have hf := it_t h_3_5 hf
    refine lv_tab (tgt := 138) hx hb dX12_nextLine_13 (Or.inr ⟨125, by omega, by omega, by (rw [h_3_5]; decide), by decide⟩) ?_
    refine lv_aload_n hx hb dX12_nextLine_138 rfl (lv_at hl 1 rfl) ?_
    refine lv_bipush (v := 11) hx hb dX12_nextLine_139 (by decide) ?_
    refine lv_iload_n hx hb dX12_nextLine_141 rfl (lv_at hl 0 rfl) ?_
    obtain ⟨v_13, hc_13, hf⟩ := calp_inv hf
    refine cc_Vi (r_X12_lineWith (D := D) (y := y) (o := o) (ad := ad) (av := av) hc_13 l) hx hb hml hta hown hK hN hV hA hC hRc hRs (by omega) (by omega) wq_1548 (q := 0) (ci := 12) rfl rfl wq_1549 wq_1550 wq_1012 wq_1546 hd_X12_lineWith (As := [.int 11, .int v_1]) (rest := []) rfl rfl hl.1 rfl dX12_nextLine_142 (fun H locs hC => ?_)
    exact hret _ _ _ _ _ _ (rv_inv hf).1 (congrArg (WM y o) (rv_inv hf).2) rfl dX12_nextLine_145 hC
  have hf := it_f h_3_5 hf
  by_cases h_3_6 : v_2.toInt = 11
  · have hf := it_t h_3_6 hf
    refine lv_tab (tgt := 146) hx hb dX12_nextLine_13 (Or.inr ⟨133, by omega, by omega, by (rw [h_3_6]; decide), by decide⟩) ?_
    refine lv_aload_n hx hb dX12_nextLine_146 rfl (lv_at hl 1 rfl) ?_
    obtain ⟨s_14, hc_14, hf⟩ := cals_inv hf
    refine cc_Vv (r_X12_enters (D := D) (y := y) (o := o) (ad := ad) (av := av) hc_14 l) hx hb hml hta hown hK hN hV hA hC hRc hRs (by omega) (by omega) wq_1534 (q := 0) (ci := 12) rfl rfl wq_1535 wq_1536 wq_1012 wq_1511 hd_X12_enters (As := []) (rest := []) rfl rfl hl.1 rfl dX12_nextLine_147 (fun H locs hC => ?_)
    refine lv_iload_n hx hb dX12_nextLine_150 rfl (lv_at hl 2 rfl) ?_
    refine lv_iconst (v := 1) hx hb dX12_nextLine_151 (by decide) ?_
    refine lv_iadd hx hb dX12_nextLine_152 ?_
    exact hret _ _ _ _ _ _ (rv_inv hf).1 (congrArg (WM y o) (rv_inv hf).2) rfl dX12_nextLine_153 hC
  have hf := it_f h_3_6 hf
  refine lv_tab (tgt := 154) hx hb dX12_nextLine_13 (by rcases (show (v_2.toInt < 0 ∨ 11 < v_2.toInt ∨ v_2.toInt = 1 ∨ v_2.toInt = 2 ∨ v_2.toInt = 5 ∨ v_2.toInt = 9 ∨ v_2.toInt = 10) by omega) with h | h | h | h | h | h | h; exact Or.inl ⟨Or.inl h, by decide⟩; exact Or.inl ⟨Or.inr h, by decide⟩; all_goals exact Or.inr ⟨141, by omega, by omega, by rw [h]; decide, by decide⟩) ?_
  refine lv_iload_n hx hb dX12_nextLine_154 rfl (lv_at hl 2 rfl) ?_
  refine lv_iconst (v := 1) hx hb dX12_nextLine_155 (by decide) ?_
  refine lv_iadd hx hb dX12_nextLine_156 ?_
  exact hret _ _ _ _ _ _ (rv_inv hf).1 (congrArg (WM y o) (rv_inv hf).2) rfl dX12_nextLine_157 hC

set_option maxHeartbeats 8000000 in
set_option maxRecDepth 100000 in
theorem r_X12_runsLines {D : va_G} {y : Nat → ClassId} {o : Nat → Nat} {ad av : Nat → Nat} {σ : Sto} {σ2 : Sto} (hf : f_X12_runsLines σ = some σ2) (l : Launch) (sz : Nat) : Met l yX12_runsLines (Cond.code yX12_runsLines cX12_runsLines 2 none :: ALW) { frames := 255, cells := 0, slots := 0, locals := 5863 } (va_Pc [.ref (o 0)] (PZ D y ad av (WM y o σ) sz)) (QZv D (WM y o σ) (WM y o σ2) sz) 0 0 (va_A (WM y o σ) sz) := by
  refine met_v (by decide) (Nat.le_of_ble_eq_true rfl) ?_
  intro p e R s m args below meth c Q A ls hx hb hml hta hown hRc hRs hRf hRl hN hK hV hA hret hC hl
  have hl : lv_has ls 2 [(0, .ref (o 0))] := hl
  unfold f_X12_runsLines at hf
  refine lv_aload_n hx hb dX12_runsLines_0 rfl (lv_at hl 0 rfl) ?_
  refine lv_iconst (v := 0) hx hb dX12_runsLines_1 (by decide) ?_
  obtain ⟨s_1, e_1, hf⟩ := lt_inv hf
  refine pt_X12_697_m hx hb hta hown hK hC (Or.inl rfl) e_1 dX12_runsLines_2 (fun H locs hC => ?_)
  refine lv_iconst (v := 0) hx hb dX12_runsLines_5 (by decide) ?_
  refine lv_istore_n (lv' := [(1, .int 0), (0, .ref (o 0))]) hx hb dX12_runsLines_6 rfl hl (by decide) rfl (fun ls hl => ?_)
  refine itr_inv2 (P := fun (x1_2 : Int32) (s_2 : Sto) => ∀ (H : Heap) (locs : List Loc) (ls : Array Slot), CZ D A s H locs (WM y o s_2) → lv_has ls 2 [(0, .ref (o 0)), (1, .int x1_2)] → W p l e R s m args below meth c H locs 0 0 Q (F0 m 7 ls [])) hf ?_ _ _ _ hC (lv_sub hl [1, 0] rfl)
  intro a_7 x1_2 s_2 ha_7 hf H locs ls hC hl
  refine lv_iload_n hx hb dX12_runsLines_7 rfl (lv_at hl 1 rfl) ?_
  refine lv_bipush (v := 8) hx hb dX12_runsLines_8 (by decide) ?_
  refine lv_icmp_ge (tgt := 26) hx hb dX12_runsLines_10 (by decide) (fun c_3 => ?_) (fun c_3 => ?_)
  · have hf := it_t c_3 hf
    refine lv_iconst (v := 0) hx hb dX12_runsLines_26 (by decide) ?_
    refine lv_istore_n (lv' := [(1, .int 0), (0, .ref (o 0))]) hx hb dX12_runsLines_27 rfl hl (by decide) rfl (fun ls hl => ?_)
    refine itr_inv2 (P := fun (x1_4 : Int32) (s_4 : Sto) => ∀ (H : Heap) (locs : List Loc) (ls : Array Slot), CZ D A s H locs (WM y o s_4) → lv_has ls 2 [(0, .ref (o 0)), (1, .int x1_4)] → W p l e R s m args below meth c H locs 0 0 Q (F0 m 28 ls [])) hf ?_ _ _ _ hC (lv_sub hl [1, 0] rfl)
    intro a_28 x1_4 s_4 ha_28 hf H locs ls hC hl
    refine lv_iload_n hx hb dX12_runsLines_28 rfl (lv_at hl 1 rfl) ?_
    refine lv_aload_n hx hb dX12_runsLines_29 rfl (lv_at hl 0 rfl) ?_
    refine gt_X12_410_m hx hb hta hown hK hC dX12_runsLines_30 ?_
    refine lv_icmp_ge (tgt := 49) hx hb dX12_runsLines_33 (by decide) (fun c_5 => ?_) (fun c_5 => ?_)
    · have hf := it_t c_5 hf
      refine lv_iconst (v := 0) hx hb dX12_runsLines_49 (by decide) ?_
      refine lv_istore_n (lv' := [(1, .int 0), (0, .ref (o 0))]) hx hb dX12_runsLines_50 rfl hl (by decide) rfl (fun ls hl => ?_)
      refine itr_inv2 (P := fun (x1_6 : Int32) (s_6 : Sto) => ∀ (H : Heap) (locs : List Loc) (ls : Array Slot), CZ D A s H locs (WM y o s_6) → lv_has ls 2 [(0, .ref (o 0)), (1, .int x1_6)] → W p l e R s m args below meth c H locs 0 0 Q (F0 m 51 ls [])) hf ?_ _ _ _ hC (lv_sub hl [1, 0] rfl)
      intro a_51 x1_6 s_6 ha_51 hf H locs ls hC hl
      refine lv_aload_n hx hb dX12_runsLines_51 rfl (lv_at hl 0 rfl) ?_
      refine gt_X12_684_m hx hb hta hown hK hC dX12_runsLines_52 ?_
      refine lv_iconst (v := (-1)) hx hb dX12_runsLines_55 (by decide) ?_
      refine lv_icmp_ne (tgt := 68) hx hb dX12_runsLines_56 (by decide) (fun c_7 => ?_) (fun c_7 => ?_)
      · have hf := it_f c_7 hf
        exact hret _ _ _ _ _ (congrArg (WM y o) (Option.some.inj hf)) dX12_runsLines_68 hC
      · have hf := it_t c_7 hf
        refine lv_aload_n hx hb dX12_runsLines_59 rfl (lv_at hl 0 rfl) ?_
        refine lv_iload_n hx hb dX12_runsLines_60 rfl (lv_at hl 1 rfl) ?_
        obtain ⟨v_8, s_8, hc_8, hf⟩ := calv_inv hf
        refine cc_Vi (r_X12_nextLine (D := D) (y := y) (o := o) (ad := ad) (av := av) hc_8 l) hx hb hml hta hown hK hN hV hA hC hRc hRs (by omega) (by omega) wq_1574 (q := 0) (ci := 12) rfl rfl wq_1575 wq_1576 wq_1012 wq_1573 hd_X12_nextLine (As := [.int x1_6]) (rest := []) rfl rfl hl.1 rfl dX12_runsLines_61 (fun H locs hC => ?_)
        refine lv_istore_n (lv' := [(1, .int v_8), (0, .ref (o 0))]) hx hb dX12_runsLines_64 rfl hl (by decide) rfl (fun ls hl => ?_)
        refine lv_goto (tgt := 51) hx hb dX12_runsLines_65 (by decide) ?_
        exact ha_51 _ _ hf _ _ _ hC (lv_sub hl [1, 0] rfl)
    · have hf := it_f c_5 hf
      refine lv_aload_n hx hb dX12_runsLines_36 rfl (lv_at hl 0 rfl) ?_
      refine gt_X12_166_m hx hb hta hown hK hC dX12_runsLines_37 ?_
      refine lv_iload_n hx hb dX12_runsLines_40 rfl (lv_at hl 1 rfl) ?_
      refine lv_iconst (v := 0) hx hb dX12_runsLines_41 (by decide) ?_
      obtain ⟨hi_9, hf⟩ := ix_inv hf
      obtain ⟨s_9, e_9, hf⟩ := lt_inv hf
      refine as_M_52 hx hb hK hC hi_9 e_9 dX12_runsLines_42 (fun H locs hC => ?_)
      obtain ⟨x1_10, e_10, hf⟩ := lt_inv hf
      refine lv_iinc (v := x1_10) (lv' := [(1, .int x1_10), (0, .ref (o 0))]) hx hb dX12_runsLines_43 hl (k := 1) rfl e_10.symm (by decide) rfl (fun ls hl => ?_)
      refine lv_goto (tgt := 28) hx hb dX12_runsLines_46 (by decide) ?_
      exact ha_28 _ _ hf _ _ _ hC (lv_sub hl [1, 0] rfl)
  · have hf := it_f c_3 hf
    refine lv_aload_n hx hb dX12_runsLines_13 rfl (lv_at hl 0 rfl) ?_
    refine gt_X12_163_m hx hb hta hown hK hC dX12_runsLines_14 ?_
    refine lv_iload_n hx hb dX12_runsLines_17 rfl (lv_at hl 1 rfl) ?_
    refine lv_iconst (v := 0) hx hb dX12_runsLines_18 (by decide) ?_
    obtain ⟨hi_11, hf⟩ := ix_inv hf
    obtain ⟨s_11, e_11, hf⟩ := lt_inv hf
    refine as_M_51 hx hb hK hC hi_11 e_11 dX12_runsLines_19 (fun H locs hC => ?_)
    obtain ⟨x1_12, e_12, hf⟩ := lt_inv hf
    refine lv_iinc (v := x1_12) (lv' := [(1, .int x1_12), (0, .ref (o 0))]) hx hb dX12_runsLines_20 hl (k := 1) rfl e_12.symm (by decide) rfl (fun ls hl => ?_)
    refine lv_goto (tgt := 7) hx hb dX12_runsLines_23 (by decide) ?_
    exact ha_7 _ _ hf _ _ _ hC (lv_sub hl [1, 0] rfl)

set_option maxHeartbeats 8000000 in
set_option maxRecDepth 100000 in
theorem r_X12_hasRun {D : va_G} {y : Nat → ClassId} {o : Nat → Nat} {ad av : Nat → Nat} {x1 : Int32} {x2 : Int32} {x3 : Int32} {x4 : Int32} {x5 : Int32} {σ : Sto} {σ2 : Sto} {v : Int32} (hf : f_X12_hasRun x1 x2 x3 x4 x5 σ = some (v, σ2)) (l : Launch) (sz : Nat) : Met l yX12_hasRun (Cond.code yX12_hasRun cX12_hasRun 6 (some .boolean) :: ALW) { frames := 256, cells := 0, slots := 0, locals := 5884 } (va_Pc [.ref (o 0), .int x1, .int x2, .int x3, .int x4, .int x5] (PZ D y ad av (WM y o σ) sz)) (QZi D (WM y o σ) v (WM y o σ2) sz) 0 0 (va_A (WM y o σ) sz) := by
  refine met_i (by decide) (Nat.le_of_ble_eq_true rfl) ?_
  intro p e R s m args below meth c Q A ls hx hb hml hta hown hRc hRs hRf hRl hN hK hV hA hret hC hl
  have hl : lv_has ls 6 [(0, .ref (o 0)), (1, .int x1), (2, .int x2), (3, .int x3), (4, .int x4), (5, .int x5)] := hl
  unfold f_X12_hasRun at hf
  refine lv_aload_n hx hb dX12_hasRun_0 rfl (lv_at hl 0 rfl) ?_
  refine gt_X12_292_m hx hb hta hown hK hC dX12_hasRun_1 ?_
  refine lv_if_eq (tgt := 43) hx hb dX12_hasRun_4 (by decide) (fun c_1 => ?_) (fun c_1 => ?_)
  · have hf := it_t c_1 hf
    refine lv_iconst (v := 0) hx hb dX12_hasRun_43 (by decide) ?_
    exact hret _ _ _ _ _ _ (rv_inv hf).1 (congrArg (WM y o) (rv_inv hf).2) rfl dX12_hasRun_44 hC
  · have hf := it_f c_1 hf
    refine lv_iload_n hx hb dX12_hasRun_7 rfl (lv_at hl 1 rfl) ?_
    refine lv_i2l hx hb dX12_hasRun_8 rfl ?_
    refine lv_lconst (v := 0) hx hb dX12_hasRun_9 rfl ?_
    refine lv_lconst (v := 1) hx hb dX12_hasRun_10 rfl ?_
    obtain ⟨v_2, hc_2, hf⟩ := calp_inv hf
    refine cc_Si (r_X12_isIn (D := D) (y := y) (w := WM y o σ) (ad := ad) (av := av) hc_2 l) hx hb hml hta hown hK hN hV hA hC hRc hRs (by omega) (by omega) wq_1362 wq_1363 wq_1012 wq_1007 hd_X12_isIn (As := [.long x1.toInt64, .long 0, .long 1]) (rest := []) rfl rfl hl.1 rfl dX12_hasRun_11 (fun H locs hC => ?_)
    refine lv_if_eq (tgt := 43) hx hb dX12_hasRun_14 (by decide) (fun c_3 => ?_) (fun c_3 => ?_)
    · have hf := it_t c_3 hf
      refine lv_iconst (v := 0) hx hb dX12_hasRun_43 (by decide) ?_
      exact hret _ _ _ _ _ _ (rv_inv hf).1 (congrArg (WM y o) (rv_inv hf).2) rfl dX12_hasRun_44 hC
    · have hf := it_f c_3 hf
      refine lv_iload_n hx hb dX12_hasRun_17 rfl (lv_at hl 1 rfl) ?_
      refine lv_iconst (v := 1) hx hb dX12_hasRun_18 (by decide) ?_
      obtain ⟨k_30, hk_30, hf⟩ := jn_inv0 hf
      have hj_30 : ∀  (H : Heap) (locs : List Loc) (ls : Array Slot), k_30 = some (v, σ2) → CZ D A s H locs (WM y o σ) → lv_has ls 6 [(0, .ref (o 0)), (1, .int x1), (2, .int x2), (3, .int x3), (4, .int x4), (5, .int x5)] → W p l e R s m args below meth c H locs 0 0 Q (F0 m 30 ls []) := by
        intro H locs ls hf hC hl
        have hf := hk_30 hf
        refine lv_iload hx hb dX12_hasRun_30 (lv_at hl 5 rfl) ?_
        refine lv_i2l hx hb dX12_hasRun_32 rfl ?_
        refine lv_lconst (v := 1) hx hb dX12_hasRun_33 rfl ?_
        refine lv_ldc2 hx hb hown (hta _ wq_1578) dX12_hasRun_34 ?_
        obtain ⟨v_5, hc_5, hf⟩ := calp_inv hf
        refine cc_Si (r_X12_isIn (D := D) (y := y) (w := WM y o σ) (ad := ad) (av := av) hc_5 l) hx hb hml hta hown hK hN hV hA hC hRc hRs (by omega) (by omega) wq_1362 wq_1363 wq_1012 wq_1007 hd_X12_isIn (As := [.long x5.toInt64, .long 1, .long 200]) (rest := []) rfl rfl hl.1 rfl dX12_hasRun_37 (fun H locs hC => ?_)
        refine lv_if_ne (tgt := 45) hx hb dX12_hasRun_40 (by decide) (fun c_6 => ?_) (fun c_6 => ?_)
        · have hf := it_f c_6 hf
          refine lv_aload_n hx hb dX12_hasRun_45 rfl (lv_at hl 0 rfl) ?_
          refine lv_iload_n hx hb dX12_hasRun_46 rfl (lv_at hl 2 rfl) ?_
          refine lv_iload_n hx hb dX12_hasRun_47 rfl (lv_at hl 3 rfl) ?_
          refine lv_iload hx hb dX12_hasRun_48 (lv_at hl 4 rfl) ?_
          refine lv_iload hx hb dX12_hasRun_50 (lv_at hl 5 rfl) ?_
          obtain ⟨s_7, hc_7, hf⟩ := cals_inv hf
          refine cc_Vv (r_X12_begins (D := D) (y := y) (o := o) (ad := ad) (av := av) hc_7 l) hx hb hml hta hown hK hN hV hA hC hRc hRs (by omega) (by omega) wq_1579 (q := 0) (ci := 12) rfl rfl wq_1580 wq_1581 wq_1012 wq_1500 hd_X12_begins (As := [.int x2, .int x3, .int x4, .int x5]) (rest := []) rfl rfl hl.1 rfl dX12_hasRun_52 (fun H locs hC => ?_)
          refine lv_iload_n hx hb dX12_hasRun_55 rfl (lv_at hl 1 rfl) ?_
          refine lv_if_ne (tgt := 66) hx hb dX12_hasRun_56 (by decide) (fun c_8 => ?_) (fun c_8 => ?_)
          · have hf := it_f c_8 hf
            refine lv_aload_n hx hb dX12_hasRun_66 rfl (lv_at hl 0 rfl) ?_
            obtain ⟨s_10, hc_10, hf⟩ := cals_inv hf
            refine cc_Vv (r_X12_runsLines (D := D) (y := y) (o := o) (ad := ad) (av := av) hc_10 l) hx hb hml hta hown hK hN hV hA hC hRc hRs (by omega) (by omega) wq_1585 (q := 0) (ci := 12) rfl rfl wq_1586 wq_1587 wq_1012 wq_1577 hd_X12_runsLines (As := []) (rest := []) rfl rfl hl.1 rfl dX12_hasRun_67 (fun H locs hC => ?_)
            refine lv_iconst (v := 1) hx hb dX12_hasRun_70 (by decide) ?_
            exact hret _ _ _ _ _ _ (rv_inv hf).1 (congrArg (WM y o) (rv_inv hf).2) rfl dX12_hasRun_71 hC
          · have hf := it_t c_8 hf
            refine lv_aload_n hx hb dX12_hasRun_59 rfl (lv_at hl 0 rfl) ?_
            obtain ⟨s_9, hc_9, hf⟩ := cals_inv hf
            refine cc_Vv (r_X12_runsCode (D := D) (y := y) (o := o) (ad := ad) (av := av) hc_9 l) hx hb hml hta hown hK hN hV hA hC hRc hRs (by omega) (by omega) wq_1582 (q := 0) (ci := 12) rfl rfl wq_1583 wq_1584 wq_1012 wq_1540 hd_X12_runsCode (As := []) (rest := []) rfl rfl hl.1 rfl dX12_hasRun_60 (fun H locs hC => ?_)
            refine lv_goto (tgt := 70) hx hb dX12_hasRun_63 (by decide) ?_
            refine lv_iconst (v := 1) hx hb dX12_hasRun_70 (by decide) ?_
            exact hret _ _ _ _ _ _ (rv_inv hf).1 (congrArg (WM y o) (rv_inv hf).2) rfl dX12_hasRun_71 hC
        · have hf := it_t c_6 hf
          refine lv_iconst (v := 0) hx hb dX12_hasRun_43 (by decide) ?_
          exact hret _ _ _ _ _ _ (rv_inv hf).1 (congrArg (WM y o) (rv_inv hf).2) rfl dX12_hasRun_44 hC
      refine lv_icmp_ne (tgt := 30) hx hb dX12_hasRun_19 (by decide) (fun c_11 => ?_) (fun c_11 => ?_)
      · have hf := it_f c_11 hf
        exact hj_30 _ _ _ hf hC hl
      · have hf := it_t c_11 hf
        refine lv_aload_n hx hb dX12_hasRun_22 rfl (lv_at hl 0 rfl) ?_
        refine gt_X12_358_m hx hb hta hown hK hC dX12_hasRun_23 ?_
        refine lv_iconst (v := (-1)) hx hb dX12_hasRun_26 (by decide) ?_
        refine lv_icmp_eq (tgt := 43) hx hb dX12_hasRun_27 (by decide) (fun c_12 => ?_) (fun c_12 => ?_)
        · have hf := it_t c_12 hf
          refine lv_iconst (v := 0) hx hb dX12_hasRun_43 (by decide) ?_
          exact hret _ _ _ _ _ _ (rv_inv hf).1 (congrArg (WM y o) (rv_inv hf).2) rfl dX12_hasRun_44 hC
        · have hf := it_f c_12 hf
          exact hj_30 _ _ _ hf hC hl

set_option maxHeartbeats 8000000 in
set_option maxRecDepth 100000 in
theorem r_X12_folded {D : va_G} {y : Nat → ClassId} {o : Nat → Nat} {ad av : Nat → Nat} {σ : Sto} {v : Int32} (hf : f_X12_folded σ = some v) (l : Launch) (sz : Nat) : Met l yX12_folded (Cond.code yX12_folded cX12_folded 3 (some .int) :: ALW) { frames := 0, cells := 0, slots := 0, locals := 0 } (va_Pc [.ref (o 0)] (PZ D y ad av (WM y o σ) sz)) (QZi D (WM y o σ) v (WM y o σ) sz) 0 0 (va_A (WM y o σ) sz) := by
  refine met_i (by decide) (Nat.le_of_ble_eq_true rfl) ?_
  intro p e R s m args below meth c Q A ls hx hb hml hta hown hRc hRs hRf hRl hN hK hV hA hret hC hl
  have hl : lv_has ls 3 [(0, .ref (o 0))] := hl
  unfold f_X12_folded at hf
  refine lv_iconst (v := 0) hx hb dX12_folded_0 (by decide) ?_
  refine lv_istore_n (lv' := [(1, .int 0), (0, .ref (o 0))]) hx hb dX12_folded_1 rfl hl (by decide) rfl (fun ls hl => ?_)
  refine lv_iconst (v := 0) hx hb dX12_folded_2 (by decide) ?_
  refine lv_istore_n (lv' := [(2, .int 0), (1, .int 0), (0, .ref (o 0))]) hx hb dX12_folded_3 rfl hl (by decide) rfl (fun ls hl => ?_)
  refine itr_inv2 (P := fun (x1_1 : Int32) (x2_1 : Int32) => ∀ (H : Heap) (locs : List Loc) (ls : Array Slot), CZ D A s H locs (WM y o σ) → lv_has ls 3 [(0, .ref (o 0)), (1, .int x1_1), (2, .int x2_1)] → W p l e R s m args below meth c H locs 0 0 Q (F0 m 4 ls [])) hf ?_ _ _ _ hC (lv_sub hl [2, 1, 0] rfl)
  intro a_4 x1_1 x2_1 ha_4 hf H locs ls hC hl
  refine lv_iload_n hx hb dX12_folded_4 rfl (lv_at hl 2 rfl) ?_
  refine lv_aload_n hx hb dX12_folded_5 rfl (lv_at hl 0 rfl) ?_
  refine gt_X12_675_m hx hb hta hown hK hC dX12_folded_6 ?_
  refine lv_icmp_ge (tgt := 30) hx hb dX12_folded_9 (by decide) (fun c_2 => ?_) (fun c_2 => ?_)
  · have hf := it_t c_2 hf
    refine lv_iload_n hx hb dX12_folded_30 rfl (lv_at hl 1 rfl) ?_
    exact hret _ _ _ _ _ _ (Option.some.inj hf) rfl rfl dX12_folded_31 hC
  · have hf := it_f c_2 hf
    refine lv_bipush (v := 31) hx hb dX12_folded_12 (by decide) ?_
    refine lv_iload_n hx hb dX12_folded_14 rfl (lv_at hl 1 rfl) ?_
    refine lv_imul hx hb dX12_folded_15 ?_
    refine lv_aload_n hx hb dX12_folded_16 rfl (lv_at hl 0 rfl) ?_
    refine gt_X12_157_m hx hb hta hown hK hC dX12_folded_17 ?_
    refine lv_iload_n hx hb dX12_folded_20 rfl (lv_at hl 2 rfl) ?_
    obtain ⟨hi_3, hf⟩ := ix_inv hf
    obtain ⟨v_3, e_3, hf⟩ := lt_inv hf
    refine al_M_49 hx hb hK hC hi_3 e_3 dX12_folded_21 ?_
    refine lv_iadd hx hb dX12_folded_22 ?_
    obtain ⟨x1_4, e_4, hf⟩ := lt_inv hf
    refine nmi e_4 ?_
    refine lv_istore_n (lv' := [(1, .int x1_4), (0, .ref (o 0)), (2, .int x2_1)]) hx hb dX12_folded_23 rfl hl (by decide) rfl (fun ls hl => ?_)
    obtain ⟨x2_5, e_5, hf⟩ := lt_inv hf
    refine lv_iinc (v := x2_5) (lv' := [(2, .int x2_5), (1, .int x1_4), (0, .ref (o 0))]) hx hb dX12_folded_24 hl (k := 2) rfl e_5.symm (by decide) rfl (fun ls hl => ?_)
    refine lv_goto (tgt := 4) hx hb dX12_folded_27 (by decide) ?_
    exact ha_4 _ _ hf _ _ _ hC (lv_sub hl [2, 1, 0] rfl)

set_option maxHeartbeats 8000000 in
set_option maxRecDepth 100000 in
theorem r_X12_run {D : va_G} {y : Nat → ClassId} {o : Nat → Nat} {ad av : Nat → Nat} {x1 : Int32} {x2 : Int32} {x3 : Int32} {x4 : Int32} {x5 : Int32} {x6 : Int32} {σ : Sto} {σ2 : Sto} {v : Int32} (hf : f_X12_run x1 x2 x3 x4 x5 x6 σ = some (v, σ2)) (l : Launch) (sz : Nat) : Met l yX12_run (Cond.code yX12_run cX12_run 7 (some .int) :: ALW) { frames := 257, cells := 0, slots := 0, locals := 5909 } (va_Pc [.ref (o 0), .int x1, .int x2, .int x3, .int x4, .int x5, .int x6] (PZ D y ad av (WM y o σ) sz)) (QZi D (WM y o σ) v (WM y o σ2) sz) 0 0 (va_A (WM y o σ) sz) := by
  refine met_i (by decide) (Nat.le_of_ble_eq_true rfl) ?_
  intro p e R s m args below meth c Q A ls hx hb hml hta hown hRc hRs hRf hRl hN hK hV hA hret hC hl
  have hl : lv_has ls 7 [(0, .ref (o 0)), (1, .int x1), (2, .int x2), (3, .int x3), (4, .int x4), (5, .int x5), (6, .int x6)] := hl
  unfold f_X12_run at hf
  refine lv_aload_n hx hb dX12_run_0 rfl (lv_at hl 0 rfl) ?_
  refine lv_iconst (v := 0) hx hb dX12_run_1 (by decide) ?_
  obtain ⟨s_1, e_1, hf⟩ := lt_inv hf
  refine pt_X12_169_m hx hb hta hown hK hC e_1 dX12_run_2 (fun H locs hC => ?_)
  refine lv_iload hx hb dX12_run_5 (lv_at hl 6 rfl) ?_
  refine lv_i2l hx hb dX12_run_7 rfl ?_
  refine lv_lconst (v := 0) hx hb dX12_run_8 rfl ?_
  refine lv_ldc2 hx hb hown (hta _ wq_1590) dX12_run_9 ?_
  obtain ⟨v_2, hc_2, hf⟩ := calp_inv hf
  refine cc_Si (r_X12_isIn (D := D) (y := y) (w := WM y o s_1) (ad := ad) (av := av) hc_2 l) hx hb hml hta hown hK hN hV hA hC hRc hRs (by omega) (by omega) wq_1362 wq_1363 wq_1012 wq_1007 hd_X12_isIn (As := [.long x6.toInt64, .long 0, .long 11]) (rest := []) rfl rfl hl.1 rfl dX12_run_12 (fun H locs hC => ?_)
  refine lv_if_eq (tgt := 32) hx hb dX12_run_15 (by decide) (fun c_3 => ?_) (fun c_3 => ?_)
  · have hf := it_t c_3 hf
    refine lv_ldcw hx hb hown (hta _ wq_1420) dX12_run_32 ?_
    exact hret _ _ _ _ _ _ (rv_inv hf).1 (congrArg (WM y o) (rv_inv hf).2) rfl dX12_run_35 hC
  · have hf := it_f c_3 hf
    refine lv_aload_n hx hb dX12_run_18 rfl (lv_at hl 0 rfl) ?_
    refine lv_iload_n hx hb dX12_run_19 rfl (lv_at hl 1 rfl) ?_
    refine lv_iload_n hx hb dX12_run_20 rfl (lv_at hl 2 rfl) ?_
    refine lv_iload_n hx hb dX12_run_21 rfl (lv_at hl 3 rfl) ?_
    refine lv_iload hx hb dX12_run_22 (lv_at hl 4 rfl) ?_
    refine lv_iload hx hb dX12_run_24 (lv_at hl 5 rfl) ?_
    obtain ⟨v_4, s_4, hc_4, hf⟩ := calv_inv hf
    refine cc_Vi (r_X12_hasRun (D := D) (y := y) (o := o) (ad := ad) (av := av) hc_4 l) hx hb hml hta hown hK hN hV hA hC hRc hRs (by omega) (by omega) wq_1591 (q := 0) (ci := 12) rfl rfl wq_1592 wq_1593 wq_1012 wq_1588 hd_X12_hasRun (As := [.int x1, .int x2, .int x3, .int x4, .int x5]) (rest := []) rfl rfl hl.1 rfl dX12_run_26 (fun H locs hC => ?_)
    refine lv_if_ne (tgt := 36) hx hb dX12_run_29 (by decide) (fun c_5 => ?_) (fun c_5 => ?_)
    · have hf := it_f c_5 hf
      refine lv_iload hx hb dX12_run_36 (lv_at hl 6 rfl) ?_
      by_cases h_6_0 : x6.toInt = 0
      · have hf := it_t h_6_0 hf
        refine lv_tab (tgt := 100) hx hb dX12_run_38 (Or.inr ⟨62, by omega, by omega, by (rw [h_6_0]; decide), by decide⟩) ?_
        refine lv_aload_n hx hb dX12_run_100 rfl (lv_at hl 0 rfl) ?_
        refine gt_X12_675_m hx hb hta hown hK hC dX12_run_101 ?_
        exact hret _ _ _ _ _ _ (rv_inv hf).1 (congrArg (WM y o) (rv_inv hf).2) rfl dX12_run_104 hC
      have hf := it_f h_6_0 hf
      by_cases h_6_1 : x6.toInt = 1
      · have hf := it_t h_6_1 hf
        refine lv_tab (tgt := 105) hx hb dX12_run_38 (Or.inr ⟨67, by omega, by omega, by (rw [h_6_1]; decide), by decide⟩) ?_
        refine lv_aload_n hx hb dX12_run_105 rfl (lv_at hl 0 rfl) ?_
        refine gt_X12_684_m hx hb hta hown hK hC dX12_run_106 ?_
        exact hret _ _ _ _ _ _ (rv_inv hf).1 (congrArg (WM y o) (rv_inv hf).2) rfl dX12_run_109 hC
      have hf := it_f h_6_1 hf
      by_cases h_6_2 : x6.toInt = 2
      · have hf := it_t h_6_2 hf
        refine lv_tab (tgt := 110) hx hb dX12_run_38 (Or.inr ⟨72, by omega, by omega, by (rw [h_6_2]; decide), by decide⟩) ?_
        refine lv_aload_n hx hb dX12_run_110 rfl (lv_at hl 0 rfl) ?_
        refine gt_X12_687_m hx hb hta hown hK hC dX12_run_111 ?_
        exact hret _ _ _ _ _ _ (rv_inv hf).1 (congrArg (WM y o) (rv_inv hf).2) rfl dX12_run_114 hC
      have hf := it_f h_6_2 hf
      by_cases h_6_3 : x6.toInt = 3
      · have hf := it_t h_6_3 hf
        refine lv_tab (tgt := 115) hx hb dX12_run_38 (Or.inr ⟨77, by omega, by omega, by (rw [h_6_3]; decide), by decide⟩) ?_
        refine lv_aload_n hx hb dX12_run_115 rfl (lv_at hl 0 rfl) ?_
        refine gt_X12_678_m hx hb hta hown hK hC dX12_run_116 ?_
        exact hret _ _ _ _ _ _ (rv_inv hf).1 (congrArg (WM y o) (rv_inv hf).2) rfl dX12_run_119 hC
      have hf := it_f h_6_3 hf
      by_cases h_6_4 : x6.toInt = 4
      · have hf := it_t h_6_4 hf
        refine lv_tab (tgt := 120) hx hb dX12_run_38 (Or.inr ⟨82, by omega, by omega, by (rw [h_6_4]; decide), by decide⟩) ?_
        refine lv_aload_n hx hb dX12_run_120 rfl (lv_at hl 0 rfl) ?_
        refine gt_X12_681_m hx hb hta hown hK hC dX12_run_121 ?_
        exact hret _ _ _ _ _ _ (rv_inv hf).1 (congrArg (WM y o) (rv_inv hf).2) rfl dX12_run_124 hC
      have hf := it_f h_6_4 hf
      by_cases h_6_5 : x6.toInt = 11
      · have hf := it_t h_6_5 hf
        refine lv_tab (tgt := 125) hx hb dX12_run_38 (Or.inr ⟨87, by omega, by omega, by (rw [h_6_5]; decide), by decide⟩) ?_
        refine lv_aload_n hx hb dX12_run_125 rfl (lv_at hl 0 rfl) ?_
        obtain ⟨v_7, hc_7, hf⟩ := calp_inv hf
        refine cc_Vi (r_X12_folded (D := D) (y := y) (o := o) (ad := ad) (av := av) hc_7 l) hx hb hml hta hown hK hN hV hA hC hRc hRs (by omega) (by omega) wq_1594 (q := 0) (ci := 12) rfl rfl wq_1595 wq_1596 wq_1012 wq_1589 hd_X12_folded (As := []) (rest := []) rfl rfl hl.1 rfl dX12_run_126 (fun H locs hC => ?_)
        exact hret _ _ _ _ _ _ (rv_inv hf).1 (congrArg (WM y o) (rv_inv hf).2) rfl dX12_run_129 hC
      have hf := it_f h_6_5 hf
      refine lv_tab (tgt := 130) hx hb dX12_run_38 (by rcases (show (x6.toInt < 0 ∨ 11 < x6.toInt ∨ x6.toInt = 5 ∨ x6.toInt = 6 ∨ x6.toInt = 7 ∨ x6.toInt = 8 ∨ x6.toInt = 9 ∨ x6.toInt = 10) by omega) with h | h | h | h | h | h | h | h; exact Or.inl ⟨Or.inl h, by decide⟩; exact Or.inl ⟨Or.inr h, by decide⟩; all_goals exact Or.inr ⟨92, by omega, by omega, by rw [h]; decide, by decide⟩) ?_
      refine lv_aload_n hx hb dX12_run_130 rfl (lv_at hl 0 rfl) ?_
      refine gt_X12_154_m hx hb hta hown hK hC dX12_run_131 ?_
      refine lv_iload hx hb dX12_run_134 (lv_at hl 6 rfl) ?_
      refine lv_iconst (v := 5) hx hb dX12_run_136 (by decide) ?_
      refine lv_isub hx hb dX12_run_137 ?_
      obtain ⟨hi_8, hf⟩ := ix_inv hf
      obtain ⟨v_8, e_8, hf⟩ := lt_inv hf
      refine al_M_48 hx hb hK hC hi_8 e_8 dX12_run_138 ?_
      exact hret _ _ _ _ _ _ (rv_inv hf).1 (congrArg (WM y o) (rv_inv hf).2) rfl dX12_run_139 hC
    · have hf := it_t c_5 hf
      refine lv_ldcw hx hb hown (hta _ wq_1420) dX12_run_32 ?_
      exact hret _ _ _ _ _ _ (rv_inv hf).1 (congrArg (WM y o) (rv_inv hf).2) rfl dX12_run_35 hC

set_option maxHeartbeats 8000000 in
set_option maxRecDepth 100000 in
theorem r_X12_output {D : va_G} {y : Nat → ClassId} {o : Nat → Nat} {ad av : Nat → Nat} {x1 : Int32} {x2 : Int32} {x3 : Int32} {x4 : Int32} {x5 : Int32} {x6 : Int32} {σ : Sto} {σ2 : Sto} {v : Int32} (hf : f_X12_output x1 x2 x3 x4 x5 x6 σ = some (v, σ2)) (l : Launch) (sz : Nat) : Met l yX12_output (Cond.code yX12_output cX12_output 7 (some .int) :: ALW) { frames := 257, cells := 0, slots := 0, locals := 5909 } (va_Pc [.ref (o 0), .int x1, .int x2, .int x3, .int x4, .int x5, .int x6] (PZ D y ad av (WM y o σ) sz)) (QZi D (WM y o σ) v (WM y o σ2) sz) 0 0 (va_A (WM y o σ) sz) := by
  refine met_i (by decide) (Nat.le_of_ble_eq_true rfl) ?_
  intro p e R s m args below meth c Q A ls hx hb hml hta hown hRc hRs hRf hRl hN hK hV hA hret hC hl
  have hl : lv_has ls 7 [(0, .ref (o 0)), (1, .int x1), (2, .int x2), (3, .int x3), (4, .int x4), (5, .int x5), (6, .int x6)] := hl
  unfold f_X12_output at hf
  refine lv_aload_n hx hb dX12_output_0 rfl (lv_at hl 0 rfl) ?_
  refine lv_iconst (v := 0) hx hb dX12_output_1 (by decide) ?_
  obtain ⟨s_1, e_1, hf⟩ := lt_inv hf
  refine pt_X12_169_m hx hb hta hown hK hC e_1 dX12_output_2 (fun H locs hC => ?_)
  refine lv_iload hx hb dX12_output_5 (lv_at hl 6 rfl) ?_
  obtain ⟨k_43, hk_43, hf⟩ := jn_inv1 hf
  have hj_43 : ∀ (s_2 : Sto) (H : Heap) (locs : List Loc) (ls : Array Slot), k_43 s_2 = some (v, σ2) → CZ D A s H locs (WM y o s_2) → lv_has ls 7 [] → W p l e R s m args below meth c H locs 0 0 Q (F0 m 43 ls []) := by
    intro s_2 H locs ls hf hC hl
    have hf := hk_43 _ hf
    refine lv_ldcw hx hb hown (hta _ wq_1420) dX12_output_43 ?_
    exact hret _ _ _ _ _ _ (rv_inv hf).1 (congrArg (WM y o) (rv_inv hf).2) rfl dX12_output_46 hC
  refine lv_if_lt (tgt := 43) hx hb dX12_output_7 (by decide) (fun c_3 => ?_) (fun c_3 => ?_)
  · have hf := it_t c_3 hf
    exact hj_43 _ _ _ _ hf hC (lv_sub hl [] rfl)
  · have hf := it_f c_3 hf
    refine lv_aload_n hx hb dX12_output_10 rfl (lv_at hl 0 rfl) ?_
    refine lv_iload_n hx hb dX12_output_11 rfl (lv_at hl 1 rfl) ?_
    refine lv_iload_n hx hb dX12_output_12 rfl (lv_at hl 2 rfl) ?_
    refine lv_iload_n hx hb dX12_output_13 rfl (lv_at hl 3 rfl) ?_
    refine lv_iload hx hb dX12_output_14 (lv_at hl 4 rfl) ?_
    refine lv_iload hx hb dX12_output_16 (lv_at hl 5 rfl) ?_
    obtain ⟨v_4, s_4, hc_4, hf⟩ := calv_inv hf
    refine cc_Vi (r_X12_hasRun (D := D) (y := y) (o := o) (ad := ad) (av := av) hc_4 l) hx hb hml hta hown hK hN hV hA hC hRc hRs (by omega) (by omega) wq_1591 (q := 0) (ci := 12) rfl rfl wq_1592 wq_1593 wq_1012 wq_1588 hd_X12_hasRun (As := [.int x1, .int x2, .int x3, .int x4, .int x5]) (rest := []) rfl rfl hl.1 rfl dX12_output_18 (fun H locs hC => ?_)
    refine lv_if_eq (tgt := 43) hx hb dX12_output_21 (by decide) (fun c_5 => ?_) (fun c_5 => ?_)
    · have hf := it_t c_5 hf
      exact hj_43 _ _ _ _ hf hC (lv_sub hl [] rfl)
    · have hf := it_f c_5 hf
      refine lv_iload hx hb dX12_output_24 (lv_at hl 6 rfl) ?_
      refine lv_aload_n hx hb dX12_output_26 rfl (lv_at hl 0 rfl) ?_
      refine gt_X12_675_m hx hb hta hown hK hC dX12_output_27 ?_
      refine lv_icmp_ge (tgt := 43) hx hb dX12_output_30 (by decide) (fun c_6 => ?_) (fun c_6 => ?_)
      · have hf := it_t c_6 hf
        exact hj_43 _ _ _ _ hf hC (lv_sub hl [] rfl)
      · have hf := it_f c_6 hf
        refine lv_aload_n hx hb dX12_output_33 rfl (lv_at hl 0 rfl) ?_
        refine gt_X12_157_m hx hb hta hown hK hC dX12_output_34 ?_
        refine lv_iload hx hb dX12_output_37 (lv_at hl 6 rfl) ?_
        obtain ⟨hi_7, hf⟩ := ix_inv hf
        obtain ⟨v_7, e_7, hf⟩ := lt_inv hf
        refine al_M_49 hx hb hK hC hi_7 e_7 dX12_output_39 ?_
        refine lv_goto (tgt := 46) hx hb dX12_output_40 (by decide) ?_
        exact hret _ _ _ _ _ _ (rv_inv hf).1 (congrArg (WM y o) (rv_inv hf).2) rfl dX12_output_46 hC

set_option maxHeartbeats 8000000 in
set_option maxRecDepth 100000 in
theorem r_X12_comesTo {D : va_G} {y : Nat → ClassId} {o : Nat → Nat} {ad av : Nat → Nat} {x1 : Int32} {σ : Sto} {σ2 : Sto} {v : Int64} (hf : f_X12_comesTo x1 σ = some (v, σ2)) (l : Launch) (sz : Nat) : Met l yX12_comesTo (Cond.code yX12_comesTo cX12_comesTo 6 (some .long) :: ALW) { frames := 2, cells := 0, slots := 0, locals := 46 } (va_Pc [.ref (o 0), .int x1] (PZ D y ad av (WM y o σ) sz)) (QZl D (WM y o σ) v (WM y o σ2) sz) 0 0 (va_A (WM y o σ) sz) := by
  refine met_l (by decide) (Nat.le_of_ble_eq_true rfl) ?_
  intro p e R s m args below meth c Q A ls hx hb hml hta hown hRc hRs hRf hRl hN hK hV hA hret hC hl
  have hl : lv_has ls 6 [(0, .ref (o 0)), (1, .int x1)] := hl
  unfold f_X12_comesTo at hf
  refine lv_aload_n hx hb dX12_comesTo_0 rfl (lv_at hl 0 rfl) ?_
  refine lv_iconst (v := 0) hx hb dX12_comesTo_1 (by decide) ?_
  obtain ⟨s_1, e_1, hf⟩ := lt_inv hf
  refine pt_X12_169_m hx hb hta hown hK hC e_1 dX12_comesTo_2 (fun H locs hC => ?_)
  refine lv_aload_n hx hb dX12_comesTo_5 rfl (lv_at hl 0 rfl) ?_
  refine lv_iload_n hx hb dX12_comesTo_6 rfl (lv_at hl 1 rfl) ?_
  obtain ⟨v_2, hc_2, hf⟩ := calp_inv hf
  refine cc_Vi (r_X12_isBlock (D := D) (y := y) (o := o) (ad := ad) (av := av) hc_2 l) hx hb hml hta hown hK hN hV hA hC hRc hRs (by omega) (by omega) wq_1422 (q := 0) (ci := 12) rfl rfl wq_1423 wq_1424 wq_1012 wq_1421 hd_X12_isBlock (As := [.int x1]) (rest := []) rfl rfl hl.1 rfl dX12_comesTo_7 (fun H locs hC => ?_)
  refine lv_if_ne (tgt := 17) hx hb dX12_comesTo_10 (by decide) (fun c_3 => ?_) (fun c_3 => ?_)
  · have hf := it_f c_3 hf
    refine lv_lconst (v := 0) hx hb dX12_comesTo_17 rfl ?_
    refine lv_lstore_n (lv' := [(2, .long 0), (0, .ref (o 0)), (1, .int x1)]) hx hb dX12_comesTo_18 rfl hl (by decide) rfl (fun ls hl => ?_)
    refine lv_iconst (v := 1) hx hb dX12_comesTo_19 (by decide) ?_
    refine lv_istore (lv' := [(4, .int 1), (2, .long 0), (0, .ref (o 0)), (1, .int x1)]) hx hb dX12_comesTo_20 hl (by decide) rfl (fun ls hl => ?_)
    refine itr_inv2 (P := fun (x2_4 : Int64) (x4_4 : Int32) => ∀ (H : Heap) (locs : List Loc) (ls : Array Slot), CZ D A s H locs (WM y o s_1) → lv_has ls 6 [(0, .ref (o 0)), (1, .int x1), (2, .long x2_4), (4, .int x4_4)] → W p l e R s m args below meth c H locs 0 0 Q (F0 m 22 ls [])) hf ?_ _ _ _ hC (lv_sub hl [2, 3, 1, 0] rfl)
    intro a_22 x2_4 x4_4 ha_22 hf H locs ls hC hl
    refine lv_iload hx hb dX12_comesTo_22 (lv_at hl 3 rfl) ?_
    refine lv_if_eq (tgt := 108) hx hb dX12_comesTo_24 (by decide) (fun c_5 => ?_) (fun c_5 => ?_)
    · have hf := it_t c_5 hf
      refine lv_lload_n hx hb dX12_comesTo_108 rfl (lv_at hl 2 rfl) ?_
      exact hret _ _ _ _ _ _ (rv_inv hf).1 (congrArg (WM y o) (rv_inv hf).2) dX12_comesTo_109 hC
    · have hf := it_f c_5 hf
      refine lv_iconst (v := 0) hx hb dX12_comesTo_27 (by decide) ?_
      refine lv_istore (lv' := [(4, .int 0), (0, .ref (o 0)), (1, .int x1), (2, .long x2_4)]) hx hb dX12_comesTo_28 hl (by decide) rfl (fun ls hl => ?_)
      refine lv_iconst (v := 0) hx hb dX12_comesTo_30 (by decide) ?_
      refine lv_istore (lv' := [(5, .int 0), (4, .int 0), (0, .ref (o 0)), (1, .int x1), (2, .long x2_4)]) hx hb dX12_comesTo_31 hl (by decide) rfl (fun ls hl => ?_)
      refine itr_inv3 (P := fun (x2_6 : Int64) (x4_6 : Int32) (x5_6 : Int32) => ∀ (H : Heap) (locs : List Loc) (ls : Array Slot), CZ D A s H locs (WM y o s_1) → lv_has ls 6 [(0, .ref (o 0)), (1, .int x1), (2, .long x2_6), (4, .int x4_6), (5, .int x5_6)] → W p l e R s m args below meth c H locs 0 0 Q (F0 m 33 ls [])) hf ?_ _ _ _ hC (lv_sub hl [2, 3, 4, 1, 0] rfl)
      intro a_33 x2_6 x4_6 x5_6 ha_33 hf H locs ls hC hl
      refine lv_iload hx hb dX12_comesTo_33 (lv_at hl 4 rfl) ?_
      refine lv_aload_n hx hb dX12_comesTo_35 rfl (lv_at hl 0 rfl) ?_
      refine gt_X12_327_m hx hb hta hown hK hC dX12_comesTo_36 ?_
      refine lv_icmp_ge (tgt := 105) hx hb dX12_comesTo_39 (by decide) (fun c_7 => ?_) (fun c_7 => ?_)
      · have hf := it_t c_7 hf
        refine lv_goto (tgt := 22) hx hb dX12_comesTo_105 (by decide) ?_
        exact ha_22 _ _ hf _ _ _ hC (lv_sub hl [0, 1, 2, 3] rfl)
      · have hf := it_f c_7 hf
        refine lv_aload_n hx hb dX12_comesTo_42 rfl (lv_at hl 0 rfl) ?_
        refine gt_X12_62_m hx hb hta hown hK hC dX12_comesTo_43 ?_
        refine lv_iload hx hb dX12_comesTo_46 (lv_at hl 4 rfl) ?_
        obtain ⟨hi_8, hf⟩ := ix_inv hf
        obtain ⟨v_8, e_8, hf⟩ := lt_inv hf
        refine al_M_18 hx hb hK hC hi_8 e_8 dX12_comesTo_48 ?_
        refine lv_iload_n hx hb dX12_comesTo_49 rfl (lv_at hl 1 rfl) ?_
        obtain ⟨k_99, hk_99, hf⟩ := jn_inv2 hf
        have hj_99 : ∀ (x2_9 : Int64) (x4_9 : Int32) (H : Heap) (locs : List Loc) (ls : Array Slot), k_99 x2_9 x4_9 = some (v, σ2) → CZ D A s H locs (WM y o s_1) → lv_has ls 6 [(0, .ref (o 0)), (1, .int x1), (2, .long x2_9), (4, .int x4_9), (5, .int x5_6)] → W p l e R s m args below meth c H locs 0 0 Q (F0 m 99 ls []) := by
          intro x2_9 x4_9 H locs ls hf hC hl
          have hf := hk_99 _ _ hf
          obtain ⟨x5_10, e_10, hf⟩ := lt_inv hf
          refine lv_iinc (v := x5_10) (lv' := [(5, .int x5_10), (0, .ref (o 0)), (1, .int x1), (2, .long x2_9), (4, .int x4_9)]) hx hb dX12_comesTo_99 hl (k := 4) rfl e_10.symm (by decide) rfl (fun ls hl => ?_)
          refine lv_goto (tgt := 33) hx hb dX12_comesTo_102 (by decide) ?_
          exact ha_33 _ _ _ hf _ _ _ hC (lv_sub hl [1, 2, 3, 4, 0] rfl)
        obtain ⟨k_67, hk_67, hf⟩ := jn_inv0 hf
        have hj_67 : ∀  (H : Heap) (locs : List Loc) (ls : Array Slot), k_67 = some (v, σ2) → CZ D A s H locs (WM y o s_1) → lv_has ls 6 [(0, .ref (o 0)), (1, .int x1), (2, .long x2_6), (4, .int x4_6), (5, .int x5_6)] → W p l e R s m args below meth c H locs 0 0 Q (F0 m 67 ls []) := by
          intro H locs ls hf hC hl
          have hf := hk_67 hf
          refine lv_lload_n hx hb dX12_comesTo_67 rfl (lv_at hl 2 rfl) ?_
          refine lv_aload_n hx hb dX12_comesTo_68 rfl (lv_at hl 0 rfl) ?_
          refine gt_X12_59_m hx hb hta hown hK hC dX12_comesTo_69 ?_
          refine lv_iload hx hb dX12_comesTo_72 (lv_at hl 4 rfl) ?_
          obtain ⟨hi_12, hf⟩ := ix_inv hf
          obtain ⟨v_12, e_12, hf⟩ := lt_inv hf
          refine al_M_17 hx hb hK hC hi_12 e_12 dX12_comesTo_74 ?_
          obtain ⟨v_13, hc_13, hf⟩ := calp_inv hf
          refine cc_Si (r_X12_has (D := D) (y := y) (w := WM y o s_1) (ad := ad) (av := av) hc_13 l) hx hb hml hta hown hK hN hV hA hC hRc hRs (by omega) (by omega) wq_1010 wq_1011 wq_1012 wq_1008 hd_X12_has (As := [.long x2_6, .int v_12]) (rest := []) rfl rfl hl.1 rfl dX12_comesTo_75 (fun H locs hC => ?_)
          refine lv_if_eq (tgt := 84) hx hb dX12_comesTo_78 (by decide) (fun c_14 => ?_) (fun c_14 => ?_)
          · have hf := it_t c_14 hf
            refine lv_lload_n hx hb dX12_comesTo_84 rfl (lv_at hl 2 rfl) ?_
            refine lv_lconst (v := 1) hx hb dX12_comesTo_85 rfl ?_
            refine lv_aload_n hx hb dX12_comesTo_86 rfl (lv_at hl 0 rfl) ?_
            refine gt_X12_59_m hx hb hta hown hK hC dX12_comesTo_87 ?_
            refine lv_iload hx hb dX12_comesTo_90 (lv_at hl 4 rfl) ?_
            obtain ⟨hi_15, hf⟩ := ix_inv hf
            obtain ⟨v_15, e_15, hf⟩ := lt_inv hf
            refine al_M_17 hx hb hK hC hi_15 e_15 dX12_comesTo_92 ?_
            refine lv_lshl hx hb dX12_comesTo_93 rfl ?_
            refine lv_lor hx hb dX12_comesTo_94 ?_
            obtain ⟨x2_16, e_16, hf⟩ := lt_inv hf
            refine nml e_16 ?_
            refine lv_lstore_n (lv' := [(2, .long x2_16), (0, .ref (o 0)), (1, .int x1), (4, .int x4_6), (5, .int x5_6)]) hx hb dX12_comesTo_95 rfl hl (by decide) rfl (fun ls hl => ?_)
            refine lv_iconst (v := 1) hx hb dX12_comesTo_96 (by decide) ?_
            refine lv_istore (lv' := [(4, .int 1), (2, .long x2_16), (0, .ref (o 0)), (1, .int x1), (5, .int x5_6)]) hx hb dX12_comesTo_97 hl (by decide) rfl (fun ls hl => ?_)
            exact hj_99 _ _ _ _ _ hf hC (lv_sub hl [2, 3, 1, 0, 4] rfl)
          · have hf := it_f c_14 hf
            refine lv_goto (tgt := 99) hx hb dX12_comesTo_81 (by decide) ?_
            exact hj_99 _ _ _ _ _ hf hC hl
        refine lv_icmp_eq (tgt := 67) hx hb dX12_comesTo_50 (by decide) (fun c_17 => ?_) (fun c_17 => ?_)
        · have hf := it_t c_17 hf
          exact hj_67 _ _ _ hf hC hl
        · have hf := it_f c_17 hf
          refine lv_lload_n hx hb dX12_comesTo_53 rfl (lv_at hl 2 rfl) ?_
          refine lv_aload_n hx hb dX12_comesTo_54 rfl (lv_at hl 0 rfl) ?_
          refine gt_X12_62_m hx hb hta hown hK hC dX12_comesTo_55 ?_
          refine lv_iload hx hb dX12_comesTo_58 (lv_at hl 4 rfl) ?_
          obtain ⟨hi_18, hf⟩ := ix_inv hf
          obtain ⟨v_18, e_18, hf⟩ := lt_inv hf
          refine al_M_18 hx hb hK hC hi_18 e_18 dX12_comesTo_60 ?_
          obtain ⟨v_19, hc_19, hf⟩ := calp_inv hf
          refine cc_Si (r_X12_has (D := D) (y := y) (w := WM y o s_1) (ad := ad) (av := av) hc_19 l) hx hb hml hta hown hK hN hV hA hC hRc hRs (by omega) (by omega) wq_1010 wq_1011 wq_1012 wq_1008 hd_X12_has (As := [.long x2_6, .int v_18]) (rest := []) rfl rfl hl.1 rfl dX12_comesTo_61 (fun H locs hC => ?_)
          refine lv_if_eq (tgt := 99) hx hb dX12_comesTo_64 (by decide) (fun c_20 => ?_) (fun c_20 => ?_)
          · have hf := it_t c_20 hf
            exact hj_99 _ _ _ _ _ hf hC hl
          · have hf := it_f c_20 hf
            exact hj_67 _ _ _ hf hC hl
  · have hf := it_t c_3 hf
    refine lv_ldc2 hx hb hown (hta _ wq_1467) dX12_comesTo_13 ?_
    exact hret _ _ _ _ _ _ (rv_inv hf).1 (congrArg (WM y o) (rv_inv hf).2) dX12_comesTo_16 hC

set_option maxHeartbeats 8000000 in
set_option maxRecDepth 100000 in
theorem r_X12_far {D : va_G} {y : Nat → ClassId} {o : Nat → Nat} {ad av : Nat → Nat} {x1 : Int32} {x2 : Int32} {σ : Sto} {σ2 : Sto} {v : Int32} (hf : f_X12_far x1 x2 σ = some (v, σ2)) (l : Launch) (sz : Nat) : Met l yX12_far (Cond.code yX12_far cX12_far 9 (some .int) :: ALW) { frames := 2, cells := 0, slots := 0, locals := 46 } (va_Pc [.ref (o 0), .int x1, .int x2] (PZ D y ad av (WM y o σ) sz)) (QZi D (WM y o σ) v (WM y o σ2) sz) 0 0 (va_A (WM y o σ) sz) := by
  refine met_i (by decide) (Nat.le_of_ble_eq_true rfl) ?_
  intro p e R s m args below meth c Q A ls hx hb hml hta hown hRc hRs hRf hRl hN hK hV hA hret hC hl
  have hl : lv_has ls 9 [(0, .ref (o 0)), (1, .int x1), (2, .int x2)] := hl
  unfold f_X12_far at hf
  refine lv_aload_n hx hb dX12_far_0 rfl (lv_at hl 0 rfl) ?_
  refine lv_iconst (v := 0) hx hb dX12_far_1 (by decide) ?_
  obtain ⟨s_1, e_1, hf⟩ := lt_inv hf
  refine pt_X12_169_m hx hb hta hown hK hC e_1 dX12_far_2 (fun H locs hC => ?_)
  refine lv_aload_n hx hb dX12_far_5 rfl (lv_at hl 0 rfl) ?_
  refine lv_iload_n hx hb dX12_far_6 rfl (lv_at hl 1 rfl) ?_
  obtain ⟨v_2, hc_2, hf⟩ := calp_inv hf
  refine cc_Vi (r_X12_isBlock (D := D) (y := y) (o := o) (ad := ad) (av := av) hc_2 l) hx hb hml hta hown hK hN hV hA hC hRc hRs (by omega) (by omega) wq_1422 (q := 0) (ci := 12) rfl rfl wq_1423 wq_1424 wq_1012 wq_1421 hd_X12_isBlock (As := [.int x1]) (rest := []) rfl rfl hl.1 rfl dX12_far_7 (fun H locs hC => ?_)
  refine lv_if_eq (tgt := 21) hx hb dX12_far_10 (by decide) (fun c_3 => ?_) (fun c_3 => ?_)
  · have hf := it_t c_3 hf
    refine lv_iconst (v := (-1)) hx hb dX12_far_21 (by decide) ?_
    exact hret _ _ _ _ _ _ (rv_inv hf).1 (congrArg (WM y o) (rv_inv hf).2) rfl dX12_far_22 hC
  · have hf := it_f c_3 hf
    refine lv_aload_n hx hb dX12_far_13 rfl (lv_at hl 0 rfl) ?_
    refine lv_iload_n hx hb dX12_far_14 rfl (lv_at hl 2 rfl) ?_
    obtain ⟨v_4, hc_4, hf⟩ := calp_inv hf
    refine cc_Vi (r_X12_isBlock (D := D) (y := y) (o := o) (ad := ad) (av := av) hc_4 l) hx hb hml hta hown hK hN hV hA hC hRc hRs (by omega) (by omega) wq_1422 (q := 0) (ci := 12) rfl rfl wq_1423 wq_1424 wq_1012 wq_1421 hd_X12_isBlock (As := [.int x2]) (rest := []) rfl rfl hl.1 rfl dX12_far_15 (fun H locs hC => ?_)
    refine lv_if_ne (tgt := 23) hx hb dX12_far_18 (by decide) (fun c_5 => ?_) (fun c_5 => ?_)
    · have hf := it_f c_5 hf
      refine lv_lconst (v := 1) hx hb dX12_far_23 rfl ?_
      refine lv_iload_n hx hb dX12_far_24 rfl (lv_at hl 1 rfl) ?_
      refine lv_lshl hx hb dX12_far_25 rfl ?_
      obtain ⟨x3_6, e_6, hf⟩ := lt_inv hf
      refine nml e_6 ?_
      refine lv_lstore_n (lv' := [(3, .long x3_6), (0, .ref (o 0)), (1, .int x1), (2, .int x2)]) hx hb dX12_far_26 rfl hl (by decide) rfl (fun ls hl => ?_)
      refine lv_iconst (v := 0) hx hb dX12_far_27 (by decide) ?_
      refine lv_istore (lv' := [(5, .int 0), (3, .long x3_6), (0, .ref (o 0)), (1, .int x1), (2, .int x2)]) hx hb dX12_far_28 hl (by decide) rfl (fun ls hl => ?_)
      refine itr_inv2 (P := fun (x3_7 : Int64) (x5_7 : Int32) => ∀ (H : Heap) (locs : List Loc) (ls : Array Slot), CZ D A s H locs (WM y o s_1) → lv_has ls 9 [(0, .ref (o 0)), (2, .int x2), (3, .long x3_7), (5, .int x5_7)] → W p l e R s m args below meth c H locs 0 0 Q (F0 m 30 ls [])) hf ?_ _ _ _ hC (lv_sub hl [2, 4, 1, 0] rfl)
      intro a_30 x3_7 x5_7 ha_30 hf H locs ls hC hl
      refine lv_lload_n hx hb dX12_far_30 rfl (lv_at hl 2 rfl) ?_
      refine lv_iload_n hx hb dX12_far_31 rfl (lv_at hl 1 rfl) ?_
      obtain ⟨v_8, hc_8, hf⟩ := calp_inv hf
      refine cc_Si (r_X12_has (D := D) (y := y) (w := WM y o s_1) (ad := ad) (av := av) hc_8 l) hx hb hml hta hown hK hN hV hA hC hRc hRs (by omega) (by omega) wq_1010 wq_1011 wq_1012 wq_1008 hd_X12_has (As := [.long x3_7, .int x2]) (rest := []) rfl rfl hl.1 rfl dX12_far_32 (fun H locs hC => ?_)
      refine lv_if_ne (tgt := 105) hx hb dX12_far_35 (by decide) (fun c_9 => ?_) (fun c_9 => ?_)
      · have hf := it_f c_9 hf
        refine lv_iload hx hb dX12_far_105 (lv_at hl 3 rfl) ?_
        exact hret _ _ _ _ _ _ (rv_inv hf).1 (congrArg (WM y o) (rv_inv hf).2) rfl dX12_far_107 hC
      · have hf := it_t c_9 hf
        refine lv_lload_n hx hb dX12_far_38 rfl (lv_at hl 2 rfl) ?_
        refine lv_lstore (lv' := [(6, .long x3_7), (0, .ref (o 0)), (2, .int x2), (3, .long x3_7), (5, .int x5_7)]) hx hb dX12_far_39 hl (by decide) rfl (fun ls hl => ?_)
        refine lv_iconst (v := 0) hx hb dX12_far_41 (by decide) ?_
        refine lv_istore (lv' := [(8, .int 0), (6, .long x3_7), (0, .ref (o 0)), (2, .int x2), (3, .long x3_7), (5, .int x5_7)]) hx hb dX12_far_42 hl (by decide) rfl (fun ls hl => ?_)
        refine itr_inv2 (P := fun (x6_10 : Int64) (x8_10 : Int32) => ∀ (H : Heap) (locs : List Loc) (ls : Array Slot), CZ D A s H locs (WM y o s_1) → lv_has ls 9 [(0, .ref (o 0)), (2, .int x2), (3, .long x3_7), (5, .int x5_7), (6, .long x6_10), (8, .int x8_10)] → W p l e R s m args below meth c H locs 0 0 Q (F0 m 44 ls [])) hf ?_ _ _ _ hC (lv_sub hl [2, 3, 4, 5, 1, 0] rfl)
        intro a_44 x6_10 x8_10 ha_44 hf H locs ls hC hl
        refine lv_iload hx hb dX12_far_44 (lv_at hl 5 rfl) ?_
        refine lv_aload_n hx hb dX12_far_46 rfl (lv_at hl 0 rfl) ?_
        refine gt_X12_327_m hx hb hta hown hK hC dX12_far_47 ?_
        refine lv_icmp_ge (tgt := 87) hx hb dX12_far_50 (by decide) (fun c_11 => ?_) (fun c_11 => ?_)
        · have hf := it_t c_11 hf
          refine lv_lload hx hb dX12_far_87 (lv_at hl 4 rfl) ?_
          refine lv_lload_n hx hb dX12_far_89 rfl (lv_at hl 2 rfl) ?_
          refine W.lcmp hx hb dX12_far_90 ?_
          refine lv_if_ne (tgt := 96) hx hb dX12_far_91 (by decide) (fun c_12 => ?_) (fun c_12 => ?_)
          · have hf := it_f c_12 hf
            refine lv_lload hx hb dX12_far_96 (lv_at hl 4 rfl) ?_
            refine lv_lstore_n (lv' := [(3, .long x6_10), (0, .ref (o 0)), (2, .int x2), (5, .int x5_7), (6, .long x6_10), (8, .int x8_10)]) hx hb dX12_far_98 rfl hl (by decide) rfl (fun ls hl => ?_)
            obtain ⟨x5_13, e_13, hf⟩ := lt_inv hf
            refine lv_iinc (v := x5_13) (lv' := [(5, .int x5_13), (3, .long x6_10), (0, .ref (o 0)), (2, .int x2), (6, .long x6_10), (8, .int x8_10)]) hx hb dX12_far_99 hl (k := 3) rfl e_13.symm (by decide) rfl (fun ls hl => ?_)
            refine lv_goto (tgt := 30) hx hb dX12_far_102 (by decide) ?_
            exact ha_30 _ _ hf _ _ _ hC (lv_sub hl [2, 3, 1, 0] rfl)
          · have hf := it_t c_12 hf
            refine lv_iconst (v := (-1)) hx hb dX12_far_94 (by decide) ?_
            exact hret _ _ _ _ _ _ (rv_inv hf).1 (congrArg (WM y o) (rv_inv hf).2) rfl dX12_far_95 hC
        · have hf := it_f c_11 hf
          refine lv_lload_n hx hb dX12_far_53 rfl (lv_at hl 2 rfl) ?_
          refine lv_aload_n hx hb dX12_far_54 rfl (lv_at hl 0 rfl) ?_
          refine gt_X12_59_m hx hb hta hown hK hC dX12_far_55 ?_
          refine lv_iload hx hb dX12_far_58 (lv_at hl 5 rfl) ?_
          obtain ⟨hi_14, hf⟩ := ix_inv hf
          obtain ⟨v_14, e_14, hf⟩ := lt_inv hf
          refine al_M_17 hx hb hK hC hi_14 e_14 dX12_far_60 ?_
          obtain ⟨v_15, hc_15, hf⟩ := calp_inv hf
          refine cc_Si (r_X12_has (D := D) (y := y) (w := WM y o s_1) (ad := ad) (av := av) hc_15 l) hx hb hml hta hown hK hN hV hA hC hRc hRs (by omega) (by omega) wq_1010 wq_1011 wq_1012 wq_1008 hd_X12_has (As := [.long x3_7, .int v_14]) (rest := []) rfl rfl hl.1 rfl dX12_far_61 (fun H locs hC => ?_)
          obtain ⟨k_81, hk_81, hf⟩ := jn_inv1 hf
          have hj_81 : ∀ (x6_16 : Int64) (H : Heap) (locs : List Loc) (ls : Array Slot), k_81 x6_16 = some (v, σ2) → CZ D A s H locs (WM y o s_1) → lv_has ls 9 [(0, .ref (o 0)), (2, .int x2), (3, .long x3_7), (5, .int x5_7), (6, .long x6_16), (8, .int x8_10)] → W p l e R s m args below meth c H locs 0 0 Q (F0 m 81 ls []) := by
            intro x6_16 H locs ls hf hC hl
            have hf := hk_81 _ hf
            obtain ⟨x8_17, e_17, hf⟩ := lt_inv hf
            refine lv_iinc (v := x8_17) (lv' := [(8, .int x8_17), (0, .ref (o 0)), (2, .int x2), (3, .long x3_7), (5, .int x5_7), (6, .long x6_16)]) hx hb dX12_far_81 hl (k := 5) rfl e_17.symm (by decide) rfl (fun ls hl => ?_)
            refine lv_goto (tgt := 44) hx hb dX12_far_84 (by decide) ?_
            exact ha_44 _ _ hf _ _ _ hC (lv_sub hl [1, 2, 3, 4, 5, 0] rfl)
          refine lv_if_eq (tgt := 81) hx hb dX12_far_64 (by decide) (fun c_18 => ?_) (fun c_18 => ?_)
          · have hf := it_t c_18 hf
            exact hj_81 _ _ _ _ hf hC hl
          · have hf := it_f c_18 hf
            refine lv_lload hx hb dX12_far_67 (lv_at hl 4 rfl) ?_
            refine lv_lconst (v := 1) hx hb dX12_far_69 rfl ?_
            refine lv_aload_n hx hb dX12_far_70 rfl (lv_at hl 0 rfl) ?_
            refine gt_X12_62_m hx hb hta hown hK hC dX12_far_71 ?_
            refine lv_iload hx hb dX12_far_74 (lv_at hl 5 rfl) ?_
            obtain ⟨hi_19, hf⟩ := ix_inv hf
            obtain ⟨v_19, e_19, hf⟩ := lt_inv hf
            refine al_M_18 hx hb hK hC hi_19 e_19 dX12_far_76 ?_
            refine lv_lshl hx hb dX12_far_77 rfl ?_
            refine lv_lor hx hb dX12_far_78 ?_
            obtain ⟨x6_20, e_20, hf⟩ := lt_inv hf
            refine nml e_20 ?_
            refine lv_lstore (lv' := [(6, .long x6_20), (0, .ref (o 0)), (2, .int x2), (3, .long x3_7), (5, .int x5_7), (8, .int x8_10)]) hx hb dX12_far_79 hl (by decide) rfl (fun ls hl => ?_)
            exact hj_81 _ _ _ _ hf hC (lv_sub hl [1, 2, 3, 4, 0, 5] rfl)
    · have hf := it_t c_5 hf
      refine lv_iconst (v := (-1)) hx hb dX12_far_21 (by decide) ?_
      exact hret _ _ _ _ _ _ (rv_inv hf).1 (congrArg (WM y o) (rv_inv hf).2) rfl dX12_far_22 hC

set_option maxHeartbeats 8000000 in
set_option maxRecDepth 100000 in
theorem r_X12_mostLoops {D : va_G} {y : Nat → ClassId} {o : Nat → Nat} {ad av : Nat → Nat} {σ : Sto} {v : Int32} (hf : f_X12_mostLoops σ = some v) (l : Launch) (sz : Nat) : Met l yX12_mostLoops (Cond.code yX12_mostLoops cX12_mostLoops 3 (some .int) :: ALW) { frames := 2, cells := 0, slots := 0, locals := 60 } (va_Pc [.ref (o 0)] (PZ D y ad av (WM y o σ) sz)) (QZi D (WM y o σ) v (WM y o σ) sz) 0 0 (va_A (WM y o σ) sz) := by
  refine met_i (by decide) (Nat.le_of_ble_eq_true rfl) ?_
  intro p e R s m args below meth c Q A ls hx hb hml hta hown hRc hRs hRf hRl hN hK hV hA hret hC hl
  have hl : lv_has ls 3 [(0, .ref (o 0))] := hl
  unfold f_X12_mostLoops at hf
  refine lv_iconst (v := 0) hx hb dX12_mostLoops_0 (by decide) ?_
  refine lv_istore_n (lv' := [(1, .int 0), (0, .ref (o 0))]) hx hb dX12_mostLoops_1 rfl hl (by decide) rfl (fun ls hl => ?_)
  refine lv_iconst (v := 0) hx hb dX12_mostLoops_2 (by decide) ?_
  refine lv_istore_n (lv' := [(2, .int 0), (1, .int 0), (0, .ref (o 0))]) hx hb dX12_mostLoops_3 rfl hl (by decide) rfl (fun ls hl => ?_)
  refine itr_inv2 (P := fun (x1_1 : Int32) (x2_1 : Int32) => ∀ (H : Heap) (locs : List Loc) (ls : Array Slot), CZ D A s H locs (WM y o σ) → lv_has ls 3 [(0, .ref (o 0)), (1, .int x1_1), (2, .int x2_1)] → W p l e R s m args below meth c H locs 0 0 Q (F0 m 4 ls [])) hf ?_ _ _ _ hC (lv_sub hl [2, 1, 0] rfl)
  intro a_4 x1_1 x2_1 ha_4 hf H locs ls hC hl
  refine lv_iload_n hx hb dX12_mostLoops_4 rfl (lv_at hl 2 rfl) ?_
  refine lv_aload_n hx hb dX12_mostLoops_5 rfl (lv_at hl 0 rfl) ?_
  refine gt_X12_299_m hx hb hta hown hK hC dX12_mostLoops_6 ?_
  refine lv_icmp_ge (tgt := 28) hx hb dX12_mostLoops_9 (by decide) (fun c_2 => ?_) (fun c_2 => ?_)
  · have hf := it_t c_2 hf
    refine lv_iload_n hx hb dX12_mostLoops_28 rfl (lv_at hl 1 rfl) ?_
    exact hret _ _ _ _ _ _ (Option.some.inj hf) rfl rfl dX12_mostLoops_29 hC
  · have hf := it_f c_2 hf
    refine lv_iload_n hx hb dX12_mostLoops_12 rfl (lv_at hl 1 rfl) ?_
    refine lv_aload_n hx hb dX12_mostLoops_13 rfl (lv_at hl 0 rfl) ?_
    refine lv_iload_n hx hb dX12_mostLoops_14 rfl (lv_at hl 2 rfl) ?_
    obtain ⟨v_3, hc_3, hf⟩ := calp_inv hf
    refine cc_Vi (r_X12_loopsOf (D := D) (y := y) (o := o) (ad := ad) (av := av) hc_3 l) hx hb hml hta hown hK hN hV hA hC hRc hRs (by omega) (by omega) wq_1460 (q := 0) (ci := 12) rfl rfl wq_1461 wq_1462 wq_1012 wq_1452 hd_X12_loopsOf (As := [.int x2_1]) (rest := [.int x1_1]) rfl rfl hl.1 rfl dX12_mostLoops_15 (fun H locs hC => ?_)
    obtain ⟨v_4, e_4, hf⟩ := lt_inv hf
    refine cc_max hx hb hml hta hown hRc hRs (by omega) (by omega) wq_1236 hl.1 rfl e_4 dX12_mostLoops_18 ?_
    refine lv_istore_n (lv' := [(1, .int v_4), (0, .ref (o 0)), (2, .int x2_1)]) hx hb dX12_mostLoops_21 rfl hl (by decide) rfl (fun ls hl => ?_)
    obtain ⟨x2_5, e_5, hf⟩ := lt_inv hf
    refine lv_iinc (v := x2_5) (lv' := [(2, .int x2_5), (1, .int v_4), (0, .ref (o 0))]) hx hb dX12_mostLoops_22 hl (k := 2) rfl e_5.symm (by decide) rfl (fun ls hl => ?_)
    refine lv_goto (tgt := 4) hx hb dX12_mostLoops_25 (by decide) ?_
    exact ha_4 _ _ hf _ _ _ hC (lv_sub hl [2, 1, 0] rfl)

set_option maxHeartbeats 8000000 in
set_option maxRecDepth 100000 in
theorem r_X12_deepest {D : va_G} {y : Nat → ClassId} {o : Nat → Nat} {ad av : Nat → Nat} {σ : Sto} {v : Int32} (hf : f_X12_deepest σ = some v) (l : Launch) (sz : Nat) : Met l yX12_deepest (Cond.code yX12_deepest cX12_deepest 3 (some .int) :: ALW) { frames := 1, cells := 0, slots := 0, locals := 60 } (va_Pc [.ref (o 0)] (PZ D y ad av (WM y o σ) sz)) (QZi D (WM y o σ) v (WM y o σ) sz) 0 0 (va_A (WM y o σ) sz) := by
  refine met_i (by decide) (Nat.le_of_ble_eq_true rfl) ?_
  intro p e R s m args below meth c Q A ls hx hb hml hta hown hRc hRs hRf hRl hN hK hV hA hret hC hl
  have hl : lv_has ls 3 [(0, .ref (o 0))] := hl
  unfold f_X12_deepest at hf
  refine lv_iconst (v := 0) hx hb dX12_deepest_0 (by decide) ?_
  refine lv_istore_n (lv' := [(1, .int 0), (0, .ref (o 0))]) hx hb dX12_deepest_1 rfl hl (by decide) rfl (fun ls hl => ?_)
  refine lv_iconst (v := 0) hx hb dX12_deepest_2 (by decide) ?_
  refine lv_istore_n (lv' := [(2, .int 0), (1, .int 0), (0, .ref (o 0))]) hx hb dX12_deepest_3 rfl hl (by decide) rfl (fun ls hl => ?_)
  refine itr_inv2 (P := fun (x1_1 : Int32) (x2_1 : Int32) => ∀ (H : Heap) (locs : List Loc) (ls : Array Slot), CZ D A s H locs (WM y o σ) → lv_has ls 3 [(0, .ref (o 0)), (1, .int x1_1), (2, .int x2_1)] → W p l e R s m args below meth c H locs 0 0 Q (F0 m 4 ls [])) hf ?_ _ _ _ hC (lv_sub hl [2, 1, 0] rfl)
  intro a_4 x1_1 x2_1 ha_4 hf H locs ls hC hl
  refine lv_iload_n hx hb dX12_deepest_4 rfl (lv_at hl 2 rfl) ?_
  refine lv_aload_n hx hb dX12_deepest_5 rfl (lv_at hl 0 rfl) ?_
  refine gt_X12_479_m hx hb hta hown hK hC dX12_deepest_6 ?_
  refine lv_icmp_ge (tgt := 29) hx hb dX12_deepest_9 (by decide) (fun c_2 => ?_) (fun c_2 => ?_)
  · have hf := it_t c_2 hf
    refine lv_iload_n hx hb dX12_deepest_29 rfl (lv_at hl 1 rfl) ?_
    exact hret _ _ _ _ _ _ (Option.some.inj hf) rfl rfl dX12_deepest_30 hC
  · have hf := it_f c_2 hf
    refine lv_iload_n hx hb dX12_deepest_12 rfl (lv_at hl 1 rfl) ?_
    refine lv_aload_n hx hb dX12_deepest_13 rfl (lv_at hl 0 rfl) ?_
    refine gt_X12_139_m hx hb hta hown hK hC dX12_deepest_14 ?_
    refine lv_iload_n hx hb dX12_deepest_17 rfl (lv_at hl 2 rfl) ?_
    obtain ⟨hi_3, hf⟩ := ix_inv hf
    obtain ⟨v_3, e_3, hf⟩ := lt_inv hf
    refine al_M_43 hx hb hK hC hi_3 e_3 dX12_deepest_18 ?_
    obtain ⟨v_4, e_4, hf⟩ := lt_inv hf
    refine cc_max hx hb hml hta hown hRc hRs (by omega) (by omega) wq_1236 hl.1 rfl e_4 dX12_deepest_19 ?_
    refine lv_istore_n (lv' := [(1, .int v_4), (0, .ref (o 0)), (2, .int x2_1)]) hx hb dX12_deepest_22 rfl hl (by decide) rfl (fun ls hl => ?_)
    obtain ⟨x2_5, e_5, hf⟩ := lt_inv hf
    refine lv_iinc (v := x2_5) (lv' := [(2, .int x2_5), (1, .int v_4), (0, .ref (o 0))]) hx hb dX12_deepest_23 hl (k := 2) rfl e_5.symm (by decide) rfl (fun ls hl => ?_)
    refine lv_goto (tgt := 4) hx hb dX12_deepest_26 (by decide) ?_
    exact ha_4 _ _ hf _ _ _ hC (lv_sub hl [2, 1, 0] rfl)

set_option maxHeartbeats 8000000 in
set_option maxRecDepth 100000 in
theorem r_X12_mostLines {D : va_G} {y : Nat → ClassId} {o : Nat → Nat} {ad av : Nat → Nat} {x1 : Int32} {σ : Sto} {v : Int32} (hf : f_X12_mostLines x1 σ = some v) (l : Launch) (sz : Nat) : Met l yX12_mostLines (Cond.code yX12_mostLines cX12_mostLines 4 (some .int) :: ALW) { frames := 0, cells := 0, slots := 0, locals := 0 } (va_Pc [.ref (o 0), .int x1] (PZ D y ad av (WM y o σ) sz)) (QZi D (WM y o σ) v (WM y o σ) sz) 0 0 (va_A (WM y o σ) sz) := by
  refine met_i (by decide) (Nat.le_of_ble_eq_true rfl) ?_
  intro p e R s m args below meth c Q A ls hx hb hml hta hown hRc hRs hRf hRl hN hK hV hA hret hC hl
  have hl : lv_has ls 4 [(0, .ref (o 0)), (1, .int x1)] := hl
  unfold f_X12_mostLines at hf
  refine lv_iconst (v := 0) hx hb dX12_mostLines_0 (by decide) ?_
  refine lv_istore_n (lv' := [(2, .int 0), (0, .ref (o 0)), (1, .int x1)]) hx hb dX12_mostLines_1 rfl hl (by decide) rfl (fun ls hl => ?_)
  refine lv_iconst (v := 0) hx hb dX12_mostLines_2 (by decide) ?_
  refine lv_istore_n (lv' := [(3, .int 0), (2, .int 0), (0, .ref (o 0)), (1, .int x1)]) hx hb dX12_mostLines_3 rfl hl (by decide) rfl (fun ls hl => ?_)
  refine itr_inv2 (P := fun (x2_1 : Int32) (x3_1 : Int32) => ∀ (H : Heap) (locs : List Loc) (ls : Array Slot), CZ D A s H locs (WM y o σ) → lv_has ls 4 [(0, .ref (o 0)), (1, .int x1), (2, .int x2_1), (3, .int x3_1)] → W p l e R s m args below meth c H locs 0 0 Q (F0 m 4 ls [])) hf ?_ _ _ _ hC (lv_sub hl [2, 3, 1, 0] rfl)
  intro a_4 x2_1 x3_1 ha_4 hf H locs ls hC hl
  refine lv_iload_n hx hb dX12_mostLines_4 rfl (lv_at hl 3 rfl) ?_
  refine lv_aload_n hx hb dX12_mostLines_5 rfl (lv_at hl 0 rfl) ?_
  refine gt_X12_479_m hx hb hta hown hK hC dX12_mostLines_6 ?_
  refine lv_icmp_ge (tgt := 36) hx hb dX12_mostLines_9 (by decide) (fun c_2 => ?_) (fun c_2 => ?_)
  · have hf := it_t c_2 hf
    refine lv_iload_n hx hb dX12_mostLines_36 rfl (lv_at hl 2 rfl) ?_
    exact hret _ _ _ _ _ _ (Option.some.inj hf) rfl rfl dX12_mostLines_37 hC
  · have hf := it_f c_2 hf
    refine lv_iload_n hx hb dX12_mostLines_12 rfl (lv_at hl 2 rfl) ?_
    refine lv_aload_n hx hb dX12_mostLines_13 rfl (lv_at hl 0 rfl) ?_
    refine gt_X12_133_m hx hb hta hown hK hC dX12_mostLines_14 ?_
    refine lv_iload_n hx hb dX12_mostLines_17 rfl (lv_at hl 3 rfl) ?_
    obtain ⟨hi_3, hf⟩ := ix_inv hf
    obtain ⟨v_3, e_3, hf⟩ := lt_inv hf
    refine al_M_41 hx hb hK hC hi_3 e_3 dX12_mostLines_18 ?_
    refine lv_iload_n hx hb dX12_mostLines_19 rfl (lv_at hl 1 rfl) ?_
    obtain ⟨k_28, hk_28, hf⟩ := jn_inv1 hf
    have hj_28 : ∀ (t0_4 : Int32) (H : Heap) (locs : List Loc) (ls : Array Slot), k_28 t0_4 = some v → CZ D A s H locs (WM y o σ) → lv_has ls 4 [(0, .ref (o 0)), (1, .int x1), (3, .int x3_1)] → W p l e R s m args below meth c H locs 0 0 Q (F0 m 28 ls [.int t0_4, .int x2_1]) := by
      intro t0_4 H locs ls hf hC hl
      have hf := hk_28 _ hf
      refine lv_iadd hx hb dX12_mostLines_28 ?_
      obtain ⟨x2_5, e_5, hf⟩ := lt_inv hf
      refine nmi e_5 ?_
      refine lv_istore_n (lv' := [(2, .int x2_5), (0, .ref (o 0)), (1, .int x1), (3, .int x3_1)]) hx hb dX12_mostLines_29 rfl hl (by decide) rfl (fun ls hl => ?_)
      obtain ⟨x3_6, e_6, hf⟩ := lt_inv hf
      refine lv_iinc (v := x3_6) (lv' := [(3, .int x3_6), (2, .int x2_5), (0, .ref (o 0)), (1, .int x1)]) hx hb dX12_mostLines_30 hl (k := 3) rfl e_6.symm (by decide) rfl (fun ls hl => ?_)
      refine lv_goto (tgt := 4) hx hb dX12_mostLines_33 (by decide) ?_
      exact ha_4 _ _ hf _ _ _ hC (lv_sub hl [2, 3, 1, 0] rfl)
    refine lv_icmp_ne (tgt := 27) hx hb dX12_mostLines_20 (by decide) (fun c_7 => ?_) (fun c_7 => ?_)
    · have hf := it_f c_7 hf
      refine lv_iconst (v := 0) hx hb dX12_mostLines_27 (by decide) ?_
      exact hj_28 _ _ _ _ hf hC (lv_sub hl [0, 1, 3] rfl)
    · have hf := it_t c_7 hf
      refine lv_iconst (v := 1) hx hb dX12_mostLines_23 (by decide) ?_
      refine lv_goto (tgt := 28) hx hb dX12_mostLines_24 (by decide) ?_
      exact hj_28 _ _ _ _ hf hC (lv_sub hl [0, 1, 3] rfl)

set_option maxHeartbeats 8000000 in
set_option maxRecDepth 100000 in
theorem r_X12_mostWithin {D : va_G} {y : Nat → ClassId} {o : Nat → Nat} {ad av : Nat → Nat} {σ : Sto} {v : Int32} (hf : f_X12_mostWithin σ = some v) (l : Launch) (sz : Nat) : Met l yX12_mostWithin (Cond.code yX12_mostWithin cX12_mostWithin 3 (some .int) :: ALW) { frames := 252, cells := 0, slots := 0, locals := 5292 } (va_Pc [.ref (o 0)] (PZ D y ad av (WM y o σ) sz)) (QZi D (WM y o σ) v (WM y o σ) sz) 0 0 (va_A (WM y o σ) sz) := by
  refine met_i (by decide) (Nat.le_of_ble_eq_true rfl) ?_
  intro p e R s m args below meth c Q A ls hx hb hml hta hown hRc hRs hRf hRl hN hK hV hA hret hC hl
  have hl : lv_has ls 3 [(0, .ref (o 0))] := hl
  unfold f_X12_mostWithin at hf
  refine lv_iconst (v := 0) hx hb dX12_mostWithin_0 (by decide) ?_
  refine lv_istore_n (lv' := [(1, .int 0), (0, .ref (o 0))]) hx hb dX12_mostWithin_1 rfl hl (by decide) rfl (fun ls hl => ?_)
  refine lv_iconst (v := 0) hx hb dX12_mostWithin_2 (by decide) ?_
  refine lv_istore_n (lv' := [(2, .int 0), (1, .int 0), (0, .ref (o 0))]) hx hb dX12_mostWithin_3 rfl hl (by decide) rfl (fun ls hl => ?_)
  refine itr_inv2 (P := fun (x1_1 : Int32) (x2_1 : Int32) => ∀ (H : Heap) (locs : List Loc) (ls : Array Slot), CZ D A s H locs (WM y o σ) → lv_has ls 3 [(0, .ref (o 0)), (1, .int x1_1), (2, .int x2_1)] → W p l e R s m args below meth c H locs 0 0 Q (F0 m 4 ls [])) hf ?_ _ _ _ hC (lv_sub hl [2, 1, 0] rfl)
  intro a_4 x1_1 x2_1 ha_4 hf H locs ls hC hl
  refine lv_iload_n hx hb dX12_mostWithin_4 rfl (lv_at hl 2 rfl) ?_
  refine lv_aload_n hx hb dX12_mostWithin_5 rfl (lv_at hl 0 rfl) ?_
  refine gt_X12_407_m hx hb hta hown hK hC dX12_mostWithin_6 ?_
  refine lv_icmp_ge (tgt := 43) hx hb dX12_mostWithin_9 (by decide) (fun c_2 => ?_) (fun c_2 => ?_)
  · have hf := it_t c_2 hf
    refine lv_iload_n hx hb dX12_mostWithin_43 rfl (lv_at hl 1 rfl) ?_
    exact hret _ _ _ _ _ _ (Option.some.inj hf) rfl rfl dX12_mostWithin_44 hC
  · have hf := it_f c_2 hf
    refine lv_aload_n hx hb dX12_mostWithin_12 rfl (lv_at hl 0 rfl) ?_
    refine gt_X12_103_m hx hb hta hown hK hC dX12_mostWithin_13 ?_
    refine lv_iload_n hx hb dX12_mostWithin_16 rfl (lv_at hl 2 rfl) ?_
    obtain ⟨hi_3, hf⟩ := ix_inv hf
    obtain ⟨v_3, e_3, hf⟩ := lt_inv hf
    refine al_M_31 hx hb hK hC hi_3 e_3 dX12_mostWithin_17 ?_
    refine lv_iconst (v := (-1)) hx hb dX12_mostWithin_18 (by decide) ?_
    obtain ⟨k_37, hk_37, hf⟩ := jn_inv1 hf
    have hj_37 : ∀ (x1_4 : Int32) (H : Heap) (locs : List Loc) (ls : Array Slot), k_37 x1_4 = some v → CZ D A s H locs (WM y o σ) → lv_has ls 3 [(0, .ref (o 0)), (1, .int x1_4), (2, .int x2_1)] → W p l e R s m args below meth c H locs 0 0 Q (F0 m 37 ls []) := by
      intro x1_4 H locs ls hf hC hl
      have hf := hk_37 _ hf
      obtain ⟨x2_5, e_5, hf⟩ := lt_inv hf
      refine lv_iinc (v := x2_5) (lv' := [(2, .int x2_5), (0, .ref (o 0)), (1, .int x1_4)]) hx hb dX12_mostWithin_37 hl (k := 2) rfl e_5.symm (by decide) rfl (fun ls hl => ?_)
      refine lv_goto (tgt := 4) hx hb dX12_mostWithin_40 (by decide) ?_
      exact ha_4 _ _ hf _ _ _ hC (lv_sub hl [1, 2, 0] rfl)
    refine lv_icmp_eq (tgt := 37) hx hb dX12_mostWithin_19 (by decide) (fun c_6 => ?_) (fun c_6 => ?_)
    · have hf := it_t c_6 hf
      exact hj_37 _ _ _ _ hf hC hl
    · have hf := it_f c_6 hf
      refine lv_iload_n hx hb dX12_mostWithin_22 rfl (lv_at hl 1 rfl) ?_
      refine lv_aload_n hx hb dX12_mostWithin_23 rfl (lv_at hl 0 rfl) ?_
      refine lv_aload_n hx hb dX12_mostWithin_24 rfl (lv_at hl 0 rfl) ?_
      refine gt_X12_103_m hx hb hta hown hK hC dX12_mostWithin_25 ?_
      refine lv_iload_n hx hb dX12_mostWithin_28 rfl (lv_at hl 2 rfl) ?_
      obtain ⟨hi_7, hf⟩ := ix_inv hf
      obtain ⟨v_7, e_7, hf⟩ := lt_inv hf
      refine al_M_31 hx hb hK hC hi_7 e_7 dX12_mostWithin_29 ?_
      obtain ⟨v_8, hc_8, hf⟩ := calp_inv hf
      refine cc_Vi (r_X12_within 250 (D := D) (y := y) (o := o) (ad := ad) (av := av) hc_8 l) hx hb hml hta hown hK hN hV hA hC hRc hRs (by omega) (by omega) wq_1369 (q := 0) (ci := 12) rfl rfl wq_1370 wq_1371 wq_1012 wq_1368 hd_X12_within (As := [.int v_7]) (rest := [.int x1_1]) rfl rfl hl.1 rfl dX12_mostWithin_30 (fun H locs hC => ?_)
      obtain ⟨v_9, e_9, hf⟩ := lt_inv hf
      refine cc_max hx hb hml hta hown hRc hRs (by omega) (by omega) wq_1236 hl.1 rfl e_9 dX12_mostWithin_33 ?_
      refine lv_istore_n (lv' := [(1, .int v_9), (0, .ref (o 0)), (2, .int x2_1)]) hx hb dX12_mostWithin_36 rfl hl (by decide) rfl (fun ls hl => ?_)
      exact hj_37 _ _ _ _ hf hC (lv_sub hl [1, 0, 2] rfl)

set_option maxHeartbeats 8000000 in
set_option maxRecDepth 100000 in
theorem r_X12_mostOnStack {D : va_G} {y : Nat → ClassId} {o : Nat → Nat} {ad av : Nat → Nat} {σ : Sto} {v : Int32} (hf : f_X12_mostOnStack σ = some v) (l : Launch) (sz : Nat) : Met l yX12_mostOnStack (Cond.code yX12_mostOnStack cX12_mostOnStack 3 (some .int) :: ALW) { frames := 10, cells := 0, slots := 0, locals := 242 } (va_Pc [.ref (o 0)] (PZ D y ad av (WM y o σ) sz)) (QZi D (WM y o σ) v (WM y o σ) sz) 0 0 (va_A (WM y o σ) sz) := by
  refine met_i (by decide) (Nat.le_of_ble_eq_true rfl) ?_
  intro p e R s m args below meth c Q A ls hx hb hml hta hown hRc hRs hRf hRl hN hK hV hA hret hC hl
  have hl : lv_has ls 3 [(0, .ref (o 0))] := hl
  unfold f_X12_mostOnStack at hf
  refine lv_iconst (v := 0) hx hb dX12_mostOnStack_0 (by decide) ?_
  refine lv_istore_n (lv' := [(1, .int 0), (0, .ref (o 0))]) hx hb dX12_mostOnStack_1 rfl hl (by decide) rfl (fun ls hl => ?_)
  refine lv_iconst (v := 0) hx hb dX12_mostOnStack_2 (by decide) ?_
  refine lv_istore_n (lv' := [(2, .int 0), (1, .int 0), (0, .ref (o 0))]) hx hb dX12_mostOnStack_3 rfl hl (by decide) rfl (fun ls hl => ?_)
  refine itr_inv2 (P := fun (x1_1 : Int32) (x2_1 : Int32) => ∀ (H : Heap) (locs : List Loc) (ls : Array Slot), CZ D A s H locs (WM y o σ) → lv_has ls 3 [(0, .ref (o 0)), (1, .int x1_1), (2, .int x2_1)] → W p l e R s m args below meth c H locs 0 0 Q (F0 m 4 ls [])) hf ?_ _ _ _ hC (lv_sub hl [2, 1, 0] rfl)
  intro a_4 x1_1 x2_1 ha_4 hf H locs ls hC hl
  refine lv_iload_n hx hb dX12_mostOnStack_4 rfl (lv_at hl 2 rfl) ?_
  refine lv_aload_n hx hb dX12_mostOnStack_5 rfl (lv_at hl 0 rfl) ?_
  refine gt_X12_286_m hx hb hta hown hK hC dX12_mostOnStack_6 ?_
  refine lv_icmp_ge (tgt := 66) hx hb dX12_mostOnStack_9 (by decide) (fun c_2 => ?_) (fun c_2 => ?_)
  · have hf := it_t c_2 hf
    refine lv_iload_n hx hb dX12_mostOnStack_66 rfl (lv_at hl 1 rfl) ?_
    exact hret _ _ _ _ _ _ (Option.some.inj hf) rfl rfl dX12_mostOnStack_67 hC
  · have hf := it_f c_2 hf
    refine lv_aload_n hx hb dX12_mostOnStack_12 rfl (lv_at hl 0 rfl) ?_
    refine lv_iload_n hx hb dX12_mostOnStack_13 rfl (lv_at hl 2 rfl) ?_
    obtain ⟨v_3, hc_3, hf⟩ := calp_inv hf
    refine cc_Vi (r_X12_isCome (D := D) (y := y) (o := o) (ad := ad) (av := av) hc_3 l) hx hb hml hta hown hK hN hV hA hC hRc hRs (by omega) (by omega) wq_1105 (q := 0) (ci := 12) rfl rfl wq_1106 wq_1107 wq_1012 wq_1102 hd_X12_isCome (As := [.int x2_1]) (rest := []) rfl rfl hl.1 rfl dX12_mostOnStack_14 (fun H locs hC => ?_)
    obtain ⟨k_60, hk_60, hf⟩ := jn_inv1 hf
    have hj_60 : ∀ (x1_4 : Int32) (H : Heap) (locs : List Loc) (ls : Array Slot), k_60 x1_4 = some v → CZ D A s H locs (WM y o σ) → lv_has ls 3 [(0, .ref (o 0)), (1, .int x1_4), (2, .int x2_1)] → W p l e R s m args below meth c H locs 0 0 Q (F0 m 60 ls []) := by
      intro x1_4 H locs ls hf hC hl
      have hf := hk_60 _ hf
      obtain ⟨x2_5, e_5, hf⟩ := lt_inv hf
      refine lv_iinc (v := x2_5) (lv' := [(2, .int x2_5), (0, .ref (o 0)), (1, .int x1_4)]) hx hb dX12_mostOnStack_60 hl (k := 2) rfl e_5.symm (by decide) rfl (fun ls hl => ?_)
      refine lv_goto (tgt := 4) hx hb dX12_mostOnStack_63 (by decide) ?_
      exact ha_4 _ _ hf _ _ _ hC (lv_sub hl [1, 2, 0] rfl)
    refine lv_if_eq (tgt := 60) hx hb dX12_mostOnStack_17 (by decide) (fun c_6 => ?_) (fun c_6 => ?_)
    · have hf := it_t c_6 hf
      exact hj_60 _ _ _ _ hf hC hl
    · have hf := it_f c_6 hf
      refine lv_iload_n hx hb dX12_mostOnStack_20 rfl (lv_at hl 1 rfl) ?_
      refine lv_aload_n hx hb dX12_mostOnStack_21 rfl (lv_at hl 0 rfl) ?_
      refine gt_X12_44_m hx hb hta hown hK hC dX12_mostOnStack_22 ?_
      refine lv_iload_n hx hb dX12_mostOnStack_25 rfl (lv_at hl 2 rfl) ?_
      obtain ⟨hi_7, hf⟩ := ix_inv hf
      obtain ⟨v_7, e_7, hf⟩ := lt_inv hf
      refine al_M_12 hx hb hK hC hi_7 e_7 dX12_mostOnStack_26 ?_
      refine lv_aload_n hx hb dX12_mostOnStack_27 rfl (lv_at hl 0 rfl) ?_
      refine gt_X12_44_m hx hb hta hown hK hC dX12_mostOnStack_28 ?_
      refine lv_iload_n hx hb dX12_mostOnStack_31 rfl (lv_at hl 2 rfl) ?_
      obtain ⟨hi_8, hf⟩ := ix_inv hf
      obtain ⟨v_8, e_8, hf⟩ := lt_inv hf
      refine al_M_12 hx hb hK hC hi_8 e_8 dX12_mostOnStack_32 ?_
      refine lv_aload_n hx hb dX12_mostOnStack_33 rfl (lv_at hl 0 rfl) ?_
      refine gt_X12_23_m hx hb hta hown hK hC dX12_mostOnStack_34 ?_
      refine lv_iload_n hx hb dX12_mostOnStack_37 rfl (lv_at hl 2 rfl) ?_
      obtain ⟨hi_9, hf⟩ := ix_inv hf
      obtain ⟨v_9, e_9, hf⟩ := lt_inv hf
      refine al_M_5 hx hb hK hC hi_9 e_9 dX12_mostOnStack_38 ?_
      obtain ⟨v_10, hc_10, hf⟩ := calp_inv hf
      refine cc_Si (r_X12_pops (D := D) (y := y) (w := WM y o σ) (ad := ad) (av := av) hc_10 l) hx hb hml hta hown hK hN hV hA hC hRc hRs (by omega) (by omega) wq_1081 wq_1082 wq_1012 wq_1072 hd_X12_pops (As := [.int v_9]) (rest := [.int v_8, .int v_7, .int x1_1]) rfl rfl hl.1 rfl dX12_mostOnStack_39 (fun H locs hC => ?_)
      refine lv_isub hx hb dX12_mostOnStack_42 ?_
      refine lv_aload_n hx hb dX12_mostOnStack_43 rfl (lv_at hl 0 rfl) ?_
      refine gt_X12_23_m hx hb hta hown hK hC dX12_mostOnStack_44 ?_
      refine lv_iload_n hx hb dX12_mostOnStack_47 rfl (lv_at hl 2 rfl) ?_
      obtain ⟨hi_11, hf⟩ := ix_inv hf
      obtain ⟨v_11, e_11, hf⟩ := lt_inv hf
      refine al_M_5 hx hb hK hC hi_11 e_11 dX12_mostOnStack_48 ?_
      obtain ⟨v_12, hc_12, hf⟩ := calp_inv hf
      refine cc_Si (r_X12_pushes (D := D) (y := y) (w := WM y o σ) (ad := ad) (av := av) hc_12 l) hx hb hml hta hown hK hN hV hA hC hRc hRs (by omega) (by omega) wq_1083 wq_1084 wq_1012 wq_1073 hd_X12_pushes (As := [.int v_11]) (rest := [.int (v_8 - v_10), .int v_7, .int x1_1]) rfl rfl hl.1 rfl dX12_mostOnStack_49 (fun H locs hC => ?_)
      refine lv_iadd hx hb dX12_mostOnStack_52 ?_
      obtain ⟨v_13, e_13, hf⟩ := lt_inv hf
      refine cc_max hx hb hml hta hown hRc hRs (by omega) (by omega) wq_1236 hl.1 rfl e_13 dX12_mostOnStack_53 ?_
      obtain ⟨v_14, e_14, hf⟩ := lt_inv hf
      refine cc_max hx hb hml hta hown hRc hRs (by omega) (by omega) wq_1236 hl.1 rfl e_14 dX12_mostOnStack_56 ?_
      refine lv_istore_n (lv' := [(1, .int v_14), (0, .ref (o 0)), (2, .int x2_1)]) hx hb dX12_mostOnStack_59 rfl hl (by decide) rfl (fun ls hl => ?_)
      exact hj_60 _ _ _ _ hf hC (lv_sub hl [1, 0, 2] rfl)

set_option maxHeartbeats 8000000 in
set_option maxRecDepth 100000 in
theorem r_X12_longestBlock {D : va_G} {y : Nat → ClassId} {o : Nat → Nat} {ad av : Nat → Nat} {σ : Sto} {v : Int32} (hf : f_X12_longestBlock σ = some v) (l : Launch) (sz : Nat) : Met l yX12_longestBlock (Cond.code yX12_longestBlock cX12_longestBlock 3 (some .int) :: ALW) { frames := 0, cells := 0, slots := 0, locals := 0 } (va_Pc [.ref (o 0)] (PZ D y ad av (WM y o σ) sz)) (QZi D (WM y o σ) v (WM y o σ) sz) 0 0 (va_A (WM y o σ) sz) := by
  refine met_i (by decide) (Nat.le_of_ble_eq_true rfl) ?_
  intro p e R s m args below meth c Q A ls hx hb hml hta hown hRc hRs hRf hRl hN hK hV hA hret hC hl
  have hl : lv_has ls 3 [(0, .ref (o 0))] := hl
  unfold f_X12_longestBlock at hf
  refine lv_iconst (v := 0) hx hb dX12_longestBlock_0 (by decide) ?_
  refine lv_istore_n (lv' := [(1, .int 0), (0, .ref (o 0))]) hx hb dX12_longestBlock_1 rfl hl (by decide) rfl (fun ls hl => ?_)
  refine lv_iconst (v := 1) hx hb dX12_longestBlock_2 (by decide) ?_
  refine lv_istore_n (lv' := [(2, .int 1), (1, .int 0), (0, .ref (o 0))]) hx hb dX12_longestBlock_3 rfl hl (by decide) rfl (fun ls hl => ?_)
  refine itr_inv2 (P := fun (x1_1 : Int32) (x2_1 : Int32) => ∀ (H : Heap) (locs : List Loc) (ls : Array Slot), CZ D A s H locs (WM y o σ) → lv_has ls 3 [(0, .ref (o 0)), (1, .int x1_1), (2, .int x2_1)] → W p l e R s m args below meth c H locs 0 0 Q (F0 m 4 ls [])) hf ?_ _ _ _ hC (lv_sub hl [2, 1, 0] rfl)
  intro a_4 x1_1 x2_1 ha_4 hf H locs ls hC hl
  refine lv_iload_n hx hb dX12_longestBlock_4 rfl (lv_at hl 2 rfl) ?_
  refine lv_aload_n hx hb dX12_longestBlock_5 rfl (lv_at hl 0 rfl) ?_
  refine gt_X12_299_m hx hb hta hown hK hC dX12_longestBlock_6 ?_
  refine lv_icmp_ge (tgt := 53) hx hb dX12_longestBlock_9 (by decide) (fun c_2 => ?_) (fun c_2 => ?_)
  · have hf := it_t c_2 hf
    refine lv_iload_n hx hb dX12_longestBlock_53 rfl (lv_at hl 1 rfl) ?_
    exact hret _ _ _ _ _ _ (Option.some.inj hf) rfl rfl dX12_longestBlock_54 hC
  · have hf := it_f c_2 hf
    refine lv_aload_n hx hb dX12_longestBlock_12 rfl (lv_at hl 0 rfl) ?_
    refine gt_X12_106_m hx hb hta hown hK hC dX12_longestBlock_13 ?_
    refine lv_iload_n hx hb dX12_longestBlock_16 rfl (lv_at hl 2 rfl) ?_
    refine lv_iconst (v := 1) hx hb dX12_longestBlock_17 (by decide) ?_
    refine lv_iadd hx hb dX12_longestBlock_18 ?_
    obtain ⟨hi_3, hf⟩ := ix_inv hf
    obtain ⟨v_3, e_3, hf⟩ := lt_inv hf
    refine al_M_32 hx hb hK hC hi_3 e_3 dX12_longestBlock_19 ?_
    refine lv_aload_n hx hb dX12_longestBlock_20 rfl (lv_at hl 0 rfl) ?_
    refine gt_X12_106_m hx hb hta hown hK hC dX12_longestBlock_21 ?_
    refine lv_iload_n hx hb dX12_longestBlock_24 rfl (lv_at hl 2 rfl) ?_
    obtain ⟨hi_4, hf⟩ := ix_inv hf
    obtain ⟨v_4, e_4, hf⟩ := lt_inv hf
    refine al_M_32 hx hb hK hC hi_4 e_4 dX12_longestBlock_25 ?_
    refine lv_isub hx hb dX12_longestBlock_26 ?_
    refine lv_aload_n hx hb dX12_longestBlock_27 rfl (lv_at hl 0 rfl) ?_
    refine gt_X12_106_m hx hb hta hown hK hC dX12_longestBlock_28 ?_
    refine lv_iload_n hx hb dX12_longestBlock_31 rfl (lv_at hl 1 rfl) ?_
    refine lv_iconst (v := 1) hx hb dX12_longestBlock_32 (by decide) ?_
    refine lv_iadd hx hb dX12_longestBlock_33 ?_
    obtain ⟨hi_5, hf⟩ := ix_inv hf
    obtain ⟨v_5, e_5, hf⟩ := lt_inv hf
    refine al_M_32 hx hb hK hC hi_5 e_5 dX12_longestBlock_34 ?_
    refine lv_aload_n hx hb dX12_longestBlock_35 rfl (lv_at hl 0 rfl) ?_
    refine gt_X12_106_m hx hb hta hown hK hC dX12_longestBlock_36 ?_
    refine lv_iload_n hx hb dX12_longestBlock_39 rfl (lv_at hl 1 rfl) ?_
    obtain ⟨hi_6, hf⟩ := ix_inv hf
    obtain ⟨v_6, e_6, hf⟩ := lt_inv hf
    refine al_M_32 hx hb hK hC hi_6 e_6 dX12_longestBlock_40 ?_
    refine lv_isub hx hb dX12_longestBlock_41 ?_
    obtain ⟨k_47, hk_47, hf⟩ := jn_inv1 hf
    have hj_47 : ∀ (x1_7 : Int32) (H : Heap) (locs : List Loc) (ls : Array Slot), k_47 x1_7 = some v → CZ D A s H locs (WM y o σ) → lv_has ls 3 [(0, .ref (o 0)), (1, .int x1_7), (2, .int x2_1)] → W p l e R s m args below meth c H locs 0 0 Q (F0 m 47 ls []) := by
      intro x1_7 H locs ls hf hC hl
      have hf := hk_47 _ hf
      obtain ⟨x2_8, e_8, hf⟩ := lt_inv hf
      refine lv_iinc (v := x2_8) (lv' := [(2, .int x2_8), (0, .ref (o 0)), (1, .int x1_7)]) hx hb dX12_longestBlock_47 hl (k := 2) rfl e_8.symm (by decide) rfl (fun ls hl => ?_)
      refine lv_goto (tgt := 4) hx hb dX12_longestBlock_50 (by decide) ?_
      exact ha_4 _ _ hf _ _ _ hC (lv_sub hl [1, 2, 0] rfl)
    refine lv_icmp_le (tgt := 47) hx hb dX12_longestBlock_42 (by decide) (fun c_9 => ?_) (fun c_9 => ?_)
    · have hf := it_t c_9 hf
      exact hj_47 _ _ _ _ hf hC hl
    · have hf := it_f c_9 hf
      refine lv_iload_n hx hb dX12_longestBlock_45 rfl (lv_at hl 2 rfl) ?_
      refine lv_istore_n (lv' := [(1, .int x2_1), (0, .ref (o 0)), (2, .int x2_1)]) hx hb dX12_longestBlock_46 rfl hl (by decide) rfl (fun ls hl => ?_)
      exact hj_47 _ _ _ _ hf hC (lv_sub hl [1, 0, 2] rfl)

set_option maxHeartbeats 8000000 in
set_option maxRecDepth 100000 in
theorem r_X12_truths {D : va_G} {y : Nat → ClassId} {o : Nat → Nat} {ad av : Nat → Nat} {σ : Sto} {v : Int32} (hf : f_X12_truths σ = some v) (l : Launch) (sz : Nat) : Met l yX12_truths (Cond.code yX12_truths cX12_truths 3 (some .int) :: ALW) { frames := 0, cells := 0, slots := 0, locals := 0 } (va_Pc [.ref (o 0)] (PZ D y ad av (WM y o σ) sz)) (QZi D (WM y o σ) v (WM y o σ) sz) 0 0 (va_A (WM y o σ) sz) := by
  refine met_i (by decide) (Nat.le_of_ble_eq_true rfl) ?_
  intro p e R s m args below meth c Q A ls hx hb hml hta hown hRc hRs hRf hRl hN hK hV hA hret hC hl
  have hl : lv_has ls 3 [(0, .ref (o 0))] := hl
  unfold f_X12_truths at hf
  refine lv_iconst (v := 0) hx hb dX12_truths_0 (by decide) ?_
  refine lv_istore_n (lv' := [(1, .int 0), (0, .ref (o 0))]) hx hb dX12_truths_1 rfl hl (by decide) rfl (fun ls hl => ?_)
  refine lv_iconst (v := 0) hx hb dX12_truths_2 (by decide) ?_
  refine lv_istore_n (lv' := [(2, .int 0), (1, .int 0), (0, .ref (o 0))]) hx hb dX12_truths_3 rfl hl (by decide) rfl (fun ls hl => ?_)
  refine itr_inv2 (P := fun (x1_1 : Int32) (x2_1 : Int32) => ∀ (H : Heap) (locs : List Loc) (ls : Array Slot), CZ D A s H locs (WM y o σ) → lv_has ls 3 [(0, .ref (o 0)), (1, .int x1_1), (2, .int x2_1)] → W p l e R s m args below meth c H locs 0 0 Q (F0 m 4 ls [])) hf ?_ _ _ _ hC (lv_sub hl [2, 1, 0] rfl)
  intro a_4 x1_1 x2_1 ha_4 hf H locs ls hC hl
  refine lv_iload_n hx hb dX12_truths_4 rfl (lv_at hl 2 rfl) ?_
  refine lv_bipush (v := 6) hx hb dX12_truths_5 (by decide) ?_
  refine lv_icmp_ge (tgt := 33) hx hb dX12_truths_7 (by decide) (fun c_2 => ?_) (fun c_2 => ?_)
  · have hf := it_t c_2 hf
    refine lv_iconst (v := 0) hx hb dX12_truths_33 (by decide) ?_
    refine lv_istore_n (lv' := [(2, .int 0), (0, .ref (o 0)), (1, .int x1_1)]) hx hb dX12_truths_34 rfl hl (by decide) rfl (fun ls hl => ?_)
    refine itr_inv2 (P := fun (x1_3 : Int32) (x2_3 : Int32) => ∀ (H : Heap) (locs : List Loc) (ls : Array Slot), CZ D A s H locs (WM y o σ) → lv_has ls 3 [(0, .ref (o 0)), (1, .int x1_3), (2, .int x2_3)] → W p l e R s m args below meth c H locs 0 0 Q (F0 m 35 ls [])) hf ?_ _ _ _ hC (lv_sub hl [1, 2, 0] rfl)
    intro a_35 x1_3 x2_3 ha_35 hf H locs ls hC hl
    refine lv_iload_n hx hb dX12_truths_35 rfl (lv_at hl 2 rfl) ?_
    refine lv_aload_n hx hb dX12_truths_36 rfl (lv_at hl 0 rfl) ?_
    refine gt_X12_447_m hx hb hta hown hK hC dX12_truths_37 ?_
    refine lv_icmp_ge (tgt := 66) hx hb dX12_truths_40 (by decide) (fun c_4 => ?_) (fun c_4 => ?_)
    · have hf := it_t c_4 hf
      refine lv_iconst (v := 0) hx hb dX12_truths_66 (by decide) ?_
      refine lv_istore_n (lv' := [(2, .int 0), (0, .ref (o 0)), (1, .int x1_3)]) hx hb dX12_truths_67 rfl hl (by decide) rfl (fun ls hl => ?_)
      refine itr_inv2 (P := fun (x1_5 : Int32) (x2_5 : Int32) => ∀ (H : Heap) (locs : List Loc) (ls : Array Slot), CZ D A s H locs (WM y o σ) → lv_has ls 3 [(0, .ref (o 0)), (1, .int x1_5), (2, .int x2_5)] → W p l e R s m args below meth c H locs 0 0 Q (F0 m 68 ls [])) hf ?_ _ _ _ hC (lv_sub hl [1, 2, 0] rfl)
      intro a_68 x1_5 x2_5 ha_68 hf H locs ls hC hl
      refine lv_iload_n hx hb dX12_truths_68 rfl (lv_at hl 2 rfl) ?_
      refine lv_aload_n hx hb dX12_truths_69 rfl (lv_at hl 0 rfl) ?_
      refine gt_X12_410_m hx hb hta hown hK hC dX12_truths_70 ?_
      refine lv_icmp_ge (tgt := 99) hx hb dX12_truths_73 (by decide) (fun c_6 => ?_) (fun c_6 => ?_)
      · have hf := it_t c_6 hf
        refine lv_iload_n hx hb dX12_truths_99 rfl (lv_at hl 1 rfl) ?_
        exact hret _ _ _ _ _ _ (Option.some.inj hf) rfl rfl dX12_truths_100 hC
      · have hf := it_f c_6 hf
        refine lv_iload_n hx hb dX12_truths_76 rfl (lv_at hl 1 rfl) ?_
        refine lv_aload_n hx hb dX12_truths_77 rfl (lv_at hl 0 rfl) ?_
        refine gt_X12_121_m hx hb hta hown hK hC dX12_truths_78 ?_
        refine lv_iload_n hx hb dX12_truths_81 rfl (lv_at hl 2 rfl) ?_
        obtain ⟨hi_7, hf⟩ := ix_inv hf
        obtain ⟨v_7, e_7, hf⟩ := lt_inv hf
        refine al_M_37 hx hb hK hC hi_7 e_7 dX12_truths_82 ?_
        obtain ⟨k_91, hk_91, hf⟩ := jn_inv1 hf
        have hj_91 : ∀ (t0_8 : Int32) (H : Heap) (locs : List Loc) (ls : Array Slot), k_91 t0_8 = some v → CZ D A s H locs (WM y o σ) → lv_has ls 3 [(0, .ref (o 0)), (2, .int x2_5)] → W p l e R s m args below meth c H locs 0 0 Q (F0 m 91 ls [.int t0_8, .int x1_5]) := by
          intro t0_8 H locs ls hf hC hl
          have hf := hk_91 _ hf
          refine lv_iadd hx hb dX12_truths_91 ?_
          obtain ⟨x1_9, e_9, hf⟩ := lt_inv hf
          refine nmi e_9 ?_
          refine lv_istore_n (lv' := [(1, .int x1_9), (0, .ref (o 0)), (2, .int x2_5)]) hx hb dX12_truths_92 rfl hl (by decide) rfl (fun ls hl => ?_)
          obtain ⟨x2_10, e_10, hf⟩ := lt_inv hf
          refine lv_iinc (v := x2_10) (lv' := [(2, .int x2_10), (1, .int x1_9), (0, .ref (o 0))]) hx hb dX12_truths_93 hl (k := 2) rfl e_10.symm (by decide) rfl (fun ls hl => ?_)
          refine lv_goto (tgt := 68) hx hb dX12_truths_96 (by decide) ?_
          exact ha_68 _ _ hf _ _ _ hC (lv_sub hl [2, 1, 0] rfl)
        refine lv_if_eq (tgt := 90) hx hb dX12_truths_83 (by decide) (fun c_11 => ?_) (fun c_11 => ?_)
        · have hf := it_t c_11 hf
          refine lv_iconst (v := 0) hx hb dX12_truths_90 (by decide) ?_
          exact hj_91 _ _ _ _ hf hC (lv_sub hl [0, 2] rfl)
        · have hf := it_f c_11 hf
          refine lv_iconst (v := 1) hx hb dX12_truths_86 (by decide) ?_
          refine lv_goto (tgt := 91) hx hb dX12_truths_87 (by decide) ?_
          exact hj_91 _ _ _ _ hf hC (lv_sub hl [0, 2] rfl)
    · have hf := it_f c_4 hf
      refine lv_iload_n hx hb dX12_truths_43 rfl (lv_at hl 1 rfl) ?_
      refine lv_aload_n hx hb dX12_truths_44 rfl (lv_at hl 0 rfl) ?_
      refine gt_X12_118_m hx hb hta hown hK hC dX12_truths_45 ?_
      refine lv_iload_n hx hb dX12_truths_48 rfl (lv_at hl 2 rfl) ?_
      obtain ⟨hi_12, hf⟩ := ix_inv hf
      obtain ⟨v_12, e_12, hf⟩ := lt_inv hf
      refine al_M_36 hx hb hK hC hi_12 e_12 dX12_truths_49 ?_
      obtain ⟨k_58, hk_58, hf⟩ := jn_inv1 hf
      have hj_58 : ∀ (t0_13 : Int32) (H : Heap) (locs : List Loc) (ls : Array Slot), k_58 t0_13 = some v → CZ D A s H locs (WM y o σ) → lv_has ls 3 [(0, .ref (o 0)), (2, .int x2_3)] → W p l e R s m args below meth c H locs 0 0 Q (F0 m 58 ls [.int t0_13, .int x1_3]) := by
        intro t0_13 H locs ls hf hC hl
        have hf := hk_58 _ hf
        refine lv_iadd hx hb dX12_truths_58 ?_
        obtain ⟨x1_14, e_14, hf⟩ := lt_inv hf
        refine nmi e_14 ?_
        refine lv_istore_n (lv' := [(1, .int x1_14), (0, .ref (o 0)), (2, .int x2_3)]) hx hb dX12_truths_59 rfl hl (by decide) rfl (fun ls hl => ?_)
        obtain ⟨x2_15, e_15, hf⟩ := lt_inv hf
        refine lv_iinc (v := x2_15) (lv' := [(2, .int x2_15), (1, .int x1_14), (0, .ref (o 0))]) hx hb dX12_truths_60 hl (k := 2) rfl e_15.symm (by decide) rfl (fun ls hl => ?_)
        refine lv_goto (tgt := 35) hx hb dX12_truths_63 (by decide) ?_
        exact ha_35 _ _ hf _ _ _ hC (lv_sub hl [2, 1, 0] rfl)
      refine lv_if_eq (tgt := 57) hx hb dX12_truths_50 (by decide) (fun c_16 => ?_) (fun c_16 => ?_)
      · have hf := it_t c_16 hf
        refine lv_iconst (v := 0) hx hb dX12_truths_57 (by decide) ?_
        exact hj_58 _ _ _ _ hf hC (lv_sub hl [0, 2] rfl)
      · have hf := it_f c_16 hf
        refine lv_iconst (v := 1) hx hb dX12_truths_53 (by decide) ?_
        refine lv_goto (tgt := 58) hx hb dX12_truths_54 (by decide) ?_
        exact hj_58 _ _ _ _ hf hC (lv_sub hl [0, 2] rfl)
  · have hf := it_f c_2 hf
    refine lv_iload_n hx hb dX12_truths_10 rfl (lv_at hl 1 rfl) ?_
    refine lv_aload_n hx hb dX12_truths_11 rfl (lv_at hl 0 rfl) ?_
    refine gt_X12_115_m hx hb hta hown hK hC dX12_truths_12 ?_
    refine lv_iload_n hx hb dX12_truths_15 rfl (lv_at hl 2 rfl) ?_
    obtain ⟨hi_17, hf⟩ := ix_inv hf
    obtain ⟨v_17, e_17, hf⟩ := lt_inv hf
    refine al_M_35 hx hb hK hC hi_17 e_17 dX12_truths_16 ?_
    obtain ⟨k_25, hk_25, hf⟩ := jn_inv1 hf
    have hj_25 : ∀ (t0_18 : Int32) (H : Heap) (locs : List Loc) (ls : Array Slot), k_25 t0_18 = some v → CZ D A s H locs (WM y o σ) → lv_has ls 3 [(0, .ref (o 0)), (2, .int x2_1)] → W p l e R s m args below meth c H locs 0 0 Q (F0 m 25 ls [.int t0_18, .int x1_1]) := by
      intro t0_18 H locs ls hf hC hl
      have hf := hk_25 _ hf
      refine lv_iadd hx hb dX12_truths_25 ?_
      obtain ⟨x1_19, e_19, hf⟩ := lt_inv hf
      refine nmi e_19 ?_
      refine lv_istore_n (lv' := [(1, .int x1_19), (0, .ref (o 0)), (2, .int x2_1)]) hx hb dX12_truths_26 rfl hl (by decide) rfl (fun ls hl => ?_)
      obtain ⟨x2_20, e_20, hf⟩ := lt_inv hf
      refine lv_iinc (v := x2_20) (lv' := [(2, .int x2_20), (1, .int x1_19), (0, .ref (o 0))]) hx hb dX12_truths_27 hl (k := 2) rfl e_20.symm (by decide) rfl (fun ls hl => ?_)
      refine lv_goto (tgt := 4) hx hb dX12_truths_30 (by decide) ?_
      exact ha_4 _ _ hf _ _ _ hC (lv_sub hl [2, 1, 0] rfl)
    refine lv_if_eq (tgt := 24) hx hb dX12_truths_17 (by decide) (fun c_21 => ?_) (fun c_21 => ?_)
    · have hf := it_t c_21 hf
      refine lv_iconst (v := 0) hx hb dX12_truths_24 (by decide) ?_
      exact hj_25 _ _ _ _ hf hC (lv_sub hl [0, 2] rfl)
    · have hf := it_f c_21 hf
      refine lv_iconst (v := 1) hx hb dX12_truths_20 (by decide) ?_
      refine lv_goto (tgt := 25) hx hb dX12_truths_21 (by decide) ?_
      exact hj_25 _ _ _ _ hf hC (lv_sub hl [0, 2] rfl)

set_option maxHeartbeats 8000000 in
set_option maxRecDepth 100000 in
theorem r_X12_most {D : va_G} {y : Nat → ClassId} {o : Nat → Nat} {ad av : Nat → Nat} {x1 : Int32} {σ : Sto} {σ2 : Sto} {v : Int32} (hf : f_X12_most x1 σ = some (v, σ2)) (l : Launch) (sz : Nat) : Met l yX12_most (Cond.code yX12_most cX12_most 2 (some .int) :: ALW) { frames := 253, cells := 0, slots := 0, locals := 5314 } (va_Pc [.ref (o 0), .int x1] (PZ D y ad av (WM y o σ) sz)) (QZi D (WM y o σ) v (WM y o σ2) sz) 0 0 (va_A (WM y o σ) sz) := by
  refine met_i (by decide) (Nat.le_of_ble_eq_true rfl) ?_
  intro p e R s m args below meth c Q A ls hx hb hml hta hown hRc hRs hRf hRl hN hK hV hA hret hC hl
  have hl : lv_has ls 2 [(0, .ref (o 0)), (1, .int x1)] := hl
  unfold f_X12_most at hf
  refine lv_aload_n hx hb dX12_most_0 rfl (lv_at hl 0 rfl) ?_
  refine lv_iconst (v := 0) hx hb dX12_most_1 (by decide) ?_
  obtain ⟨s_1, e_1, hf⟩ := lt_inv hf
  refine pt_X12_169_m hx hb hta hown hK hC e_1 dX12_most_2 (fun H locs hC => ?_)
  refine lv_aload_n hx hb dX12_most_5 rfl (lv_at hl 0 rfl) ?_
  refine gt_X12_292_m hx hb hta hown hK hC dX12_most_6 ?_
  refine lv_if_ne (tgt := 16) hx hb dX12_most_9 (by decide) (fun c_2 => ?_) (fun c_2 => ?_)
  · have hf := it_f c_2 hf
    refine lv_iload_n hx hb dX12_most_16 rfl (lv_at hl 1 rfl) ?_
    by_cases h_3_0 : x1.toInt = 0
    · have hf := it_t h_3_0 hf
      refine lv_tab (tgt := 64) hx hb dX12_most_17 (Or.inr ⟨47, by omega, by omega, by (rw [h_3_0]; decide), by decide⟩) ?_
      refine lv_aload_n hx hb dX12_most_64 rfl (lv_at hl 0 rfl) ?_
      obtain ⟨v_4, hc_4, hf⟩ := calp_inv hf
      refine cc_Vi (r_X12_mostLoops (D := D) (y := y) (o := o) (ad := ad) (av := av) hc_4 l) hx hb hml hta hown hK hN hV hA hC hRc hRs (by omega) (by omega) wq_1478 (q := 0) (ci := 12) rfl rfl wq_1479 wq_1480 wq_1012 wq_1473 hd_X12_mostLoops (As := []) (rest := []) rfl rfl hl.1 rfl dX12_most_65 (fun H locs hC => ?_)
      exact hret _ _ _ _ _ _ (rv_inv hf).1 (congrArg (WM y o) (rv_inv hf).2) rfl dX12_most_68 hC
    have hf := it_f h_3_0 hf
    by_cases h_3_1 : x1.toInt = 1
    · have hf := it_t h_3_1 hf
      refine lv_tab (tgt := 69) hx hb dX12_most_17 (Or.inr ⟨52, by omega, by omega, by (rw [h_3_1]; decide), by decide⟩) ?_
      refine lv_aload_n hx hb dX12_most_69 rfl (lv_at hl 0 rfl) ?_
      refine gt_X12_358_m hx hb hta hown hK hC dX12_most_70 ?_
      refine lv_iconst (v := (-1)) hx hb dX12_most_73 (by decide) ?_
      refine lv_icmp_ne (tgt := 81) hx hb dX12_most_74 (by decide) (fun c_5 => ?_) (fun c_5 => ?_)
      · have hf := it_f c_5 hf
        refine lv_aload_n hx hb dX12_most_81 rfl (lv_at hl 0 rfl) ?_
        obtain ⟨v_6, hc_6, hf⟩ := calp_inv hf
        refine cc_Vi (r_X12_deepest (D := D) (y := y) (o := o) (ad := ad) (av := av) hc_6 l) hx hb hml hta hown hK hN hV hA hC hRc hRs (by omega) (by omega) wq_1481 (q := 0) (ci := 12) rfl rfl wq_1482 wq_1483 wq_1012 wq_1472 hd_X12_deepest (As := []) (rest := []) rfl rfl hl.1 rfl dX12_most_82 (fun H locs hC => ?_)
        exact hret _ _ _ _ _ _ (rv_inv hf).1 (congrArg (WM y o) (rv_inv hf).2) rfl dX12_most_85 hC
      · have hf := it_t c_5 hf
        refine lv_iconst (v := (-1)) hx hb dX12_most_77 (by decide) ?_
        refine lv_goto (tgt := 85) hx hb dX12_most_78 (by decide) ?_
        exact hret _ _ _ _ _ _ (rv_inv hf).1 (congrArg (WM y o) (rv_inv hf).2) rfl dX12_most_85 hC
    have hf := it_f h_3_1 hf
    by_cases h_3_2 : x1.toInt = 2
    · have hf := it_t h_3_2 hf
      refine lv_tab (tgt := 86) hx hb dX12_most_17 (Or.inr ⟨69, by omega, by omega, by (rw [h_3_2]; decide), by decide⟩) ?_
      refine lv_aload_n hx hb dX12_most_86 rfl (lv_at hl 0 rfl) ?_
      refine gt_X12_358_m hx hb hta hown hK hC dX12_most_87 ?_
      refine lv_iconst (v := (-1)) hx hb dX12_most_90 (by decide) ?_
      refine lv_icmp_ne (tgt := 98) hx hb dX12_most_91 (by decide) (fun c_7 => ?_) (fun c_7 => ?_)
      · have hf := it_f c_7 hf
        refine lv_aload_n hx hb dX12_most_98 rfl (lv_at hl 0 rfl) ?_
        refine lv_bipush (v := 6) hx hb dX12_most_99 (by decide) ?_
        obtain ⟨v_8, hc_8, hf⟩ := calp_inv hf
        refine cc_Vi (r_X12_mostLines (D := D) (y := y) (o := o) (ad := ad) (av := av) hc_8 l) hx hb hml hta hown hK hN hV hA hC hRc hRs (by omega) (by omega) wq_1484 (q := 0) (ci := 12) rfl rfl wq_1485 wq_1486 wq_1012 wq_1471 hd_X12_mostLines (As := [.int 6]) (rest := []) rfl rfl hl.1 rfl dX12_most_101 (fun H locs hC => ?_)
        exact hret _ _ _ _ _ _ (rv_inv hf).1 (congrArg (WM y o) (rv_inv hf).2) rfl dX12_most_104 hC
      · have hf := it_t c_7 hf
        refine lv_iconst (v := (-1)) hx hb dX12_most_94 (by decide) ?_
        refine lv_goto (tgt := 104) hx hb dX12_most_95 (by decide) ?_
        exact hret _ _ _ _ _ _ (rv_inv hf).1 (congrArg (WM y o) (rv_inv hf).2) rfl dX12_most_104 hC
    have hf := it_f h_3_2 hf
    by_cases h_3_3 : x1.toInt = 3
    · have hf := it_t h_3_3 hf
      refine lv_tab (tgt := 105) hx hb dX12_most_17 (Or.inr ⟨88, by omega, by omega, by (rw [h_3_3]; decide), by decide⟩) ?_
      refine lv_aload_n hx hb dX12_most_105 rfl (lv_at hl 0 rfl) ?_
      refine gt_X12_358_m hx hb hta hown hK hC dX12_most_106 ?_
      refine lv_iconst (v := (-1)) hx hb dX12_most_109 (by decide) ?_
      refine lv_icmp_ne (tgt := 117) hx hb dX12_most_110 (by decide) (fun c_9 => ?_) (fun c_9 => ?_)
      · have hf := it_f c_9 hf
        refine lv_aload_n hx hb dX12_most_117 rfl (lv_at hl 0 rfl) ?_
        refine lv_bipush (v := 7) hx hb dX12_most_118 (by decide) ?_
        obtain ⟨v_10, hc_10, hf⟩ := calp_inv hf
        refine cc_Vi (r_X12_mostLines (D := D) (y := y) (o := o) (ad := ad) (av := av) hc_10 l) hx hb hml hta hown hK hN hV hA hC hRc hRs (by omega) (by omega) wq_1484 (q := 0) (ci := 12) rfl rfl wq_1485 wq_1486 wq_1012 wq_1471 hd_X12_mostLines (As := [.int 7]) (rest := []) rfl rfl hl.1 rfl dX12_most_120 (fun H locs hC => ?_)
        exact hret _ _ _ _ _ _ (rv_inv hf).1 (congrArg (WM y o) (rv_inv hf).2) rfl dX12_most_123 hC
      · have hf := it_t c_9 hf
        refine lv_iconst (v := (-1)) hx hb dX12_most_113 (by decide) ?_
        refine lv_goto (tgt := 123) hx hb dX12_most_114 (by decide) ?_
        exact hret _ _ _ _ _ _ (rv_inv hf).1 (congrArg (WM y o) (rv_inv hf).2) rfl dX12_most_123 hC
    have hf := it_f h_3_3 hf
    by_cases h_3_4 : x1.toInt = 4
    · have hf := it_t h_3_4 hf
      refine lv_tab (tgt := 124) hx hb dX12_most_17 (Or.inr ⟨107, by omega, by omega, by (rw [h_3_4]; decide), by decide⟩) ?_
      refine lv_aload_n hx hb dX12_most_124 rfl (lv_at hl 0 rfl) ?_
      obtain ⟨v_11, hc_11, hf⟩ := calp_inv hf
      refine cc_Vi (r_X12_mostWithin (D := D) (y := y) (o := o) (ad := ad) (av := av) hc_11 l) hx hb hml hta hown hK hN hV hA hC hRc hRs (by omega) (by omega) wq_1487 (q := 0) (ci := 12) rfl rfl wq_1488 wq_1489 wq_1012 wq_1474 hd_X12_mostWithin (As := []) (rest := []) rfl rfl hl.1 rfl dX12_most_125 (fun H locs hC => ?_)
      exact hret _ _ _ _ _ _ (rv_inv hf).1 (congrArg (WM y o) (rv_inv hf).2) rfl dX12_most_128 hC
    have hf := it_f h_3_4 hf
    by_cases h_3_5 : x1.toInt = 5
    · have hf := it_t h_3_5 hf
      refine lv_tab (tgt := 129) hx hb dX12_most_17 (Or.inr ⟨112, by omega, by omega, by (rw [h_3_5]; decide), by decide⟩) ?_
      refine lv_aload_n hx hb dX12_most_129 rfl (lv_at hl 0 rfl) ?_
      obtain ⟨v_12, hc_12, hf⟩ := calp_inv hf
      refine cc_Vi (r_X12_mostOnStack (D := D) (y := y) (o := o) (ad := ad) (av := av) hc_12 l) hx hb hml hta hown hK hN hV hA hC hRc hRs (by omega) (by omega) wq_1490 (q := 0) (ci := 12) rfl rfl wq_1491 wq_1492 wq_1012 wq_1475 hd_X12_mostOnStack (As := []) (rest := []) rfl rfl hl.1 rfl dX12_most_130 (fun H locs hC => ?_)
      exact hret _ _ _ _ _ _ (rv_inv hf).1 (congrArg (WM y o) (rv_inv hf).2) rfl dX12_most_133 hC
    have hf := it_f h_3_5 hf
    by_cases h_3_6 : x1.toInt = 6
    · have hf := it_t h_3_6 hf
      refine lv_tab (tgt := 134) hx hb dX12_most_17 (Or.inr ⟨117, by omega, by omega, by (rw [h_3_6]; decide), by decide⟩) ?_
      refine lv_aload_n hx hb dX12_most_134 rfl (lv_at hl 0 rfl) ?_
      obtain ⟨v_13, hc_13, hf⟩ := calp_inv hf
      refine cc_Vi (r_X12_longestBlock (D := D) (y := y) (o := o) (ad := ad) (av := av) hc_13 l) hx hb hml hta hown hK hN hV hA hC hRc hRs (by omega) (by omega) wq_1493 (q := 0) (ci := 12) rfl rfl wq_1494 wq_1495 wq_1012 wq_1476 hd_X12_longestBlock (As := []) (rest := []) rfl rfl hl.1 rfl dX12_most_135 (fun H locs hC => ?_)
      exact hret _ _ _ _ _ _ (rv_inv hf).1 (congrArg (WM y o) (rv_inv hf).2) rfl dX12_most_138 hC
    have hf := it_f h_3_6 hf
    by_cases h_3_7 : x1.toInt = 7
    · have hf := it_t h_3_7 hf
      refine lv_tab (tgt := 139) hx hb dX12_most_17 (Or.inr ⟨122, by omega, by omega, by (rw [h_3_7]; decide), by decide⟩) ?_
      refine lv_aload_n hx hb dX12_most_139 rfl (lv_at hl 0 rfl) ?_
      obtain ⟨v_14, hc_14, hf⟩ := calp_inv hf
      refine cc_Vi (r_X12_truths (D := D) (y := y) (o := o) (ad := ad) (av := av) hc_14 l) hx hb hml hta hown hK hN hV hA hC hRc hRs (by omega) (by omega) wq_1496 (q := 0) (ci := 12) rfl rfl wq_1497 wq_1498 wq_1012 wq_1477 hd_X12_truths (As := []) (rest := []) rfl rfl hl.1 rfl dX12_most_140 (fun H locs hC => ?_)
      exact hret _ _ _ _ _ _ (rv_inv hf).1 (congrArg (WM y o) (rv_inv hf).2) rfl dX12_most_143 hC
    have hf := it_f h_3_7 hf
    refine lv_tab (tgt := 144) hx hb dX12_most_17 (Or.inl ⟨by omega, by decide⟩) ?_
    refine lv_ldcw hx hb hown (hta _ wq_1420) dX12_most_144 ?_
    exact hret _ _ _ _ _ _ (rv_inv hf).1 (congrArg (WM y o) (rv_inv hf).2) rfl dX12_most_147 hC
  · have hf := it_t c_2 hf
    refine lv_ldcw hx hb hown (hta _ wq_1420) dX12_most_12 ?_
    exact hret _ _ _ _ _ _ (rv_inv hf).1 (congrArg (WM y o) (rv_inv hf).2) rfl dX12_most_15 hC

set_option maxHeartbeats 8000000 in
set_option maxRecDepth 100000 in
theorem r_X3_handlerOf {D : va_G} {y : Nat → ClassId} {o : Nat → Nat} {ad av : Nat → Nat} {x1 : Int32} {σ : Sto} {v : Int32} (hf : f_X3_handlerOf x1 σ = some v) (l : Launch) (sz : Nat) : Met l yX3_handlerOf (Cond.code yX3_handlerOf cX3_handlerOf 3 (some .int) :: ALW) { frames := 0, cells := 0, slots := 0, locals := 0 } (va_Pc [.ref (o 3), .int x1] (PZ D y ad av (WX y o σ) sz)) (QZi D (WX y o σ) v (WX y o σ) sz) 0 0 (va_A (WX y o σ) sz) := by
  refine met_i (by decide) (Nat.le_of_ble_eq_true rfl) ?_
  intro p e R s m args below meth c Q A ls hx hb hml hta hown hRc hRs hRf hRl hN hK hV hA hret hC hl
  have hl : lv_has ls 3 [(0, .ref (o 3)), (1, .int x1)] := hl
  unfold f_X3_handlerOf at hf
  refine lv_iconst (v := 0) hx hb dX3_handlerOf_0 (by decide) ?_
  refine lv_istore_n (lv' := [(2, .int 0), (0, .ref (o 3)), (1, .int x1)]) hx hb dX3_handlerOf_1 rfl hl (by decide) rfl (fun ls hl => ?_)
  refine itr_inv1 (P := fun (x2_1 : Int32) => ∀ (H : Heap) (locs : List Loc) (ls : Array Slot), CZ D A s H locs (WX y o σ) → lv_has ls 3 [(0, .ref (o 3)), (1, .int x1), (2, .int x2_1)] → W p l e R s m args below meth c H locs 0 0 Q (F0 m 2 ls [])) hf ?_ _ _ _ hC (lv_sub hl [1, 2, 0] rfl)
  intro a_2 x2_1 ha_2 hf H locs ls hC hl
  refine lv_iload_n hx hb dX3_handlerOf_2 rfl (lv_at hl 2 rfl) ?_
  refine lv_aload_n hx hb dX3_handlerOf_3 rfl (lv_at hl 0 rfl) ?_
  refine gt_X3_34_listing hx hb hta hown hK hC dX3_handlerOf_4 ?_
  refine lv_icmp_ge (tgt := 38) hx hb dX3_handlerOf_7 (by decide) (fun c_2 => ?_) (fun c_2 => ?_)
  · have hf := it_t c_2 hf
    refine lv_iconst (v := (-1)) hx hb dX3_handlerOf_38 (by decide) ?_
    exact hret _ _ _ _ _ _ (Option.some.inj hf) rfl rfl dX3_handlerOf_39 hC
  · have hf := it_f c_2 hf
    refine lv_aload_n hx hb dX3_handlerOf_10 rfl (lv_at hl 0 rfl) ?_
    refine gt_X3_21_listing hx hb hta hown hK hC dX3_handlerOf_11 ?_
    refine lv_iload_n hx hb dX3_handlerOf_14 rfl (lv_at hl 2 rfl) ?_
    obtain ⟨hi_3, hf⟩ := ix_inv hf
    obtain ⟨v_3, e_3, hf⟩ := lt_inv hf
    refine al_X_7 hx hb hK hC hi_3 e_3 dX3_handlerOf_15 ?_
    refine lv_iload_n hx hb dX3_handlerOf_16 rfl (lv_at hl 1 rfl) ?_
    obtain ⟨k_32, hk_32, hf⟩ := jn_inv0 hf
    have hj_32 : ∀  (H : Heap) (locs : List Loc) (ls : Array Slot), k_32 = some v → CZ D A s H locs (WX y o σ) → lv_has ls 3 [(0, .ref (o 3)), (1, .int x1), (2, .int x2_1)] → W p l e R s m args below meth c H locs 0 0 Q (F0 m 32 ls []) := by
      intro H locs ls hf hC hl
      have hf := hk_32 hf
      obtain ⟨x2_5, e_5, hf⟩ := lt_inv hf
      refine lv_iinc (v := x2_5) (lv' := [(2, .int x2_5), (0, .ref (o 3)), (1, .int x1)]) hx hb dX3_handlerOf_32 hl (k := 2) rfl e_5.symm (by decide) rfl (fun ls hl => ?_)
      refine lv_goto (tgt := 2) hx hb dX3_handlerOf_35 (by decide) ?_
      exact ha_2 _ hf _ _ _ hC (lv_sub hl [1, 2, 0] rfl)
    refine lv_icmp_gt (tgt := 32) hx hb dX3_handlerOf_17 (by decide) (fun c_6 => ?_) (fun c_6 => ?_)
    · have hf := it_t c_6 hf
      exact hj_32 _ _ _ hf hC hl
    · have hf := it_f c_6 hf
      refine lv_iload_n hx hb dX3_handlerOf_20 rfl (lv_at hl 1 rfl) ?_
      refine lv_aload_n hx hb dX3_handlerOf_21 rfl (lv_at hl 0 rfl) ?_
      refine gt_X3_24_listing hx hb hta hown hK hC dX3_handlerOf_22 ?_
      refine lv_iload_n hx hb dX3_handlerOf_25 rfl (lv_at hl 2 rfl) ?_
      obtain ⟨hi_7, hf⟩ := ix_inv hf
      obtain ⟨v_7, e_7, hf⟩ := lt_inv hf
      refine al_X_8 hx hb hK hC hi_7 e_7 dX3_handlerOf_26 ?_
      refine lv_icmp_ge (tgt := 32) hx hb dX3_handlerOf_27 (by decide) (fun c_8 => ?_) (fun c_8 => ?_)
      · have hf := it_t c_8 hf
        exact hj_32 _ _ _ hf hC hl
      · have hf := it_f c_8 hf
        refine lv_iload_n hx hb dX3_handlerOf_30 rfl (lv_at hl 2 rfl) ?_
        exact hret _ _ _ _ _ _ (Option.some.inj hf) rfl rfl dX3_handlerOf_31 hC

set_option maxHeartbeats 8000000 in
set_option maxRecDepth 100000 in
theorem r_X11_isIn {D : va_G} {y : Nat → ClassId} {ad av : Nat → Nat} {w : va_W} {x1 : Int64} {x2 : Int32} {v : Int32} (hf : f_X11_isIn x1 x2 = some v) (l : Launch) (sz : Nat) : Met l yX11_isIn (Cond.code yX11_isIn cX11_isIn 3 (some .boolean) :: ALW) { frames := 0, cells := 0, slots := 0, locals := 0 } (va_Pc [.long x1, .int x2] (PZ D y ad av (w) sz)) (QZi D (w) v (w) sz) 0 0 (va_A (w) sz) := by
  refine met_i (by decide) (Nat.le_of_ble_eq_true rfl) ?_
  intro p e R s m args below meth c Q A ls hx hb hml hta hown hRc hRs hRf hRl hN hK hV hA hret hC hl
  have hl : lv_has ls 3 [(0, .long x1), (2, .int x2)] := hl
  unfold f_X11_isIn at hf
  refine lv_lload_n hx hb dX11_isIn_0 rfl (lv_at hl 0 rfl) ?_
  refine lv_iload_n hx hb dX11_isIn_1 rfl (lv_at hl 1 rfl) ?_
  refine lv_lushr hx hb dX11_isIn_2 rfl ?_
  refine lv_lconst (v := 1) hx hb dX11_isIn_3 rfl ?_
  refine lv_land hx hb dX11_isIn_4 ?_
  refine lv_lconst (v := 0) hx hb dX11_isIn_5 rfl ?_
  refine W.lcmp hx hb dX11_isIn_6 ?_
  refine lv_if_eq (tgt := 14) hx hb dX11_isIn_7 (by decide) (fun c_1 => ?_) (fun c_1 => ?_)
  · have hf := it_t c_1 hf
    refine lv_iconst (v := 0) hx hb dX11_isIn_14 (by decide) ?_
    exact hret _ _ _ _ _ _ (Option.some.inj hf) rfl rfl dX11_isIn_15 hC
  · have hf := it_f c_1 hf
    refine lv_iconst (v := 1) hx hb dX11_isIn_10 (by decide) ?_
    refine lv_goto (tgt := 15) hx hb dX11_isIn_11 (by decide) ?_
    exact hret _ _ _ _ _ _ (Option.some.inj hf) rfl rfl dX11_isIn_15 hC

set_option maxHeartbeats 8000000 in
set_option maxRecDepth 100000 in
theorem r_X11_isBlock {D : va_G} {y : Nat → ClassId} {o : Nat → Nat} {ad av : Nat → Nat} {x1 : Int32} {σ : Sto} {v : Int32} (hf : f_X11_isBlock x1 σ = some v) (l : Launch) (sz : Nat) : Met l yX11_isBlock (Cond.code yX11_isBlock cX11_isBlock 2 (some .boolean) :: ALW) { frames := 0, cells := 0, slots := 0, locals := 0 } (va_Pc [.ref (o 0), .int x1] (PZ D y ad av (WX y o σ) sz)) (QZi D (WX y o σ) v (WX y o σ) sz) 0 0 (va_A (WX y o σ) sz) := by
  refine met_i (by decide) (Nat.le_of_ble_eq_true rfl) ?_
  intro p e R s m args below meth c Q A ls hx hb hml hta hown hRc hRs hRf hRl hN hK hV hA hret hC hl
  have hl : lv_has ls 2 [(0, .ref (o 0)), (1, .int x1)] := hl
  unfold f_X11_isBlock at hf
  refine lv_aload_n hx hb dX11_isBlock_0 rfl (lv_at hl 0 rfl) ?_
  refine gt_X11_105_cl hx hb hta hown hK hC dX11_isBlock_1 ?_
  obtain ⟨k_26, hk_26, hf⟩ := jn_inv0 hf
  have hj_26 : ∀  (H : Heap) (locs : List Loc) (ls : Array Slot), k_26 = some v → CZ D A s H locs (WX y o σ) → lv_has ls 2 [] → W p l e R s m args below meth c H locs 0 0 Q (F0 m 26 ls []) := by
    intro H locs ls hf hC hl
    have hf := hk_26 hf
    refine lv_iconst (v := 0) hx hb dX11_isBlock_26 (by decide) ?_
    exact hret _ _ _ _ _ _ (Option.some.inj hf) rfl rfl dX11_isBlock_27 hC
  refine lv_if_eq (tgt := 26) hx hb dX11_isBlock_4 (by decide) (fun c_2 => ?_) (fun c_2 => ?_)
  · have hf := it_t c_2 hf
    exact hj_26 _ _ _ hf hC (lv_sub hl [] rfl)
  · have hf := it_f c_2 hf
    refine lv_iload_n hx hb dX11_isBlock_7 rfl (lv_at hl 1 rfl) ?_
    refine lv_if_lt (tgt := 26) hx hb dX11_isBlock_8 (by decide) (fun c_3 => ?_) (fun c_3 => ?_)
    · have hf := it_t c_3 hf
      exact hj_26 _ _ _ hf hC (lv_sub hl [] rfl)
    · have hf := it_f c_3 hf
      refine lv_iload_n hx hb dX11_isBlock_11 rfl (lv_at hl 1 rfl) ?_
      refine lv_aload_n hx hb dX11_isBlock_12 rfl (lv_at hl 0 rfl) ?_
      refine gt_X11_31_cl hx hb hta hown hK hC dX11_isBlock_13 ?_
      refine gt_X11_135_blocks hx hb hta hown hK hC dX11_isBlock_16 ?_
      refine lv_icmp_ge (tgt := 26) hx hb dX11_isBlock_19 (by decide) (fun c_4 => ?_) (fun c_4 => ?_)
      · have hf := it_t c_4 hf
        exact hj_26 _ _ _ hf hC (lv_sub hl [] rfl)
      · have hf := it_f c_4 hf
        refine lv_iconst (v := 1) hx hb dX11_isBlock_22 (by decide) ?_
        refine lv_goto (tgt := 27) hx hb dX11_isBlock_23 (by decide) ?_
        exact hret _ _ _ _ _ _ (Option.some.inj hf) rfl rfl dX11_isBlock_27 hC

set_option maxHeartbeats 8000000 in
set_option maxRecDepth 100000 in
theorem r_J13_bitCount_95d88 {D : va_G} {y : Nat → ClassId} {ad av : Nat → Nat} {w : va_W} {x1 : Int64} {v : Int32} (hf : f_J13_bitCount_95d88 x1 = some v) (l : Launch) (sz : Nat) : Met l yJ13_bitCount_95d88 (Cond.code yJ13_bitCount_95d88 cJ13_bitCount_95d88 2 (some .int) :: ALW) { frames := 0, cells := 0, slots := 0, locals := 0 } (va_Pc [.long x1] (PZ D y ad av (w) sz)) (QZi D (w) v (w) sz) 0 0 (va_A (w) sz) := by
  refine met_i (by decide) (Nat.le_of_ble_eq_true rfl) ?_
  intro p e R s m args below meth c Q A ls hx hb hml hta hown hRc hRs hRf hRl hN hK hV hA hret hC hl
  have hl : lv_has ls 2 [(0, .long x1)] := hl
  unfold f_J13_bitCount_95d88 at hf
  refine lv_lload_n hx hb dJ13_bitCount_95d88_0 rfl (lv_at hl 0 rfl) ?_
  refine lv_lload_n hx hb dJ13_bitCount_95d88_1 rfl (lv_at hl 0 rfl) ?_
  refine lv_iconst (v := 1) hx hb dJ13_bitCount_95d88_2 (by decide) ?_
  refine lv_lushr hx hb dJ13_bitCount_95d88_3 rfl ?_
  refine lv_ldc2 hx hb hown (hta _ wq_583) dJ13_bitCount_95d88_4 ?_
  refine lv_land hx hb dJ13_bitCount_95d88_7 ?_
  refine lv_lsub hx hb dJ13_bitCount_95d88_8 ?_
  obtain ⟨x0_1, e_1, hf⟩ := lt_inv hf
  refine nml e_1 ?_
  refine lv_lstore_n (lv' := [(0, .long x0_1)]) hx hb dJ13_bitCount_95d88_9 rfl hl (by decide) rfl (fun ls hl => ?_)
  refine lv_lload_n hx hb dJ13_bitCount_95d88_10 rfl (lv_at hl 0 rfl) ?_
  refine lv_ldc2 hx hb hown (hta _ wq_584) dJ13_bitCount_95d88_11 ?_
  refine lv_land hx hb dJ13_bitCount_95d88_14 ?_
  refine lv_lload_n hx hb dJ13_bitCount_95d88_15 rfl (lv_at hl 0 rfl) ?_
  refine lv_iconst (v := 2) hx hb dJ13_bitCount_95d88_16 (by decide) ?_
  refine lv_lushr hx hb dJ13_bitCount_95d88_17 rfl ?_
  refine lv_ldc2 hx hb hown (hta _ wq_584) dJ13_bitCount_95d88_18 ?_
  refine lv_land hx hb dJ13_bitCount_95d88_21 ?_
  refine lv_ladd hx hb dJ13_bitCount_95d88_22 ?_
  obtain ⟨x0_2, e_2, hf⟩ := lt_inv hf
  refine nml e_2 ?_
  refine lv_lstore_n (lv' := [(0, .long x0_2)]) hx hb dJ13_bitCount_95d88_23 rfl hl (by decide) rfl (fun ls hl => ?_)
  refine lv_lload_n hx hb dJ13_bitCount_95d88_24 rfl (lv_at hl 0 rfl) ?_
  refine lv_lload_n hx hb dJ13_bitCount_95d88_25 rfl (lv_at hl 0 rfl) ?_
  refine lv_iconst (v := 4) hx hb dJ13_bitCount_95d88_26 (by decide) ?_
  refine lv_lushr hx hb dJ13_bitCount_95d88_27 rfl ?_
  refine lv_ladd hx hb dJ13_bitCount_95d88_28 ?_
  refine lv_ldc2 hx hb hown (hta _ wq_585) dJ13_bitCount_95d88_29 ?_
  refine lv_land hx hb dJ13_bitCount_95d88_32 ?_
  obtain ⟨x0_3, e_3, hf⟩ := lt_inv hf
  refine nml e_3 ?_
  refine lv_lstore_n (lv' := [(0, .long x0_3)]) hx hb dJ13_bitCount_95d88_33 rfl hl (by decide) rfl (fun ls hl => ?_)
  refine lv_lload_n hx hb dJ13_bitCount_95d88_34 rfl (lv_at hl 0 rfl) ?_
  refine lv_lload_n hx hb dJ13_bitCount_95d88_35 rfl (lv_at hl 0 rfl) ?_
  refine lv_bipush (v := 8) hx hb dJ13_bitCount_95d88_36 (by decide) ?_
  refine lv_lushr hx hb dJ13_bitCount_95d88_38 rfl ?_
  refine lv_ladd hx hb dJ13_bitCount_95d88_39 ?_
  obtain ⟨x0_4, e_4, hf⟩ := lt_inv hf
  refine nml e_4 ?_
  refine lv_lstore_n (lv' := [(0, .long x0_4)]) hx hb dJ13_bitCount_95d88_40 rfl hl (by decide) rfl (fun ls hl => ?_)
  refine lv_lload_n hx hb dJ13_bitCount_95d88_41 rfl (lv_at hl 0 rfl) ?_
  refine lv_lload_n hx hb dJ13_bitCount_95d88_42 rfl (lv_at hl 0 rfl) ?_
  refine lv_bipush (v := 16) hx hb dJ13_bitCount_95d88_43 (by decide) ?_
  refine lv_lushr hx hb dJ13_bitCount_95d88_45 rfl ?_
  refine lv_ladd hx hb dJ13_bitCount_95d88_46 ?_
  obtain ⟨x0_5, e_5, hf⟩ := lt_inv hf
  refine nml e_5 ?_
  refine lv_lstore_n (lv' := [(0, .long x0_5)]) hx hb dJ13_bitCount_95d88_47 rfl hl (by decide) rfl (fun ls hl => ?_)
  refine lv_lload_n hx hb dJ13_bitCount_95d88_48 rfl (lv_at hl 0 rfl) ?_
  refine lv_lload_n hx hb dJ13_bitCount_95d88_49 rfl (lv_at hl 0 rfl) ?_
  refine lv_bipush (v := 32) hx hb dJ13_bitCount_95d88_50 (by decide) ?_
  refine lv_lushr hx hb dJ13_bitCount_95d88_52 rfl ?_
  refine lv_ladd hx hb dJ13_bitCount_95d88_53 ?_
  obtain ⟨x0_6, e_6, hf⟩ := lt_inv hf
  refine nml e_6 ?_
  refine lv_lstore_n (lv' := [(0, .long x0_6)]) hx hb dJ13_bitCount_95d88_54 rfl hl (by decide) rfl (fun ls hl => ?_)
  refine lv_lload_n hx hb dJ13_bitCount_95d88_55 rfl (lv_at hl 0 rfl) ?_
  refine lv_l2i hx hb dJ13_bitCount_95d88_56 rfl ?_
  refine lv_bipush (v := 127) hx hb dJ13_bitCount_95d88_57 (by decide) ?_
  refine lv_iand hx hb dJ13_bitCount_95d88_59 ?_
  exact hret _ _ _ _ _ _ (Option.some.inj hf) rfl rfl dJ13_bitCount_95d88_60 hC

set_option maxHeartbeats 8000000 in
set_option maxRecDepth 100000 in
theorem r_X8_innermost {D : va_G} {y : Nat → ClassId} {o : Nat → Nat} {ad av : Nat → Nat} {x1 : Int32} {σ : Sto} {v : Int32} (hf : f_X8_innermost x1 σ = some v) (l : Launch) (sz : Nat) : Met l yX8_innermost (Cond.code yX8_innermost cX8_innermost 5 (some .int) :: ALW) { frames := 1, cells := 0, slots := 0, locals := 22 } (va_Pc [.ref (o 30), .int x1] (PZ D y ad av (WX y o σ) sz)) (QZi D (WX y o σ) v (WX y o σ) sz) 0 0 (va_A (WX y o σ) sz) := by
  refine met_i (by decide) (Nat.le_of_ble_eq_true rfl) ?_
  intro p e R s m args below meth c Q A ls hx hb hml hta hown hRc hRs hRf hRl hN hK hV hA hret hC hl
  have hl : lv_has ls 5 [(0, .ref (o 30)), (1, .int x1)] := hl
  unfold f_X8_innermost at hf
  refine lv_iconst (v := (-1)) hx hb dX8_innermost_0 (by decide) ?_
  refine lv_istore_n (lv' := [(2, .int (-1)), (0, .ref (o 30)), (1, .int x1)]) hx hb dX8_innermost_1 rfl hl (by decide) rfl (fun ls hl => ?_)
  refine lv_iconst (v := 0) hx hb dX8_innermost_2 (by decide) ?_
  refine lv_istore_n (lv' := [(3, .int 0), (2, .int (-1)), (0, .ref (o 30)), (1, .int x1)]) hx hb dX8_innermost_3 rfl hl (by decide) rfl (fun ls hl => ?_)
  refine itr_inv2 (P := fun (x2_1 : Int32) (x3_1 : Int32) => ∀ (H : Heap) (locs : List Loc) (ls : Array Slot), CZ D A s H locs (WX y o σ) → lv_has ls 5 [(0, .ref (o 30)), (1, .int x1), (2, .int x2_1), (3, .int x3_1)] → W p l e R s m args below meth c H locs 0 0 Q (F0 m 4 ls [])) hf ?_ _ _ _ hC (lv_sub hl [2, 3, 1, 0] rfl)
  intro a_4 x2_1 x3_1 ha_4 hf H locs ls hC hl
  refine lv_iload_n hx hb dX8_innermost_4 rfl (lv_at hl 3 rfl) ?_
  refine lv_aload_n hx hb dX8_innermost_5 rfl (lv_at hl 0 rfl) ?_
  refine gt_X8_47_shape hx hb hta hown hK hC dX8_innermost_6 ?_
  refine gt_X8_109_blocks hx hb hta hown hK hC dX8_innermost_9 ?_
  refine lv_icmp_ge (tgt := 66) hx hb dX8_innermost_12 (by decide) (fun c_2 => ?_) (fun c_2 => ?_)
  · have hf := it_t c_2 hf
    refine lv_iload_n hx hb dX8_innermost_66 rfl (lv_at hl 2 rfl) ?_
    exact hret _ _ _ _ _ _ (Option.some.inj hf) rfl rfl dX8_innermost_67 hC
  · have hf := it_f c_2 hf
    refine lv_aload_n hx hb dX8_innermost_15 rfl (lv_at hl 0 rfl) ?_
    refine gt_X8_32_shape hx hb hta hown hK hC dX8_innermost_16 ?_
    refine lv_iload_n hx hb dX8_innermost_19 rfl (lv_at hl 3 rfl) ?_
    obtain ⟨hi_3, hf⟩ := ix_inv hf
    obtain ⟨v_3, e_3, hf⟩ := lt_inv hf
    refine al_X_37 hx hb hK hC hi_3 e_3 dX8_innermost_20 ?_
    refine lv_iload_n hx hb dX8_innermost_21 rfl (lv_at hl 1 rfl) ?_
    obtain ⟨v_4, hc_4, hf⟩ := calp_inv hf
    refine cc_SiN (r_X11_isIn (D := D) (y := y) (w := WX y o σ) (ad := ad) (av := av) hc_4 l) hx hb hml hta hown hK hN hV hA hC hRc hRs (by omega) (by omega) (nw_X8_112 hN) wq_37 wq_38 wq_33 hd_X11_isIn (As := [.long v_3, .int x1]) (rest := []) rfl rfl hl.1 rfl dX8_innermost_22 (fun H locs hC => ?_)
    refine lv_istore (lv' := [(4, .int v_4), (0, .ref (o 30)), (1, .int x1), (2, .int x2_1), (3, .int x3_1)]) hx hb dX8_innermost_25 hl (by decide) rfl (fun ls hl => ?_)
    refine lv_iload hx hb dX8_innermost_27 (lv_at hl 0 rfl) ?_
    obtain ⟨k_60, hk_60, hf⟩ := jn_inv1 hf
    have hj_60 : ∀ (x2_5 : Int32) (H : Heap) (locs : List Loc) (ls : Array Slot), k_60 x2_5 = some v → CZ D A s H locs (WX y o σ) → lv_has ls 5 [(0, .ref (o 30)), (1, .int x1), (2, .int x2_5), (3, .int x3_1)] → W p l e R s m args below meth c H locs 0 0 Q (F0 m 60 ls []) := by
      intro x2_5 H locs ls hf hC hl
      have hf := hk_60 _ hf
      obtain ⟨x3_6, e_6, hf⟩ := lt_inv hf
      refine lv_iinc (v := x3_6) (lv' := [(3, .int x3_6), (0, .ref (o 30)), (1, .int x1), (2, .int x2_5)]) hx hb dX8_innermost_60 hl (k := 3) rfl e_6.symm (by decide) rfl (fun ls hl => ?_)
      refine lv_goto (tgt := 4) hx hb dX8_innermost_63 (by decide) ?_
      exact ha_4 _ _ hf _ _ _ hC (lv_sub hl [1, 2, 3, 0] rfl)
    refine lv_if_eq (tgt := 60) hx hb dX8_innermost_29 (by decide) (fun c_7 => ?_) (fun c_7 => ?_)
    · have hf := it_t c_7 hf
      exact hj_60 _ _ _ _ hf hC (lv_sub hl [1, 2, 3, 4] rfl)
    · have hf := it_f c_7 hf
      refine lv_iload_n hx hb dX8_innermost_32 rfl (lv_at hl 3 rfl) ?_
      refine lv_iconst (v := (-1)) hx hb dX8_innermost_33 (by decide) ?_
      obtain ⟨k_58, hk_58, hf⟩ := jn_inv0 hf
      have hj_58 : ∀  (H : Heap) (locs : List Loc) (ls : Array Slot), k_58 = some v → CZ D A s H locs (WX y o σ) → lv_has ls 5 [(0, .ref (o 30)), (1, .int x1), (3, .int x3_1)] → W p l e R s m args below meth c H locs 0 0 Q (F0 m 58 ls []) := by
        intro H locs ls hf hC hl
        have hf := hk_58 hf
        refine lv_iload_n hx hb dX8_innermost_58 rfl (lv_at hl 2 rfl) ?_
        refine lv_istore_n (lv' := [(2, .int x3_1), (0, .ref (o 30)), (1, .int x1), (3, .int x3_1)]) hx hb dX8_innermost_59 rfl hl (by decide) rfl (fun ls hl => ?_)
        exact hj_60 _ _ _ _ hf hC (lv_sub hl [1, 2, 0, 3] rfl)
      refine lv_icmp_eq (tgt := 58) hx hb dX8_innermost_34 (by decide) (fun c_9 => ?_) (fun c_9 => ?_)
      · have hf := it_t c_9 hf
        exact hj_58 _ _ _ hf hC (lv_sub hl [1, 2, 4] rfl)
      · have hf := it_f c_9 hf
        refine lv_aload_n hx hb dX8_innermost_37 rfl (lv_at hl 1 rfl) ?_
        refine gt_X8_32_shape hx hb hta hown hK hC dX8_innermost_38 ?_
        refine lv_iload_n hx hb dX8_innermost_41 rfl (lv_at hl 4 rfl) ?_
        obtain ⟨hi_10, hf⟩ := ix_inv hf
        obtain ⟨v_10, e_10, hf⟩ := lt_inv hf
        refine al_X_37 hx hb hK hC hi_10 e_10 dX8_innermost_42 ?_
        obtain ⟨v_11, hc_11, hf⟩ := calp_inv hf
        refine cc_Si (r_J13_bitCount_95d88 (D := D) (y := y) (w := WX y o σ) (ad := ad) (av := av) hc_11 l) hx hb hml hta hown hK hN hV hA hC hRc hRs (by omega) (by omega) wq_593 wq_594 wq_595 wq_582 hd_J13_bitCount_95d88 (As := [.long v_10]) (rest := []) rfl rfl hl.1 rfl dX8_innermost_43 (fun H locs hC => ?_)
        refine lv_aload_n hx hb dX8_innermost_46 rfl (lv_at hl 1 rfl) ?_
        refine gt_X8_32_shape hx hb hta hown hK hC dX8_innermost_47 ?_
        refine lv_iload_n hx hb dX8_innermost_50 rfl (lv_at hl 3 rfl) ?_
        obtain ⟨hi_12, hf⟩ := ix_inv hf
        obtain ⟨v_12, e_12, hf⟩ := lt_inv hf
        refine al_X_37 hx hb hK hC hi_12 e_12 dX8_innermost_51 ?_
        obtain ⟨v_13, hc_13, hf⟩ := calp_inv hf
        refine cc_Si (r_J13_bitCount_95d88 (D := D) (y := y) (w := WX y o σ) (ad := ad) (av := av) hc_13 l) hx hb hml hta hown hK hN hV hA hC hRc hRs (by omega) (by omega) wq_593 wq_594 wq_595 wq_582 hd_J13_bitCount_95d88 (As := [.long v_12]) (rest := [.int v_11]) rfl rfl hl.1 rfl dX8_innermost_52 (fun H locs hC => ?_)
        refine lv_icmp_ge (tgt := 60) hx hb dX8_innermost_55 (by decide) (fun c_14 => ?_) (fun c_14 => ?_)
        · have hf := it_t c_14 hf
          exact hj_60 _ _ _ _ hf hC (lv_sub hl [1, 2, 3, 4] rfl)
        · have hf := it_f c_14 hf
          exact hj_58 _ _ _ hf hC (lv_sub hl [1, 2, 4] rfl)

set_option maxHeartbeats 8000000 in
set_option maxRecDepth 100000 in
theorem r_X8_loopsRound {D : va_G} {y : Nat → ClassId} {o : Nat → Nat} {ad av : Nat → Nat} {x1 : Int32} {σ : Sto} {v : Int32} (hf : f_X8_loopsRound x1 σ = some v) (l : Launch) (sz : Nat) : Met l yX8_loopsRound (Cond.code yX8_loopsRound cX8_loopsRound 4 (some .int) :: ALW) { frames := 1, cells := 0, slots := 0, locals := 22 } (va_Pc [.ref (o 30), .int x1] (PZ D y ad av (WX y o σ) sz)) (QZi D (WX y o σ) v (WX y o σ) sz) 0 0 (va_A (WX y o σ) sz) := by
  refine met_i (by decide) (Nat.le_of_ble_eq_true rfl) ?_
  intro p e R s m args below meth c Q A ls hx hb hml hta hown hRc hRs hRf hRl hN hK hV hA hret hC hl
  have hl : lv_has ls 4 [(0, .ref (o 30)), (1, .int x1)] := hl
  unfold f_X8_loopsRound at hf
  refine lv_iconst (v := 0) hx hb dX8_loopsRound_0 (by decide) ?_
  refine lv_istore_n (lv' := [(2, .int 0), (0, .ref (o 30)), (1, .int x1)]) hx hb dX8_loopsRound_1 rfl hl (by decide) rfl (fun ls hl => ?_)
  refine lv_iconst (v := 0) hx hb dX8_loopsRound_2 (by decide) ?_
  refine lv_istore_n (lv' := [(3, .int 0), (2, .int 0), (0, .ref (o 30)), (1, .int x1)]) hx hb dX8_loopsRound_3 rfl hl (by decide) rfl (fun ls hl => ?_)
  refine itr_inv2 (P := fun (x2_1 : Int32) (x3_1 : Int32) => ∀ (H : Heap) (locs : List Loc) (ls : Array Slot), CZ D A s H locs (WX y o σ) → lv_has ls 4 [(0, .ref (o 30)), (1, .int x1), (2, .int x2_1), (3, .int x3_1)] → W p l e R s m args below meth c H locs 0 0 Q (F0 m 4 ls [])) hf ?_ _ _ _ hC (lv_sub hl [2, 3, 1, 0] rfl)
  intro a_4 x2_1 x3_1 ha_4 hf H locs ls hC hl
  refine lv_iload_n hx hb dX8_loopsRound_4 rfl (lv_at hl 3 rfl) ?_
  refine lv_aload_n hx hb dX8_loopsRound_5 rfl (lv_at hl 0 rfl) ?_
  refine gt_X8_47_shape hx hb hta hown hK hC dX8_loopsRound_6 ?_
  refine gt_X8_109_blocks hx hb hta hown hK hC dX8_loopsRound_9 ?_
  refine lv_icmp_ge (tgt := 37) hx hb dX8_loopsRound_12 (by decide) (fun c_2 => ?_) (fun c_2 => ?_)
  · have hf := it_t c_2 hf
    refine lv_iload_n hx hb dX8_loopsRound_37 rfl (lv_at hl 2 rfl) ?_
    exact hret _ _ _ _ _ _ (Option.some.inj hf) rfl rfl dX8_loopsRound_38 hC
  · have hf := it_f c_2 hf
    refine lv_aload_n hx hb dX8_loopsRound_15 rfl (lv_at hl 0 rfl) ?_
    refine gt_X8_32_shape hx hb hta hown hK hC dX8_loopsRound_16 ?_
    refine lv_iload_n hx hb dX8_loopsRound_19 rfl (lv_at hl 3 rfl) ?_
    obtain ⟨hi_3, hf⟩ := ix_inv hf
    obtain ⟨v_3, e_3, hf⟩ := lt_inv hf
    refine al_X_37 hx hb hK hC hi_3 e_3 dX8_loopsRound_20 ?_
    refine lv_iload_n hx hb dX8_loopsRound_21 rfl (lv_at hl 1 rfl) ?_
    obtain ⟨v_4, hc_4, hf⟩ := calp_inv hf
    refine cc_SiN (r_X11_isIn (D := D) (y := y) (w := WX y o σ) (ad := ad) (av := av) hc_4 l) hx hb hml hta hown hK hN hV hA hC hRc hRs (by omega) (by omega) (nw_X8_112 hN) wq_37 wq_38 wq_33 hd_X11_isIn (As := [.long v_3, .int x1]) (rest := []) rfl rfl hl.1 rfl dX8_loopsRound_22 (fun H locs hC => ?_)
    obtain ⟨k_31, hk_31, hf⟩ := jn_inv1 hf
    have hj_31 : ∀ (x2_5 : Int32) (H : Heap) (locs : List Loc) (ls : Array Slot), k_31 x2_5 = some v → CZ D A s H locs (WX y o σ) → lv_has ls 4 [(0, .ref (o 30)), (1, .int x1), (2, .int x2_5), (3, .int x3_1)] → W p l e R s m args below meth c H locs 0 0 Q (F0 m 31 ls []) := by
      intro x2_5 H locs ls hf hC hl
      have hf := hk_31 _ hf
      obtain ⟨x3_6, e_6, hf⟩ := lt_inv hf
      refine lv_iinc (v := x3_6) (lv' := [(3, .int x3_6), (0, .ref (o 30)), (1, .int x1), (2, .int x2_5)]) hx hb dX8_loopsRound_31 hl (k := 3) rfl e_6.symm (by decide) rfl (fun ls hl => ?_)
      refine lv_goto (tgt := 4) hx hb dX8_loopsRound_34 (by decide) ?_
      exact ha_4 _ _ hf _ _ _ hC (lv_sub hl [1, 2, 3, 0] rfl)
    refine lv_if_eq (tgt := 31) hx hb dX8_loopsRound_25 (by decide) (fun c_7 => ?_) (fun c_7 => ?_)
    · have hf := it_t c_7 hf
      exact hj_31 _ _ _ _ hf hC hl
    · have hf := it_f c_7 hf
      obtain ⟨x2_8, e_8, hf⟩ := lt_inv hf
      refine lv_iinc (v := x2_8) (lv' := [(2, .int x2_8), (0, .ref (o 30)), (1, .int x1), (3, .int x3_1)]) hx hb dX8_loopsRound_28 hl (k := 2) rfl e_8.symm (by decide) rfl (fun ls hl => ?_)
      exact hj_31 _ _ _ _ hf hC (lv_sub hl [1, 2, 0, 3] rfl)

set_option maxHeartbeats 8000000 in
set_option maxRecDepth 100000 in
theorem r_X11_bytesIn {D : va_G} {y : Nat → ClassId} {ad av : Nat → Nat} {w : va_W} {x1 : Int32} {v : Int32} (hf : f_X11_bytesIn x1 = some v) (l : Launch) (sz : Nat) : Met l yX11_bytesIn (Cond.code yX11_bytesIn cX11_bytesIn 3 (some .int) :: ALW) { frames := 0, cells := 0, slots := 0, locals := 0 } (va_Pc [.int x1] (PZ D y ad av (w) sz)) (QZi D (w) v (w) sz) 0 0 (va_A (w) sz) := by
  refine met_i (by decide) (Nat.le_of_ble_eq_true rfl) ?_
  intro p e R s m args below meth c Q A ls hx hb hml hta hown hRc hRs hRf hRl hN hK hV hA hret hC hl
  have hl : lv_has ls 3 [(0, .int x1)] := hl
  unfold f_X11_bytesIn at hf
  refine lv_iconst (v := 0) hx hb dX11_bytesIn_0 (by decide) ?_
  refine lv_istore_n (lv' := [(1, .int 0), (0, .int x1)]) hx hb dX11_bytesIn_1 rfl hl (by decide) rfl (fun ls hl => ?_)
  refine lv_bipush (v := 24) hx hb dX11_bytesIn_2 (by decide) ?_
  refine lv_istore_n (lv' := [(2, .int 24), (1, .int 0), (0, .int x1)]) hx hb dX11_bytesIn_4 rfl hl (by decide) rfl (fun ls hl => ?_)
  refine itr_inv2 (P := fun (x1_1 : Int32) (x2_1 : Int32) => ∀ (H : Heap) (locs : List Loc) (ls : Array Slot), CZ D A s H locs w → lv_has ls 3 [(0, .int x1), (1, .int x1_1), (2, .int x2_1)] → W p l e R s m args below meth c H locs 0 0 Q (F0 m 5 ls [])) hf ?_ _ _ _ hC (lv_sub hl [2, 1, 0] rfl)
  intro a_5 x1_1 x2_1 ha_5 hf H locs ls hC hl
  refine lv_iload_n hx hb dX11_bytesIn_5 rfl (lv_at hl 2 rfl) ?_
  refine lv_if_lt (tgt := 28) hx hb dX11_bytesIn_6 (by decide) (fun c_2 => ?_) (fun c_2 => ?_)
  · have hf := it_t c_2 hf
    refine lv_iload_n hx hb dX11_bytesIn_28 rfl (lv_at hl 1 rfl) ?_
    exact hret _ _ _ _ _ _ (Option.some.inj hf) rfl rfl dX11_bytesIn_29 hC
  · have hf := it_f c_2 hf
    refine lv_iload_n hx hb dX11_bytesIn_9 rfl (lv_at hl 0 rfl) ?_
    refine lv_iload_n hx hb dX11_bytesIn_10 rfl (lv_at hl 2 rfl) ?_
    refine lv_iushr hx hb dX11_bytesIn_11 rfl ?_
    refine lv_sipush (v := 255) hx hb dX11_bytesIn_12 (by decide) ?_
    refine lv_iand hx hb dX11_bytesIn_15 ?_
    obtain ⟨k_22, hk_22, hf⟩ := jn_inv1 hf
    have hj_22 : ∀ (x1_3 : Int32) (H : Heap) (locs : List Loc) (ls : Array Slot), k_22 x1_3 = some v → CZ D A s H locs w → lv_has ls 3 [(0, .int x1), (1, .int x1_3), (2, .int x2_1)] → W p l e R s m args below meth c H locs 0 0 Q (F0 m 22 ls []) := by
      intro x1_3 H locs ls hf hC hl
      have hf := hk_22 _ hf
      obtain ⟨x2_4, e_4, hf⟩ := lt_inv hf
      refine lv_iinc (v := x2_4) (lv' := [(2, .int x2_4), (0, .int x1), (1, .int x1_3)]) hx hb dX11_bytesIn_22 hl (k := 2) rfl e_4.symm (by decide) rfl (fun ls hl => ?_)
      refine lv_goto (tgt := 5) hx hb dX11_bytesIn_25 (by decide) ?_
      exact ha_5 _ _ hf _ _ _ hC (lv_sub hl [1, 2, 0] rfl)
    refine lv_if_eq (tgt := 22) hx hb dX11_bytesIn_16 (by decide) (fun c_5 => ?_) (fun c_5 => ?_)
    · have hf := it_t c_5 hf
      exact hj_22 _ _ _ _ hf hC hl
    · have hf := it_f c_5 hf
      obtain ⟨x1_6, e_6, hf⟩ := lt_inv hf
      refine lv_iinc (v := x1_6) (lv' := [(1, .int x1_6), (0, .int x1), (2, .int x2_1)]) hx hb dX11_bytesIn_19 hl (k := 1) rfl e_6.symm (by decide) rfl (fun ls hl => ?_)
      exact hj_22 _ _ _ _ hf hC (lv_sub hl [1, 0, 2] rfl)

set_option maxHeartbeats 8000000 in
set_option maxRecDepth 100000 in
theorem r_X9_append {D : va_G} {y : Nat → ClassId} {o : Nat → Nat} {ad av : Nat → Nat} {x1 : Int32} {σ : Sto} {σ2 : Sto} (hf : f_X9_append x1 σ = some σ2) (l : Launch) (sz : Nat) : Met l yX9_append (Cond.code yX9_append cX9_append 4 none :: ALW) { frames := 0, cells := 0, slots := 0, locals := 0 } (va_Pc [.ref (o 1), .int x1] (PZ D y ad av (WX y o σ) sz)) (QZv D (WX y o σ) (WX y o σ2) sz) 0 0 (va_A (WX y o σ) sz) := by
  refine met_v (by decide) (Nat.le_of_ble_eq_true rfl) ?_
  intro p e R s m args below meth c Q A ls hx hb hml hta hown hRc hRs hRf hRl hN hK hV hA hret hC hl
  have hl : lv_has ls 4 [(0, .ref (o 1)), (1, .int x1)] := hl
  unfold f_X9_append at hf
  refine lv_bipush (v := 24) hx hb dX9_append_0 (by decide) ?_
  refine lv_istore_n (lv' := [(2, .int 24), (0, .ref (o 1)), (1, .int x1)]) hx hb dX9_append_2 rfl hl (by decide) rfl (fun ls hl => ?_)
  refine itr_inv2 (P := fun (x2_1 : Int32) (s_1 : Sto) => ∀ (H : Heap) (locs : List Loc) (ls : Array Slot), CZ D A s H locs (WX y o s_1) → lv_has ls 4 [(0, .ref (o 1)), (1, .int x1), (2, .int x2_1)] → W p l e R s m args below meth c H locs 0 0 Q (F0 m 3 ls [])) hf ?_ _ _ _ hC (lv_sub hl [1, 2, 0] rfl)
  intro a_3 x2_1 s_1 ha_3 hf H locs ls hC hl
  refine lv_iload_n hx hb dX9_append_3 rfl (lv_at hl 2 rfl) ?_
  refine lv_if_lt (tgt := 56) hx hb dX9_append_4 (by decide) (fun c_2 => ?_) (fun c_2 => ?_)
  · have hf := it_t c_2 hf
    exact hret _ _ _ _ _ (congrArg (WX y o) (Option.some.inj hf)) dX9_append_56 hC
  · have hf := it_f c_2 hf
    refine lv_iload_n hx hb dX9_append_7 rfl (lv_at hl 1 rfl) ?_
    refine lv_iload_n hx hb dX9_append_8 rfl (lv_at hl 2 rfl) ?_
    refine lv_iushr hx hb dX9_append_9 rfl ?_
    refine lv_sipush (v := 255) hx hb dX9_append_10 (by decide) ?_
    refine lv_iand hx hb dX9_append_13 ?_
    obtain ⟨x3_3, e_3, hf⟩ := lt_inv hf
    refine nmi e_3 ?_
    refine lv_istore_n (lv' := [(3, .int x3_3), (0, .ref (o 1)), (1, .int x1), (2, .int x2_1)]) hx hb dX9_append_14 rfl hl (by decide) rfl (fun ls hl => ?_)
    refine lv_iload_n hx hb dX9_append_15 rfl (lv_at hl 0 rfl) ?_
    obtain ⟨k_50, hk_50, hf⟩ := jn_inv1 hf
    have hj_50 : ∀ (s_4 : Sto) (H : Heap) (locs : List Loc) (ls : Array Slot), k_50 s_4 = some σ2 → CZ D A s H locs (WX y o s_4) → lv_has ls 4 [(0, .ref (o 1)), (1, .int x1), (2, .int x2_1)] → W p l e R s m args below meth c H locs 0 0 Q (F0 m 50 ls []) := by
      intro s_4 H locs ls hf hC hl
      have hf := hk_50 _ hf
      obtain ⟨x2_5, e_5, hf⟩ := lt_inv hf
      refine lv_iinc (v := x2_5) (lv' := [(2, .int x2_5), (0, .ref (o 1)), (1, .int x1)]) hx hb dX9_append_50 hl (k := 2) rfl e_5.symm (by decide) rfl (fun ls hl => ?_)
      refine lv_goto (tgt := 3) hx hb dX9_append_53 (by decide) ?_
      exact ha_3 _ _ hf _ _ _ hC (lv_sub hl [1, 2, 0] rfl)
    refine lv_if_eq (tgt := 50) hx hb dX9_append_16 (by decide) (fun c_6 => ?_) (fun c_6 => ?_)
    · have hf := it_t c_6 hf
      exact hj_50 _ _ _ _ hf hC (lv_sub hl [1, 2, 3] rfl)
    · have hf := it_f c_6 hf
      refine lv_aload_n hx hb dX9_append_19 rfl (lv_at hl 1 rfl) ?_
      refine gt_X9_15_tape hx hb hta hown hK hC dX9_append_20 ?_
      refine lv_sipush (v := 240) hx hb dX9_append_23 (by decide) ?_
      refine lv_icmp_ge (tgt := 50) hx hb dX9_append_26 (by decide) (fun c_7 => ?_) (fun c_7 => ?_)
      · have hf := it_t c_7 hf
        exact hj_50 _ _ _ _ hf hC (lv_sub hl [1, 2, 3] rfl)
      · have hf := it_f c_7 hf
        refine lv_aload_n hx hb dX9_append_29 rfl (lv_at hl 1 rfl) ?_
        refine gt_X9_9_tape hx hb hta hown hK hC dX9_append_30 ?_
        refine lv_aload_n hx hb dX9_append_33 rfl (lv_at hl 1 rfl) ?_
        refine gt_X9_15_tape hx hb hta hown hK hC dX9_append_34 ?_
        refine lv_iload_n hx hb dX9_append_37 rfl (lv_at hl 0 rfl) ?_
        refine lv_i2b hx hb dX9_append_38 rfl ?_
        obtain ⟨hi_8, hf⟩ := ix_inv hf
        obtain ⟨s_8, e_8, hf⟩ := lt_inv hf
        refine as_X_2 hx hb hK hC hi_8 e_8 dX9_append_39 (fun H locs hC => ?_)
        refine lv_aload_n hx hb dX9_append_40 rfl (lv_at hl 1 rfl) ?_
        refine lv_dup hx hb dX9_append_41 rfl ?_
        refine gt_X9_15_tape hx hb hta hown hK hC dX9_append_42 ?_
        refine lv_iconst (v := 1) hx hb dX9_append_45 (by decide) ?_
        refine lv_iadd hx hb dX9_append_46 ?_
        obtain ⟨s_9, e_9, hf⟩ := lt_inv hf
        refine pt_X9_15_tape hx hb hta hown hK hC e_9 dX9_append_47 (fun H locs hC => ?_)
        exact hj_50 _ _ _ _ hf hC (lv_sub hl [1, 2, 3] rfl)

set_option maxHeartbeats 8000000 in
set_option maxRecDepth 100000 in
theorem r_X11_feed {D : va_G} {y : Nat → ClassId} {o : Nat → Nat} {ad av : Nat → Nat} {x1 : Int32} {x2 : Int32} {x3 : Int32} {x4 : Int32} {x5 : Int32} {σ : Sto} {σ2 : Sto} {v : Int32} (hf : f_X11_feed x1 x2 x3 x4 x5 σ = some (v, σ2)) (l : Launch) (sz : Nat) : Met l yX11_feed (Cond.code yX11_feed cX11_feed 7 (some .int) :: ALW) { frames := 1, cells := 0, slots := 0, locals := 23 } (va_Pc [.ref (o 0), .int x1, .int x2, .int x3, .int x4, .int x5] (PZ D y ad av (WX y o σ) sz)) (QZi D (WX y o σ) v (WX y o σ2) sz) 0 0 (va_A (WX y o σ) sz) := by
  refine met_i (by decide) (Nat.le_of_ble_eq_true rfl) ?_
  intro p e R s m args below meth c Q A ls hx hb hml hta hown hRc hRs hRf hRl hN hK hV hA hret hC hl
  have hl : lv_has ls 7 [(0, .ref (o 0)), (1, .int x1), (2, .int x2), (3, .int x3), (4, .int x4), (5, .int x5)] := hl
  unfold f_X11_feed at hf
  refine lv_iload_n hx hb dX11_feed_0 rfl (lv_at hl 1 rfl) ?_
  obtain ⟨v_1, hc_1, hf⟩ := calp_inv hf
  refine cc_Si (r_X11_bytesIn (D := D) (y := y) (w := WX y o σ) (ad := ad) (av := av) hc_1 l) hx hb hml hta hown hK hN hV hA hC hRc hRs (by omega) (by omega) wq_769 wq_770 wq_38 wq_766 hd_X11_bytesIn (As := [.int x1]) (rest := []) rfl rfl hl.1 rfl dX11_feed_1 (fun H locs hC => ?_)
  refine lv_iload_n hx hb dX11_feed_4 rfl (lv_at hl 2 rfl) ?_
  obtain ⟨v_2, hc_2, hf⟩ := calp_inv hf
  refine cc_Si (r_X11_bytesIn (D := D) (y := y) (w := WX y o σ) (ad := ad) (av := av) hc_2 l) hx hb hml hta hown hK hN hV hA hC hRc hRs (by omega) (by omega) wq_769 wq_770 wq_38 wq_766 hd_X11_bytesIn (As := [.int x2]) (rest := [.int v_1]) rfl rfl hl.1 rfl dX11_feed_5 (fun H locs hC => ?_)
  refine lv_iadd hx hb dX11_feed_8 ?_
  refine lv_iload_n hx hb dX11_feed_9 rfl (lv_at hl 3 rfl) ?_
  obtain ⟨v_3, hc_3, hf⟩ := calp_inv hf
  refine cc_Si (r_X11_bytesIn (D := D) (y := y) (w := WX y o σ) (ad := ad) (av := av) hc_3 l) hx hb hml hta hown hK hN hV hA hC hRc hRs (by omega) (by omega) wq_769 wq_770 wq_38 wq_766 hd_X11_bytesIn (As := [.int x3]) (rest := [.int (v_1 + v_2)]) rfl rfl hl.1 rfl dX11_feed_10 (fun H locs hC => ?_)
  refine lv_iadd hx hb dX11_feed_13 ?_
  refine lv_iload hx hb dX11_feed_14 (lv_at hl 4 rfl) ?_
  obtain ⟨v_4, hc_4, hf⟩ := calp_inv hf
  refine cc_Si (r_X11_bytesIn (D := D) (y := y) (w := WX y o σ) (ad := ad) (av := av) hc_4 l) hx hb hml hta hown hK hN hV hA hC hRc hRs (by omega) (by omega) wq_769 wq_770 wq_38 wq_766 hd_X11_bytesIn (As := [.int x4]) (rest := [.int ((v_1 + v_2) + v_3)]) rfl rfl hl.1 rfl dX11_feed_16 (fun H locs hC => ?_)
  refine lv_iadd hx hb dX11_feed_19 ?_
  refine lv_iload hx hb dX11_feed_20 (lv_at hl 5 rfl) ?_
  obtain ⟨v_5, hc_5, hf⟩ := calp_inv hf
  refine cc_Si (r_X11_bytesIn (D := D) (y := y) (w := WX y o σ) (ad := ad) (av := av) hc_5 l) hx hb hml hta hown hK hN hV hA hC hRc hRs (by omega) (by omega) wq_769 wq_770 wq_38 wq_766 hd_X11_bytesIn (As := [.int x5]) (rest := [.int (((v_1 + v_2) + v_3) + v_4)]) rfl rfl hl.1 rfl dX11_feed_22 (fun H locs hC => ?_)
  refine lv_iadd hx hb dX11_feed_25 ?_
  obtain ⟨x6_6, e_6, hf⟩ := lt_inv hf
  refine nmi e_6 ?_
  refine lv_istore (lv' := [(6, .int x6_6), (0, .ref (o 0)), (1, .int x1), (2, .int x2), (3, .int x3), (4, .int x4), (5, .int x5)]) hx hb dX11_feed_26 hl (by decide) rfl (fun ls hl => ?_)
  refine lv_aload_n hx hb dX11_feed_28 rfl (lv_at hl 1 rfl) ?_
  refine gt_X11_10_cl hx hb hta hown hK hC dX11_feed_29 ?_
  refine gt_X11_113_tape hx hb hta hown hK hC dX11_feed_32 ?_
  refine lv_iload hx hb dX11_feed_35 (lv_at hl 0 rfl) ?_
  refine lv_iadd hx hb dX11_feed_37 ?_
  refine lv_sipush (v := 240) hx hb dX11_feed_38 (by decide) ?_
  refine lv_icmp_le (tgt := 46) hx hb dX11_feed_41 (by decide) (fun c_7 => ?_) (fun c_7 => ?_)
  · have hf := it_t c_7 hf
    refine lv_aload_n hx hb dX11_feed_46 rfl (lv_at hl 1 rfl) ?_
    refine gt_X11_10_cl hx hb hta hown hK hC dX11_feed_47 ?_
    refine lv_iload_n hx hb dX11_feed_50 rfl (lv_at hl 2 rfl) ?_
    obtain ⟨s_8, hc_8, hf⟩ := cals_inv hf
    refine cc_Vv (r_X9_append (D := D) (y := y) (o := o) (ad := ad) (av := av) hc_8 l) hx hb hml hta hown hK hN hV hA hC hRc hRs (by omega) (by omega) wq_771 (q := 1) (ci := 9) rfl rfl wq_772 wq_773 wq_671 wq_663 hd_X9_append (As := [.int x1]) (rest := []) rfl rfl hl.1 rfl dX11_feed_51 (fun H locs hC => ?_)
    refine lv_aload_n hx hb dX11_feed_54 rfl (lv_at hl 1 rfl) ?_
    refine gt_X11_10_cl hx hb hta hown hK hC dX11_feed_55 ?_
    refine lv_iload_n hx hb dX11_feed_58 rfl (lv_at hl 3 rfl) ?_
    obtain ⟨s_9, hc_9, hf⟩ := cals_inv hf
    refine cc_Vv (r_X9_append (D := D) (y := y) (o := o) (ad := ad) (av := av) hc_9 l) hx hb hml hta hown hK hN hV hA hC hRc hRs (by omega) (by omega) wq_771 (q := 1) (ci := 9) rfl rfl wq_772 wq_773 wq_671 wq_663 hd_X9_append (As := [.int x2]) (rest := []) rfl rfl hl.1 rfl dX11_feed_59 (fun H locs hC => ?_)
    refine lv_aload_n hx hb dX11_feed_62 rfl (lv_at hl 1 rfl) ?_
    refine gt_X11_10_cl hx hb hta hown hK hC dX11_feed_63 ?_
    refine lv_iload_n hx hb dX11_feed_66 rfl (lv_at hl 4 rfl) ?_
    obtain ⟨s_10, hc_10, hf⟩ := cals_inv hf
    refine cc_Vv (r_X9_append (D := D) (y := y) (o := o) (ad := ad) (av := av) hc_10 l) hx hb hml hta hown hK hN hV hA hC hRc hRs (by omega) (by omega) wq_771 (q := 1) (ci := 9) rfl rfl wq_772 wq_773 wq_671 wq_663 hd_X9_append (As := [.int x3]) (rest := []) rfl rfl hl.1 rfl dX11_feed_67 (fun H locs hC => ?_)
    refine lv_aload_n hx hb dX11_feed_70 rfl (lv_at hl 1 rfl) ?_
    refine gt_X11_10_cl hx hb hta hown hK hC dX11_feed_71 ?_
    refine lv_iload hx hb dX11_feed_74 (lv_at hl 5 rfl) ?_
    obtain ⟨s_11, hc_11, hf⟩ := cals_inv hf
    refine cc_Vv (r_X9_append (D := D) (y := y) (o := o) (ad := ad) (av := av) hc_11 l) hx hb hml hta hown hK hN hV hA hC hRc hRs (by omega) (by omega) wq_771 (q := 1) (ci := 9) rfl rfl wq_772 wq_773 wq_671 wq_663 hd_X9_append (As := [.int x4]) (rest := []) rfl rfl hl.1 rfl dX11_feed_76 (fun H locs hC => ?_)
    refine lv_aload_n hx hb dX11_feed_79 rfl (lv_at hl 1 rfl) ?_
    refine gt_X11_10_cl hx hb hta hown hK hC dX11_feed_80 ?_
    refine lv_iload hx hb dX11_feed_83 (lv_at hl 6 rfl) ?_
    obtain ⟨s_12, hc_12, hf⟩ := cals_inv hf
    refine cc_Vv (r_X9_append (D := D) (y := y) (o := o) (ad := ad) (av := av) hc_12 l) hx hb hml hta hown hK hN hV hA hC hRc hRs (by omega) (by omega) wq_771 (q := 1) (ci := 9) rfl rfl wq_772 wq_773 wq_671 wq_663 hd_X9_append (As := [.int x5]) (rest := []) rfl rfl hl.1 rfl dX11_feed_85 (fun H locs hC => ?_)
    refine lv_aload_n hx hb dX11_feed_88 rfl (lv_at hl 1 rfl) ?_
    refine gt_X11_10_cl hx hb hta hown hK hC dX11_feed_89 ?_
    refine gt_X11_113_tape hx hb hta hown hK hC dX11_feed_92 ?_
    exact hret _ _ _ _ _ _ (rv_inv hf).1 (congrArg (WX y o) (rv_inv hf).2) rfl dX11_feed_95 hC
  · have hf := it_f c_7 hf
    refine lv_iconst (v := (-1)) hx hb dX11_feed_44 (by decide) ?_
    exact hret _ _ _ _ _ _ (rv_inv hf).1 (congrArg (WX y o) (rv_inv hf).2) rfl dX11_feed_45 hC

set_option maxHeartbeats 8000000 in
set_option maxRecDepth 100000 in
theorem r_X11_end {D : va_G} {y : Nat → ClassId} {o : Nat → Nat} {ad av : Nat → Nat} {x1 : Int32} {σ : Sto} {σ2 : Sto} {v : Int32} (hf : f_X11_end x1 σ = some (v, σ2)) (l : Launch) (sz : Nat) : Met l yX11_end (Cond.code yX11_end cX11_end 2 (some .boolean) :: ALW) { frames := 0, cells := 0, slots := 0, locals := 0 } (va_Pc [.ref (o 0), .int x1] (PZ D y ad av (WX y o σ) sz)) (QZi D (WX y o σ) v (WX y o σ2) sz) 0 0 (va_A (WX y o σ) sz) := by
  refine met_i (by decide) (Nat.le_of_ble_eq_true rfl) ?_
  intro p e R s m args below meth c Q A ls hx hb hml hta hown hRc hRs hRf hRl hN hK hV hA hret hC hl
  have hl : lv_has ls 2 [(0, .ref (o 0)), (1, .int x1)] := hl
  unfold f_X11_end at hf
  refine lv_iload_n hx hb dX11_end_0 rfl (lv_at hl 1 rfl) ?_
  refine lv_if_lt (tgt := 15) hx hb dX11_end_1 (by decide) (fun c_1 => ?_) (fun c_1 => ?_)
  · have hf := it_t c_1 hf
    refine lv_iconst (v := 0) hx hb dX11_end_15 (by decide) ?_
    exact hret _ _ _ _ _ _ (rv_inv hf).1 (congrArg (WX y o) (rv_inv hf).2) rfl dX11_end_16 hC
  · have hf := it_f c_1 hf
    refine lv_iload_n hx hb dX11_end_4 rfl (lv_at hl 1 rfl) ?_
    refine lv_aload_n hx hb dX11_end_5 rfl (lv_at hl 0 rfl) ?_
    refine gt_X11_10_cl hx hb hta hown hK hC dX11_end_6 ?_
    refine gt_X11_113_tape hx hb hta hown hK hC dX11_end_9 ?_
    refine lv_icmp_le (tgt := 17) hx hb dX11_end_12 (by decide) (fun c_2 => ?_) (fun c_2 => ?_)
    · have hf := it_t c_2 hf
      refine lv_aload_n hx hb dX11_end_17 rfl (lv_at hl 0 rfl) ?_
      refine gt_X11_10_cl hx hb hta hown hK hC dX11_end_18 ?_
      refine lv_iload_n hx hb dX11_end_21 rfl (lv_at hl 1 rfl) ?_
      obtain ⟨s_3, e_3, hf⟩ := lt_inv hf
      refine pt_X11_113_tape hx hb hta hown hK hC e_3 dX11_end_22 (fun H locs hC => ?_)
      refine lv_iconst (v := 1) hx hb dX11_end_25 (by decide) ?_
      exact hret _ _ _ _ _ _ (rv_inv hf).1 (congrArg (WX y o) (rv_inv hf).2) rfl dX11_end_26 hC
    · have hf := it_f c_2 hf
      refine lv_iconst (v := 0) hx hb dX11_end_15 (by decide) ?_
      exact hret _ _ _ _ _ _ (rv_inv hf).1 (congrArg (WX y o) (rv_inv hf).2) rfl dX11_end_16 hC

set_option maxHeartbeats 8000000 in
set_option maxRecDepth 100000 in
theorem r_X9_current {D : va_G} {y : Nat → ClassId} {o : Nat → Nat} {ad av : Nat → Nat} {σ : Sto} {v : Int32} (hf : f_X9_current σ = some v) (l : Launch) (sz : Nat) : Met l yX9_current (Cond.code yX9_current cX9_current 1 (some .int) :: ALW) { frames := 0, cells := 0, slots := 0, locals := 0 } (va_Pc [.ref (o 1)] (PZ D y ad av (WX y o σ) sz)) (QZi D (WX y o σ) v (WX y o σ) sz) 0 0 (va_A (WX y o σ) sz) := by
  refine met_i (by decide) (Nat.le_of_ble_eq_true rfl) ?_
  intro p e R s m args below meth c Q A ls hx hb hml hta hown hRc hRs hRf hRl hN hK hV hA hret hC hl
  have hl : lv_has ls 1 [(0, .ref (o 1))] := hl
  unfold f_X9_current at hf
  refine lv_aload_n hx hb dX9_current_0 rfl (lv_at hl 0 rfl) ?_
  refine gt_X9_19_tape hx hb hta hown hK hC dX9_current_1 ?_
  refine lv_aload_n hx hb dX9_current_4 rfl (lv_at hl 0 rfl) ?_
  refine gt_X9_15_tape hx hb hta hown hK hC dX9_current_5 ?_
  refine lv_icmp_ge (tgt := 27) hx hb dX9_current_8 (by decide) (fun c_1 => ?_) (fun c_1 => ?_)
  · have hf := it_t c_1 hf
    refine lv_iconst (v := 0) hx hb dX9_current_27 (by decide) ?_
    exact hret _ _ _ _ _ _ (Option.some.inj hf) rfl rfl dX9_current_28 hC
  · have hf := it_f c_1 hf
    refine lv_aload_n hx hb dX9_current_11 rfl (lv_at hl 0 rfl) ?_
    refine gt_X9_9_tape hx hb hta hown hK hC dX9_current_12 ?_
    refine lv_aload_n hx hb dX9_current_15 rfl (lv_at hl 0 rfl) ?_
    refine gt_X9_19_tape hx hb hta hown hK hC dX9_current_16 ?_
    obtain ⟨hi_2, hf⟩ := ix_inv hf
    obtain ⟨v_2, e_2, hf⟩ := lt_inv hf
    refine al_X_2 hx hb hK hC hi_2 e_2 dX9_current_19 ?_
    refine lv_sipush (v := 255) hx hb dX9_current_20 (by decide) ?_
    refine lv_iand hx hb dX9_current_23 ?_
    refine lv_goto (tgt := 28) hx hb dX9_current_24 (by decide) ?_
    exact hret _ _ _ _ _ _ (Option.some.inj hf) rfl rfl dX9_current_28 hC

set_option maxHeartbeats 8000000 in
set_option maxRecDepth 100000 in
theorem r_X9_skipBlanks {D : va_G} {y : Nat → ClassId} {o : Nat → Nat} {ad av : Nat → Nat} {σ : Sto} {σ2 : Sto} (hf : f_X9_skipBlanks σ = some σ2) (l : Launch) (sz : Nat) : Met l yX9_skipBlanks (Cond.code yX9_skipBlanks cX9_skipBlanks 1 none :: ALW) { frames := 1, cells := 0, slots := 0, locals := 20 } (va_Pc [.ref (o 1)] (PZ D y ad av (WX y o σ) sz)) (QZv D (WX y o σ) (WX y o σ2) sz) 0 0 (va_A (WX y o σ) sz) := by
  refine met_v (by decide) (Nat.le_of_ble_eq_true rfl) ?_
  intro p e R s m args below meth c Q A ls hx hb hml hta hown hRc hRs hRf hRl hN hK hV hA hret hC hl
  have hl : lv_has ls 1 [(0, .ref (o 1))] := hl
  unfold f_X9_skipBlanks at hf
  refine itr_inv1 (P := fun (s_1 : Sto) => ∀ (H : Heap) (locs : List Loc) (ls : Array Slot), CZ D A s H locs (WX y o s_1) → lv_has ls 1 [(0, .ref (o 1))] → W p l e R s m args below meth c H locs 0 0 Q (F0 m 0 ls [])) hf ?_ _ _ _ hC hl
  intro a_0 s_1 ha_0 hf H locs ls hC hl
  refine lv_aload_n hx hb dX9_skipBlanks_0 rfl (lv_at hl 0 rfl) ?_
  refine gt_X9_19_tape hx hb hta hown hK hC dX9_skipBlanks_1 ?_
  refine lv_aload_n hx hb dX9_skipBlanks_4 rfl (lv_at hl 0 rfl) ?_
  refine gt_X9_15_tape hx hb hta hown hK hC dX9_skipBlanks_5 ?_
  refine lv_icmp_ge (tgt := 33) hx hb dX9_skipBlanks_8 (by decide) (fun c_2 => ?_) (fun c_2 => ?_)
  · have hf := it_t c_2 hf
    exact hret _ _ _ _ _ (congrArg (WX y o) (Option.some.inj hf)) dX9_skipBlanks_33 hC
  · have hf := it_f c_2 hf
    refine lv_aload_n hx hb dX9_skipBlanks_11 rfl (lv_at hl 0 rfl) ?_
    obtain ⟨v_3, hc_3, hf⟩ := calp_inv hf
    refine cc_Vi (r_X9_current (D := D) (y := y) (o := o) (ad := ad) (av := av) hc_3 l) hx hb hml hta hown hK hN hV hA hC hRc hRs (by omega) (by omega) wq_668 (q := 1) (ci := 9) rfl rfl wq_669 wq_670 wq_671 wq_665 hd_X9_current (As := []) (rest := []) rfl rfl hl.1 rfl dX9_skipBlanks_12 (fun H locs hC => ?_)
    refine lv_bipush (v := 32) hx hb dX9_skipBlanks_15 (by decide) ?_
    refine lv_icmp_ne (tgt := 33) hx hb dX9_skipBlanks_17 (by decide) (fun c_4 => ?_) (fun c_4 => ?_)
    · have hf := it_f c_4 hf
      exact hret _ _ _ _ _ (congrArg (WX y o) (Option.some.inj hf)) dX9_skipBlanks_33 hC
    · have hf := it_t c_4 hf
      refine lv_aload_n hx hb dX9_skipBlanks_20 rfl (lv_at hl 0 rfl) ?_
      refine lv_dup hx hb dX9_skipBlanks_21 rfl ?_
      refine gt_X9_19_tape hx hb hta hown hK hC dX9_skipBlanks_22 ?_
      refine lv_iconst (v := 1) hx hb dX9_skipBlanks_25 (by decide) ?_
      refine lv_iadd hx hb dX9_skipBlanks_26 ?_
      obtain ⟨s_5, e_5, hf⟩ := lt_inv hf
      refine pt_X9_19_tape hx hb hta hown hK hC e_5 dX9_skipBlanks_27 (fun H locs hC => ?_)
      refine lv_goto (tgt := 0) hx hb dX9_skipBlanks_30 (by decide) ?_
      exact ha_0 _ hf _ _ _ hC hl

set_option maxHeartbeats 8000000 in
set_option maxRecDepth 100000 in
theorem r_X9_readNumber {D : va_G} {y : Nat → ClassId} {o : Nat → Nat} {ad av : Nat → Nat} {x1 : Int32} {σ : Sto} {σ2 : Sto} {v : Int32} (hf : f_X9_readNumber x1 σ = some (v, σ2)) (l : Launch) (sz : Nat) : Met l yX9_readNumber (Cond.code yX9_readNumber cX9_readNumber 4 (some .int) :: ALW) { frames := 2, cells := 0, slots := 0, locals := 60 } (va_Pc [.ref (o 1), .int x1] (PZ D y ad av (WX y o σ) sz)) (QZi D (WX y o σ) v (WX y o σ2) sz) 0 0 (va_A (WX y o σ) sz) := by
  refine met_i (by decide) (Nat.le_of_ble_eq_true rfl) ?_
  intro p e R s m args below meth c Q A ls hx hb hml hta hown hRc hRs hRf hRl hN hK hV hA hret hC hl
  have hl : lv_has ls 4 [(0, .ref (o 1)), (1, .int x1)] := hl
  unfold f_X9_readNumber at hf
  refine lv_aload_n hx hb dX9_readNumber_0 rfl (lv_at hl 0 rfl) ?_
  refine lv_dup hx hb dX9_readNumber_1 rfl ?_
  refine gt_X9_19_tape hx hb hta hown hK hC dX9_readNumber_2 ?_
  refine lv_iconst (v := 1) hx hb dX9_readNumber_5 (by decide) ?_
  refine lv_iadd hx hb dX9_readNumber_6 ?_
  obtain ⟨s_1, e_1, hf⟩ := lt_inv hf
  refine pt_X9_19_tape hx hb hta hown hK hC e_1 dX9_readNumber_7 (fun H locs hC => ?_)
  refine lv_aload_n hx hb dX9_readNumber_10 rfl (lv_at hl 0 rfl) ?_
  obtain ⟨s_2, hc_2, hf⟩ := cals_inv hf
  refine cc_Vv (r_X9_skipBlanks (D := D) (y := y) (o := o) (ad := ad) (av := av) hc_2 l) hx hb hml hta hown hK hN hV hA hC hRc hRs (by omega) (by omega) wq_676 (q := 1) (ci := 9) rfl rfl wq_677 wq_678 wq_671 wq_667 hd_X9_skipBlanks (As := []) (rest := []) rfl rfl hl.1 rfl dX9_readNumber_11 (fun H locs hC => ?_)
  refine lv_iconst (v := (-1)) hx hb dX9_readNumber_14 (by decide) ?_
  refine lv_istore_n (lv' := [(2, .int (-1)), (0, .ref (o 1)), (1, .int x1)]) hx hb dX9_readNumber_15 rfl hl (by decide) rfl (fun ls hl => ?_)
  refine itr_inv2 (P := fun (x2_3 : Int32) (s_3 : Sto) => ∀ (H : Heap) (locs : List Loc) (ls : Array Slot), CZ D A s H locs (WX y o s_3) → lv_has ls 4 [(0, .ref (o 1)), (1, .int x1), (2, .int x2_3)] → W p l e R s m args below meth c H locs 0 0 Q (F0 m 16 ls [])) hf ?_ _ _ _ hC (lv_sub hl [1, 2, 0] rfl)
  intro a_16 x2_3 s_3 ha_16 hf H locs ls hC hl
  refine lv_aload_n hx hb dX9_readNumber_16 rfl (lv_at hl 0 rfl) ?_
  refine gt_X9_19_tape hx hb hta hown hK hC dX9_readNumber_17 ?_
  refine lv_aload_n hx hb dX9_readNumber_20 rfl (lv_at hl 0 rfl) ?_
  refine gt_X9_15_tape hx hb hta hown hK hC dX9_readNumber_21 ?_
  refine lv_icmp_ge (tgt := 84) hx hb dX9_readNumber_24 (by decide) (fun c_4 => ?_) (fun c_4 => ?_)
  · have hf := it_t c_4 hf
    refine lv_iload_n hx hb dX9_readNumber_84 rfl (lv_at hl 2 rfl) ?_
    exact hret _ _ _ _ _ _ (rv_inv hf).1 (congrArg (WX y o) (rv_inv hf).2) rfl dX9_readNumber_85 hC
  · have hf := it_f c_4 hf
    refine lv_aload_n hx hb dX9_readNumber_27 rfl (lv_at hl 0 rfl) ?_
    obtain ⟨v_5, hc_5, hf⟩ := calp_inv hf
    refine cc_Vi (r_X9_current (D := D) (y := y) (o := o) (ad := ad) (av := av) hc_5 l) hx hb hml hta hown hK hN hV hA hC hRc hRs (by omega) (by omega) wq_668 (q := 1) (ci := 9) rfl rfl wq_669 wq_670 wq_671 wq_665 hd_X9_current (As := []) (rest := []) rfl rfl hl.1 rfl dX9_readNumber_28 (fun H locs hC => ?_)
    refine lv_bipush (v := 48) hx hb dX9_readNumber_31 (by decide) ?_
    refine lv_icmp_lt (tgt := 84) hx hb dX9_readNumber_33 (by decide) (fun c_6 => ?_) (fun c_6 => ?_)
    · have hf := it_t c_6 hf
      refine lv_iload_n hx hb dX9_readNumber_84 rfl (lv_at hl 2 rfl) ?_
      exact hret _ _ _ _ _ _ (rv_inv hf).1 (congrArg (WX y o) (rv_inv hf).2) rfl dX9_readNumber_85 hC
    · have hf := it_f c_6 hf
      refine lv_aload_n hx hb dX9_readNumber_36 rfl (lv_at hl 0 rfl) ?_
      obtain ⟨v_7, hc_7, hf⟩ := calp_inv hf
      refine cc_Vi (r_X9_current (D := D) (y := y) (o := o) (ad := ad) (av := av) hc_7 l) hx hb hml hta hown hK hN hV hA hC hRc hRs (by omega) (by omega) wq_668 (q := 1) (ci := 9) rfl rfl wq_669 wq_670 wq_671 wq_665 hd_X9_current (As := []) (rest := []) rfl rfl hl.1 rfl dX9_readNumber_37 (fun H locs hC => ?_)
      refine lv_bipush (v := 57) hx hb dX9_readNumber_40 (by decide) ?_
      refine lv_icmp_gt (tgt := 84) hx hb dX9_readNumber_42 (by decide) (fun c_8 => ?_) (fun c_8 => ?_)
      · have hf := it_t c_8 hf
        refine lv_iload_n hx hb dX9_readNumber_84 rfl (lv_at hl 2 rfl) ?_
        exact hret _ _ _ _ _ _ (rv_inv hf).1 (congrArg (WX y o) (rv_inv hf).2) rfl dX9_readNumber_85 hC
      · have hf := it_f c_8 hf
        refine lv_iload_n hx hb dX9_readNumber_45 rfl (lv_at hl 2 rfl) ?_
        refine lv_iconst (v := 0) hx hb dX9_readNumber_46 (by decide) ?_
        obtain ⟨v_9, e_9, hf⟩ := lt_inv hf
        refine cc_max hx hb hml hta hown hRc hRs (by omega) (by omega) wq_675 hl.1 rfl e_9 dX9_readNumber_47 ?_
        refine lv_bipush (v := 10) hx hb dX9_readNumber_50 (by decide) ?_
        refine lv_imul hx hb dX9_readNumber_52 ?_
        refine lv_aload_n hx hb dX9_readNumber_53 rfl (lv_at hl 0 rfl) ?_
        obtain ⟨v_10, hc_10, hf⟩ := calp_inv hf
        refine cc_Vi (r_X9_current (D := D) (y := y) (o := o) (ad := ad) (av := av) hc_10 l) hx hb hml hta hown hK hN hV hA hC hRc hRs (by omega) (by omega) wq_668 (q := 1) (ci := 9) rfl rfl wq_669 wq_670 wq_671 wq_665 hd_X9_current (As := []) (rest := [.int (v_9 * 10)]) rfl rfl hl.1 rfl dX9_readNumber_54 (fun H locs hC => ?_)
        refine lv_iadd hx hb dX9_readNumber_57 ?_
        refine lv_bipush (v := 48) hx hb dX9_readNumber_58 (by decide) ?_
        refine lv_isub hx hb dX9_readNumber_60 ?_
        obtain ⟨x3_11, e_11, hf⟩ := lt_inv hf
        refine nmi e_11 ?_
        refine lv_istore_n (lv' := [(3, .int x3_11), (0, .ref (o 1)), (1, .int x1), (2, .int x2_3)]) hx hb dX9_readNumber_61 rfl hl (by decide) rfl (fun ls hl => ?_)
        refine lv_iload_n hx hb dX9_readNumber_62 rfl (lv_at hl 0 rfl) ?_
        refine lv_iload_n hx hb dX9_readNumber_63 rfl (lv_at hl 2 rfl) ?_
        refine lv_icmp_le (tgt := 69) hx hb dX9_readNumber_64 (by decide) (fun c_12 => ?_) (fun c_12 => ?_)
        · have hf := it_t c_12 hf
          refine lv_iload_n hx hb dX9_readNumber_69 rfl (lv_at hl 0 rfl) ?_
          refine lv_istore_n (lv' := [(2, .int x3_11), (3, .int x3_11), (0, .ref (o 1)), (1, .int x1)]) hx hb dX9_readNumber_70 rfl hl (by decide) rfl (fun ls hl => ?_)
          refine lv_aload_n hx hb dX9_readNumber_71 rfl (lv_at hl 2 rfl) ?_
          refine lv_dup hx hb dX9_readNumber_72 rfl ?_
          refine gt_X9_19_tape hx hb hta hown hK hC dX9_readNumber_73 ?_
          refine lv_iconst (v := 1) hx hb dX9_readNumber_76 (by decide) ?_
          refine lv_iadd hx hb dX9_readNumber_77 ?_
          obtain ⟨s_13, e_13, hf⟩ := lt_inv hf
          refine pt_X9_19_tape hx hb hta hown hK hC e_13 dX9_readNumber_78 (fun H locs hC => ?_)
          refine lv_goto (tgt := 16) hx hb dX9_readNumber_81 (by decide) ?_
          exact ha_16 _ _ hf _ _ _ hC (lv_sub hl [2, 3, 0] rfl)
        · have hf := it_f c_12 hf
          refine lv_iconst (v := (-1)) hx hb dX9_readNumber_67 (by decide) ?_
          exact hret _ _ _ _ _ _ (rv_inv hf).1 (congrArg (WX y o) (rv_inv hf).2) rfl dX9_readNumber_68 hC

set_option maxHeartbeats 8000000 in
set_option maxRecDepth 100000 in
theorem r_X9_isAtComma {D : va_G} {y : Nat → ClassId} {o : Nat → Nat} {ad av : Nat → Nat} {σ : Sto} {σ2 : Sto} {v : Int32} (hf : f_X9_isAtComma σ = some (v, σ2)) (l : Launch) (sz : Nat) : Met l yX9_isAtComma (Cond.code yX9_isAtComma cX9_isAtComma 1 (some .boolean) :: ALW) { frames := 2, cells := 0, slots := 0, locals := 40 } (va_Pc [.ref (o 1)] (PZ D y ad av (WX y o σ) sz)) (QZi D (WX y o σ) v (WX y o σ2) sz) 0 0 (va_A (WX y o σ) sz) := by
  refine met_i (by decide) (Nat.le_of_ble_eq_true rfl) ?_
  intro p e R s m args below meth c Q A ls hx hb hml hta hown hRc hRs hRf hRl hN hK hV hA hret hC hl
  have hl : lv_has ls 1 [(0, .ref (o 1))] := hl
  unfold f_X9_isAtComma at hf
  refine lv_aload_n hx hb dX9_isAtComma_0 rfl (lv_at hl 0 rfl) ?_
  obtain ⟨s_1, hc_1, hf⟩ := cals_inv hf
  refine cc_Vv (r_X9_skipBlanks (D := D) (y := y) (o := o) (ad := ad) (av := av) hc_1 l) hx hb hml hta hown hK hN hV hA hC hRc hRs (by omega) (by omega) wq_676 (q := 1) (ci := 9) rfl rfl wq_677 wq_678 wq_671 wq_667 hd_X9_skipBlanks (As := []) (rest := []) rfl rfl hl.1 rfl dX9_isAtComma_1 (fun H locs hC => ?_)
  refine lv_aload_n hx hb dX9_isAtComma_4 rfl (lv_at hl 0 rfl) ?_
  refine gt_X9_19_tape hx hb hta hown hK hC dX9_isAtComma_5 ?_
  refine lv_aload_n hx hb dX9_isAtComma_8 rfl (lv_at hl 0 rfl) ?_
  refine gt_X9_15_tape hx hb hta hown hK hC dX9_isAtComma_9 ?_
  obtain ⟨k_28, hk_28, hf⟩ := jn_inv0 hf
  have hj_28 : ∀  (H : Heap) (locs : List Loc) (ls : Array Slot), k_28 = some (v, σ2) → CZ D A s H locs (WX y o s_1) → lv_has ls 1 [] → W p l e R s m args below meth c H locs 0 0 Q (F0 m 28 ls []) := by
    intro H locs ls hf hC hl
    have hf := hk_28 hf
    refine lv_iconst (v := 0) hx hb dX9_isAtComma_28 (by decide) ?_
    exact hret _ _ _ _ _ _ (rv_inv hf).1 (congrArg (WX y o) (rv_inv hf).2) rfl dX9_isAtComma_29 hC
  refine lv_icmp_ge (tgt := 28) hx hb dX9_isAtComma_12 (by decide) (fun c_3 => ?_) (fun c_3 => ?_)
  · have hf := it_t c_3 hf
    exact hj_28 _ _ _ hf hC (lv_sub hl [] rfl)
  · have hf := it_f c_3 hf
    refine lv_aload_n hx hb dX9_isAtComma_15 rfl (lv_at hl 0 rfl) ?_
    obtain ⟨v_4, hc_4, hf⟩ := calp_inv hf
    refine cc_Vi (r_X9_current (D := D) (y := y) (o := o) (ad := ad) (av := av) hc_4 l) hx hb hml hta hown hK hN hV hA hC hRc hRs (by omega) (by omega) wq_668 (q := 1) (ci := 9) rfl rfl wq_669 wq_670 wq_671 wq_665 hd_X9_current (As := []) (rest := []) rfl rfl hl.1 rfl dX9_isAtComma_16 (fun H locs hC => ?_)
    refine lv_bipush (v := 44) hx hb dX9_isAtComma_19 (by decide) ?_
    refine lv_icmp_ne (tgt := 28) hx hb dX9_isAtComma_21 (by decide) (fun c_5 => ?_) (fun c_5 => ?_)
    · have hf := it_f c_5 hf
      exact hj_28 _ _ _ hf hC (lv_sub hl [] rfl)
    · have hf := it_t c_5 hf
      refine lv_iconst (v := 1) hx hb dX9_isAtComma_24 (by decide) ?_
      refine lv_goto (tgt := 29) hx hb dX9_isAtComma_25 (by decide) ?_
      exact hret _ _ _ _ _ _ (rv_inv hf).1 (congrArg (WX y o) (rv_inv hf).2) rfl dX9_isAtComma_29 hC

set_option maxHeartbeats 8000000 in
set_option maxRecDepth 100000 in
theorem r_X9_readHandler_draft {D : va_G} {y : Nat → ClassId} {o : Nat → Nat} {ad av : Nat → Nat} {σ : Sto} {σ2 : Sto} {v : Int32} (hf : f_X9_readHandler_draft σ = some (v, σ2)) (l : Launch) (sz : Nat) : Met l yX9_readHandler (Cond.code yX9_readHandler cX9_readHandler 5 (some .boolean) :: ALW) { frames := 3, cells := 0, slots := 0, locals := 83 } (va_Pc [.ref (o 1), .ref (o 10)] (PZ D y ad av (WX y o σ) sz)) (QZi D (WX y o σ) v (WX y o σ2) sz) 0 0 (va_A (WX y o σ) sz) := by
  refine met_i (by decide) (Nat.le_of_ble_eq_true rfl) ?_
  intro p e R s m args below meth c Q A ls hx hb hml hta hown hRc hRs hRf hRl hN hK hV hA hret hC hl
  have hl : lv_has ls 5 [(0, .ref (o 1)), (1, .ref (o 10))] := hl
  unfold f_X9_readHandler_draft at hf
  refine lv_aload_n hx hb dX9_readHandler_0 rfl (lv_at hl 0 rfl) ?_
  obtain ⟨v_1, hc_1, hf⟩ := calp_inv hf
  refine cc_Vi (r_X9_current (D := D) (y := y) (o := o) (ad := ad) (av := av) hc_1 l) hx hb hml hta hown hK hN hV hA hC hRc hRs (by omega) (by omega) wq_668 (q := 1) (ci := 9) rfl rfl wq_669 wq_670 wq_671 wq_665 hd_X9_current (As := []) (rest := []) rfl rfl hl.1 rfl dX9_readHandler_1 (fun H locs hC => ?_)
  refine lv_bipush (v := 104) hx hb dX9_readHandler_4 (by decide) ?_
  refine lv_icmp_ne (tgt := 17) hx hb dX9_readHandler_6 (by decide) (fun c_2 => ?_) (fun c_2 => ?_)
  · have hf := it_f c_2 hf
    refine lv_iconst (v := 0) hx hb dX9_readHandler_17 (by decide) ?_
    exact hret _ _ _ _ _ _ (rv_inv hf).1 (congrArg (WX y o) (rv_inv hf).2) rfl dX9_readHandler_18 hC
  · have hf := it_t c_2 hf
    refine lv_aload_n hx hb dX9_readHandler_9 rfl (lv_at hl 1 rfl) ?_
    refine gt_X9_27_draft hx hb hta hown hK hC dX9_readHandler_10 ?_
    refine lv_iconst (v := 3) hx hb dX9_readHandler_13 (by decide) ?_
    refine lv_icmp_ne (tgt := 19) hx hb dX9_readHandler_14 (by decide) (fun c_3 => ?_) (fun c_3 => ?_)
    · have hf := it_f c_3 hf
      refine lv_aload_n hx hb dX9_readHandler_19 rfl (lv_at hl 0 rfl) ?_
      refine lv_bipush (v := 40) hx hb dX9_readHandler_20 (by decide) ?_
      obtain ⟨v_4, s_4, hc_4, hf⟩ := calv_inv hf
      refine cc_Vi (r_X9_readNumber (D := D) (y := y) (o := o) (ad := ad) (av := av) hc_4 l) hx hb hml hta hown hK hN hV hA hC hRc hRs (by omega) (by omega) wq_684 (q := 1) (ci := 9) rfl rfl wq_685 wq_686 wq_671 wq_674 hd_X9_readNumber (As := [.int 40]) (rest := []) rfl rfl hl.1 rfl dX9_readHandler_22 (fun H locs hC => ?_)
      refine lv_istore_n (lv' := [(2, .int v_4), (0, .ref (o 1)), (1, .ref (o 10))]) hx hb dX9_readHandler_25 rfl hl (by decide) rfl (fun ls hl => ?_)
      refine lv_iload_n hx hb dX9_readHandler_26 rfl (lv_at hl 0 rfl) ?_
      refine lv_iconst (v := (-1)) hx hb dX9_readHandler_27 (by decide) ?_
      refine lv_icmp_eq (tgt := 38) hx hb dX9_readHandler_28 (by decide) (fun c_5 => ?_) (fun c_5 => ?_)
      · have hf := it_t c_5 hf
        refine lv_iconst (v := 0) hx hb dX9_readHandler_38 (by decide) ?_
        exact hret _ _ _ _ _ _ (rv_inv hf).1 (congrArg (WX y o) (rv_inv hf).2) rfl dX9_readHandler_39 hC
      · have hf := it_f c_5 hf
        refine lv_aload_n hx hb dX9_readHandler_31 rfl (lv_at hl 1 rfl) ?_
        obtain ⟨v_6, s_6, hc_6, hf⟩ := calv_inv hf
        refine cc_Vi (r_X9_isAtComma (D := D) (y := y) (o := o) (ad := ad) (av := av) hc_6 l) hx hb hml hta hown hK hN hV hA hC hRc hRs (by omega) (by omega) wq_696 (q := 1) (ci := 9) rfl rfl wq_697 wq_698 wq_671 wq_691 hd_X9_isAtComma (As := []) (rest := []) rfl rfl hl.1 rfl dX9_readHandler_32 (fun H locs hC => ?_)
        refine lv_if_ne (tgt := 40) hx hb dX9_readHandler_35 (by decide) (fun c_7 => ?_) (fun c_7 => ?_)
        · have hf := it_f c_7 hf
          refine lv_aload_n hx hb dX9_readHandler_40 rfl (lv_at hl 1 rfl) ?_
          refine lv_bipush (v := 40) hx hb dX9_readHandler_41 (by decide) ?_
          obtain ⟨v_8, s_8, hc_8, hf⟩ := calv_inv hf
          refine cc_Vi (r_X9_readNumber (D := D) (y := y) (o := o) (ad := ad) (av := av) hc_8 l) hx hb hml hta hown hK hN hV hA hC hRc hRs (by omega) (by omega) wq_684 (q := 1) (ci := 9) rfl rfl wq_685 wq_686 wq_671 wq_674 hd_X9_readNumber (As := [.int 40]) (rest := []) rfl rfl hl.1 rfl dX9_readHandler_43 (fun H locs hC => ?_)
          refine lv_istore_n (lv' := [(3, .int v_8), (2, .int v_4), (0, .ref (o 1)), (1, .ref (o 10))]) hx hb dX9_readHandler_46 rfl hl (by decide) rfl (fun ls hl => ?_)
          refine lv_iload_n hx hb dX9_readHandler_47 rfl (lv_at hl 0 rfl) ?_
          refine lv_iconst (v := (-1)) hx hb dX9_readHandler_48 (by decide) ?_
          refine lv_icmp_eq (tgt := 59) hx hb dX9_readHandler_49 (by decide) (fun c_9 => ?_) (fun c_9 => ?_)
          · have hf := it_t c_9 hf
            refine lv_iconst (v := 0) hx hb dX9_readHandler_59 (by decide) ?_
            exact hret _ _ _ _ _ _ (rv_inv hf).1 (congrArg (WX y o) (rv_inv hf).2) rfl dX9_readHandler_60 hC
          · have hf := it_f c_9 hf
            refine lv_aload_n hx hb dX9_readHandler_52 rfl (lv_at hl 2 rfl) ?_
            obtain ⟨v_10, s_10, hc_10, hf⟩ := calv_inv hf
            refine cc_Vi (r_X9_isAtComma (D := D) (y := y) (o := o) (ad := ad) (av := av) hc_10 l) hx hb hml hta hown hK hN hV hA hC hRc hRs (by omega) (by omega) wq_696 (q := 1) (ci := 9) rfl rfl wq_697 wq_698 wq_671 wq_691 hd_X9_isAtComma (As := []) (rest := []) rfl rfl hl.1 rfl dX9_readHandler_53 (fun H locs hC => ?_)
            refine lv_if_ne (tgt := 61) hx hb dX9_readHandler_56 (by decide) (fun c_11 => ?_) (fun c_11 => ?_)
            · have hf := it_f c_11 hf
              refine lv_aload_n hx hb dX9_readHandler_61 rfl (lv_at hl 2 rfl) ?_
              refine lv_bipush (v := 40) hx hb dX9_readHandler_62 (by decide) ?_
              obtain ⟨v_12, s_12, hc_12, hf⟩ := calv_inv hf
              refine cc_Vi (r_X9_readNumber (D := D) (y := y) (o := o) (ad := ad) (av := av) hc_12 l) hx hb hml hta hown hK hN hV hA hC hRc hRs (by omega) (by omega) wq_684 (q := 1) (ci := 9) rfl rfl wq_685 wq_686 wq_671 wq_674 hd_X9_readNumber (As := [.int 40]) (rest := []) rfl rfl hl.1 rfl dX9_readHandler_64 (fun H locs hC => ?_)
              refine lv_istore (lv' := [(4, .int v_12), (3, .int v_8), (2, .int v_4), (0, .ref (o 1)), (1, .ref (o 10))]) hx hb dX9_readHandler_67 hl (by decide) rfl (fun ls hl => ?_)
              refine lv_iload hx hb dX9_readHandler_69 (lv_at hl 0 rfl) ?_
              refine lv_iconst (v := (-1)) hx hb dX9_readHandler_71 (by decide) ?_
              refine lv_icmp_ne (tgt := 77) hx hb dX9_readHandler_72 (by decide) (fun c_13 => ?_) (fun c_13 => ?_)
              · have hf := it_f c_13 hf
                refine lv_aload_n hx hb dX9_readHandler_77 rfl (lv_at hl 4 rfl) ?_
                refine gt_X9_66_draft hx hb hta hown hK hC dX9_readHandler_78 ?_
                refine lv_aload_n hx hb dX9_readHandler_81 rfl (lv_at hl 4 rfl) ?_
                refine gt_X9_27_draft hx hb hta hown hK hC dX9_readHandler_82 ?_
                refine lv_iload_n hx hb dX9_readHandler_85 rfl (lv_at hl 2 rfl) ?_
                obtain ⟨hi_14, hf⟩ := ix_inv hf
                obtain ⟨s_14, e_14, hf⟩ := lt_inv hf
                refine as_X_14 hx hb hK hC hi_14 e_14 dX9_readHandler_86 (fun H locs hC => ?_)
                refine lv_aload_n hx hb dX9_readHandler_87 rfl (lv_at hl 4 rfl) ?_
                refine gt_X9_69_draft hx hb hta hown hK hC dX9_readHandler_88 ?_
                refine lv_aload_n hx hb dX9_readHandler_91 rfl (lv_at hl 4 rfl) ?_
                refine gt_X9_27_draft hx hb hta hown hK hC dX9_readHandler_92 ?_
                refine lv_iload_n hx hb dX9_readHandler_95 rfl (lv_at hl 1 rfl) ?_
                obtain ⟨hi_15, hf⟩ := ix_inv hf
                obtain ⟨s_15, e_15, hf⟩ := lt_inv hf
                refine as_X_15 hx hb hK hC hi_15 e_15 dX9_readHandler_96 (fun H locs hC => ?_)
                refine lv_aload_n hx hb dX9_readHandler_97 rfl (lv_at hl 4 rfl) ?_
                refine gt_X9_72_draft hx hb hta hown hK hC dX9_readHandler_98 ?_
                refine lv_aload_n hx hb dX9_readHandler_101 rfl (lv_at hl 4 rfl) ?_
                refine gt_X9_27_draft hx hb hta hown hK hC dX9_readHandler_102 ?_
                refine lv_iload hx hb dX9_readHandler_105 (lv_at hl 0 rfl) ?_
                obtain ⟨hi_16, hf⟩ := ix_inv hf
                obtain ⟨s_16, e_16, hf⟩ := lt_inv hf
                refine as_X_16 hx hb hK hC hi_16 e_16 dX9_readHandler_107 (fun H locs hC => ?_)
                refine lv_aload_n hx hb dX9_readHandler_108 rfl (lv_at hl 4 rfl) ?_
                refine lv_dup hx hb dX9_readHandler_109 rfl ?_
                refine gt_X9_27_draft hx hb hta hown hK hC dX9_readHandler_110 ?_
                refine lv_iconst (v := 1) hx hb dX9_readHandler_113 (by decide) ?_
                refine lv_iadd hx hb dX9_readHandler_114 ?_
                obtain ⟨s_17, e_17, hf⟩ := lt_inv hf
                refine pt_X9_27_draft hx hb hta hown hK hC e_17 dX9_readHandler_115 (fun H locs hC => ?_)
                refine lv_iconst (v := 1) hx hb dX9_readHandler_118 (by decide) ?_
                exact hret _ _ _ _ _ _ (rv_inv hf).1 (congrArg (WX y o) (rv_inv hf).2) rfl dX9_readHandler_119 hC
              · have hf := it_t c_13 hf
                refine lv_iconst (v := 0) hx hb dX9_readHandler_75 (by decide) ?_
                exact hret _ _ _ _ _ _ (rv_inv hf).1 (congrArg (WX y o) (rv_inv hf).2) rfl dX9_readHandler_76 hC
            · have hf := it_t c_11 hf
              refine lv_iconst (v := 0) hx hb dX9_readHandler_59 (by decide) ?_
              exact hret _ _ _ _ _ _ (rv_inv hf).1 (congrArg (WX y o) (rv_inv hf).2) rfl dX9_readHandler_60 hC
        · have hf := it_t c_7 hf
          refine lv_iconst (v := 0) hx hb dX9_readHandler_38 (by decide) ?_
          exact hret _ _ _ _ _ _ (rv_inv hf).1 (congrArg (WX y o) (rv_inv hf).2) rfl dX9_readHandler_39 hC
    · have hf := it_t c_3 hf
      refine lv_iconst (v := 0) hx hb dX9_readHandler_17 (by decide) ?_
      exact hret _ _ _ _ _ _ (rv_inv hf).1 (congrArg (WX y o) (rv_inv hf).2) rfl dX9_readHandler_18 hC

set_option maxHeartbeats 8000000 in
set_option maxRecDepth 100000 in
theorem r_X11_isBinary {D : va_G} {y : Nat → ClassId} {ad av : Nat → Nat} {w : va_W} {x1 : Int32} {v : Int32} (hf : f_X11_isBinary x1 = some v) (l : Launch) (sz : Nat) : Met l yX11_isBinary (Cond.code yX11_isBinary cX11_isBinary 1 (some .boolean) :: ALW) { frames := 0, cells := 0, slots := 0, locals := 0 } (va_Pc [.int x1] (PZ D y ad av (w) sz)) (QZi D (w) v (w) sz) 0 0 (va_A (w) sz) := by
  refine met_i (by decide) (Nat.le_of_ble_eq_true rfl) ?_
  intro p e R s m args below meth c Q A ls hx hb hml hta hown hRc hRs hRf hRl hN hK hV hA hret hC hl
  have hl : lv_has ls 1 [(0, .int x1)] := hl
  unfold f_X11_isBinary at hf
  refine lv_iload_n hx hb dX11_isBinary_0 rfl (lv_at hl 0 rfl) ?_
  by_cases h_1_0 : x1.toInt = 37 ∨ x1.toInt = 42 ∨ x1.toInt = 43 ∨ x1.toInt = 45 ∨ x1.toInt = 47 ∨ x1.toInt = 60 ∨ x1.toInt = 61
  · have hf := it_t h_1_0 hf
    refine lv_tab (tgt := 116) hx hb dX11_isBinary_1 (Or.inr ⟨115, by omega, by omega, by rcases h_1_0 with h_1_0 | h_1_0 | h_1_0 | h_1_0 | h_1_0 | h_1_0 | h_1_0 <;> (rw [h_1_0]; decide), by decide⟩) ?_
    refine lv_iconst (v := 1) hx hb dX11_isBinary_116 (by decide) ?_
    exact hret _ _ _ _ _ _ (Option.some.inj hf) rfl rfl dX11_isBinary_117 hC
  have hf := it_f h_1_0 hf
  refine lv_tab (tgt := 118) hx hb dX11_isBinary_1 (by rcases (show (x1.toInt < 37 ∨ 61 < x1.toInt ∨ x1.toInt = 38 ∨ x1.toInt = 39 ∨ x1.toInt = 40 ∨ x1.toInt = 41 ∨ x1.toInt = 44 ∨ x1.toInt = 46 ∨ x1.toInt = 48 ∨ x1.toInt = 49 ∨ x1.toInt = 50 ∨ x1.toInt = 51 ∨ x1.toInt = 52 ∨ x1.toInt = 53 ∨ x1.toInt = 54 ∨ x1.toInt = 55 ∨ x1.toInt = 56 ∨ x1.toInt = 57 ∨ x1.toInt = 58 ∨ x1.toInt = 59) by omega) with h | h | h | h | h | h | h | h | h | h | h | h | h | h | h | h | h | h | h | h; exact Or.inl ⟨Or.inl h, by decide⟩; exact Or.inl ⟨Or.inr h, by decide⟩; all_goals exact Or.inr ⟨117, by omega, by omega, by rw [h]; decide, by decide⟩) ?_
  refine lv_iconst (v := 0) hx hb dX11_isBinary_118 (by decide) ?_
  exact hret _ _ _ _ _ _ (Option.some.inj hf) rfl rfl dX11_isBinary_119 hC

set_option maxHeartbeats 8000000 in
set_option maxRecDepth 100000 in
theorem r_X11_isBare {D : va_G} {y : Nat → ClassId} {ad av : Nat → Nat} {w : va_W} {x1 : Int32} {v : Int32} (hf : f_X11_isBare x1 = some v) (l : Launch) (sz : Nat) : Met l yX11_isBare (Cond.code yX11_isBare cX11_isBare 1 (some .boolean) :: ALW) { frames := 1, cells := 0, slots := 0, locals := 20 } (va_Pc [.int x1] (PZ D y ad av (w) sz)) (QZi D (w) v (w) sz) 0 0 (va_A (w) sz) := by
  refine met_i (by decide) (Nat.le_of_ble_eq_true rfl) ?_
  intro p e R s m args below meth c Q A ls hx hb hml hta hown hRc hRs hRf hRl hN hK hV hA hret hC hl
  have hl : lv_has ls 1 [(0, .int x1)] := hl
  unfold f_X11_isBare at hf
  refine lv_iload_n hx hb dX11_isBare_0 rfl (lv_at hl 0 rfl) ?_
  by_cases h_1_0 : x1.toInt = 33 ∨ x1.toInt = 100 ∨ x1.toInt = 105 ∨ x1.toInt = 110 ∨ x1.toInt = 111 ∨ x1.toInt = 112 ∨ x1.toInt = 114 ∨ x1.toInt = 116 ∨ x1.toInt = 119
  · have hf := it_t h_1_0 hf
    refine lv_lookup (off := 83) (tgt := 84) hx hb dX11_isBare_1 (by decide) (by rcases h_1_0 with h_1_0 | h_1_0 | h_1_0 | h_1_0 | h_1_0 | h_1_0 | h_1_0 | h_1_0 | h_1_0 <;> (rw [h_1_0]; decide)) (by decide) ?_
    refine lv_iconst (v := 1) hx hb dX11_isBare_84 (by decide) ?_
    exact hret _ _ _ _ _ _ (Option.some.inj hf) rfl rfl dX11_isBare_85 hC
  have hf := it_f h_1_0 hf
  refine lv_lookup (off := 85) (tgt := 86) hx hb dX11_isBare_1 (by decide) (lk_none (by intro a ha; simp only [List.mem_cons, List.not_mem_nil, or_false] at ha; rcases ha with rfl | rfl | rfl | rfl | rfl | rfl | rfl | rfl | rfl <;> (simp only; omega))) (by decide) ?_
  refine lv_iload_n hx hb dX11_isBare_86 rfl (lv_at hl 0 rfl) ?_
  obtain ⟨v_2, hc_2, hf⟩ := calp_inv hf
  refine cc_Si (r_X11_isBinary (D := D) (y := y) (w := w) (ad := ad) (av := av) hc_2 l) hx hb hml hta hown hK hN hV hA hC hRc hRs (by omega) (by omega) wq_673 wq_67 wq_38 wq_65 hd_X11_isBinary (As := [.int x1]) (rest := []) rfl rfl hl.1 rfl dX11_isBare_87 (fun H locs hC => ?_)
  obtain ⟨hb_3, hf⟩ := bz_inv hf
  exact hret _ _ _ _ _ _ (Option.some.inj hf) rfl (bz_nar hb_3) dX11_isBare_90 hC

set_option maxHeartbeats 8000000 in
set_option maxRecDepth 100000 in
theorem r_X9_readLetter {D : va_G} {y : Nat → ClassId} {o : Nat → Nat} {ad av : Nat → Nat} {σ : Sto} {σ2 : Sto} {v : Int32} (hf : f_X9_readLetter σ = some (v, σ2)) (l : Launch) (sz : Nat) : Met l yX9_readLetter (Cond.code yX9_readLetter cX9_readLetter 1 (some .int) :: ALW) { frames := 2, cells := 0, slots := 0, locals := 40 } (va_Pc [.ref (o 1)] (PZ D y ad av (WX y o σ) sz)) (QZi D (WX y o σ) v (WX y o σ2) sz) 0 0 (va_A (WX y o σ) sz) := by
  refine met_i (by decide) (Nat.le_of_ble_eq_true rfl) ?_
  intro p e R s m args below meth c Q A ls hx hb hml hta hown hRc hRs hRf hRl hN hK hV hA hret hC hl
  have hl : lv_has ls 1 [(0, .ref (o 1))] := hl
  unfold f_X9_readLetter at hf
  refine lv_aload_n hx hb dX9_readLetter_0 rfl (lv_at hl 0 rfl) ?_
  refine lv_dup hx hb dX9_readLetter_1 rfl ?_
  refine gt_X9_19_tape hx hb hta hown hK hC dX9_readLetter_2 ?_
  refine lv_iconst (v := 1) hx hb dX9_readLetter_5 (by decide) ?_
  refine lv_iadd hx hb dX9_readLetter_6 ?_
  obtain ⟨s_1, e_1, hf⟩ := lt_inv hf
  refine pt_X9_19_tape hx hb hta hown hK hC e_1 dX9_readLetter_7 (fun H locs hC => ?_)
  refine lv_aload_n hx hb dX9_readLetter_10 rfl (lv_at hl 0 rfl) ?_
  obtain ⟨s_2, hc_2, hf⟩ := cals_inv hf
  refine cc_Vv (r_X9_skipBlanks (D := D) (y := y) (o := o) (ad := ad) (av := av) hc_2 l) hx hb hml hta hown hK hN hV hA hC hRc hRs (by omega) (by omega) wq_676 (q := 1) (ci := 9) rfl rfl wq_677 wq_678 wq_671 wq_667 hd_X9_skipBlanks (As := []) (rest := []) rfl rfl hl.1 rfl dX9_readLetter_11 (fun H locs hC => ?_)
  refine lv_aload_n hx hb dX9_readLetter_14 rfl (lv_at hl 0 rfl) ?_
  refine gt_X9_19_tape hx hb hta hown hK hC dX9_readLetter_15 ?_
  refine lv_aload_n hx hb dX9_readLetter_18 rfl (lv_at hl 0 rfl) ?_
  refine gt_X9_15_tape hx hb hta hown hK hC dX9_readLetter_19 ?_
  refine lv_icmp_ge (tgt := 43) hx hb dX9_readLetter_22 (by decide) (fun c_3 => ?_) (fun c_3 => ?_)
  · have hf := it_t c_3 hf
    refine lv_iconst (v := (-1)) hx hb dX9_readLetter_43 (by decide) ?_
    exact hret _ _ _ _ _ _ (rv_inv hf).1 (congrArg (WX y o) (rv_inv hf).2) rfl dX9_readLetter_44 hC
  · have hf := it_f c_3 hf
    refine lv_aload_n hx hb dX9_readLetter_25 rfl (lv_at hl 0 rfl) ?_
    obtain ⟨v_4, hc_4, hf⟩ := calp_inv hf
    refine cc_Vi (r_X9_current (D := D) (y := y) (o := o) (ad := ad) (av := av) hc_4 l) hx hb hml hta hown hK hN hV hA hC hRc hRs (by omega) (by omega) wq_668 (q := 1) (ci := 9) rfl rfl wq_669 wq_670 wq_671 wq_665 hd_X9_current (As := []) (rest := []) rfl rfl hl.1 rfl dX9_readLetter_26 (fun H locs hC => ?_)
    refine lv_bipush (v := 97) hx hb dX9_readLetter_29 (by decide) ?_
    refine lv_icmp_lt (tgt := 43) hx hb dX9_readLetter_31 (by decide) (fun c_5 => ?_) (fun c_5 => ?_)
    · have hf := it_t c_5 hf
      refine lv_iconst (v := (-1)) hx hb dX9_readLetter_43 (by decide) ?_
      exact hret _ _ _ _ _ _ (rv_inv hf).1 (congrArg (WX y o) (rv_inv hf).2) rfl dX9_readLetter_44 hC
    · have hf := it_f c_5 hf
      refine lv_aload_n hx hb dX9_readLetter_34 rfl (lv_at hl 0 rfl) ?_
      obtain ⟨v_6, hc_6, hf⟩ := calp_inv hf
      refine cc_Vi (r_X9_current (D := D) (y := y) (o := o) (ad := ad) (av := av) hc_6 l) hx hb hml hta hown hK hN hV hA hC hRc hRs (by omega) (by omega) wq_668 (q := 1) (ci := 9) rfl rfl wq_669 wq_670 wq_671 wq_665 hd_X9_current (As := []) (rest := []) rfl rfl hl.1 rfl dX9_readLetter_35 (fun H locs hC => ?_)
      refine lv_bipush (v := 102) hx hb dX9_readLetter_38 (by decide) ?_
      refine lv_icmp_le (tgt := 45) hx hb dX9_readLetter_40 (by decide) (fun c_7 => ?_) (fun c_7 => ?_)
      · have hf := it_t c_7 hf
        refine lv_aload_n hx hb dX9_readLetter_45 rfl (lv_at hl 0 rfl) ?_
        refine lv_dup hx hb dX9_readLetter_46 rfl ?_
        refine gt_X9_19_tape hx hb hta hown hK hC dX9_readLetter_47 ?_
        refine lv_iconst (v := 1) hx hb dX9_readLetter_50 (by decide) ?_
        refine lv_iadd hx hb dX9_readLetter_51 ?_
        obtain ⟨s_8, e_8, hf⟩ := lt_inv hf
        refine pt_X9_19_tape hx hb hta hown hK hC e_8 dX9_readLetter_52 (fun H locs hC => ?_)
        refine lv_aload_n hx hb dX9_readLetter_55 rfl (lv_at hl 0 rfl) ?_
        refine gt_X9_9_tape hx hb hta hown hK hC dX9_readLetter_56 ?_
        refine lv_aload_n hx hb dX9_readLetter_59 rfl (lv_at hl 0 rfl) ?_
        refine gt_X9_19_tape hx hb hta hown hK hC dX9_readLetter_60 ?_
        refine lv_iconst (v := 1) hx hb dX9_readLetter_63 (by decide) ?_
        refine lv_isub hx hb dX9_readLetter_64 ?_
        obtain ⟨hi_9, hf⟩ := ix_inv hf
        obtain ⟨v_9, e_9, hf⟩ := lt_inv hf
        refine al_X_2 hx hb hK hC hi_9 e_9 dX9_readLetter_65 ?_
        refine lv_bipush (v := 97) hx hb dX9_readLetter_66 (by decide) ?_
        refine lv_isub hx hb dX9_readLetter_68 ?_
        exact hret _ _ _ _ _ _ (rv_inv hf).1 (congrArg (WX y o) (rv_inv hf).2) rfl dX9_readLetter_69 hC
      · have hf := it_f c_7 hf
        refine lv_iconst (v := (-1)) hx hb dX9_readLetter_43 (by decide) ?_
        exact hret _ _ _ _ _ _ (rv_inv hf).1 (congrArg (WX y o) (rv_inv hf).2) rfl dX9_readLetter_44 hC

set_option maxHeartbeats 8000000 in
set_option maxRecDepth 100000 in
theorem r_X9_readInstruction_draft {D : va_G} {y : Nat → ClassId} {o : Nat → Nat} {ad av : Nat → Nat} {σ : Sto} {σ2 : Sto} {v : Int32} (hf : f_X9_readInstruction_draft σ = some (v, σ2)) (l : Launch) (sz : Nat) : Met l yX9_readInstruction (Cond.code yX9_readInstruction cX9_readInstruction 4 (some .boolean) :: ALW) { frames := 3, cells := 0, slots := 0, locals := 83 } (va_Pc [.ref (o 1), .ref (o 10)] (PZ D y ad av (WX y o σ) sz)) (QZi D (WX y o σ) v (WX y o σ2) sz) 0 0 (va_A (WX y o σ) sz) := by
  refine met_i (by decide) (Nat.le_of_ble_eq_true rfl) ?_
  intro p e R s m args below meth c Q A ls hx hb hml hta hown hRc hRs hRf hRl hN hK hV hA hret hC hl
  have hl : lv_has ls 4 [(0, .ref (o 1)), (1, .ref (o 10))] := hl
  unfold f_X9_readInstruction_draft at hf
  refine lv_aload_n hx hb dX9_readInstruction_0 rfl (lv_at hl 0 rfl) ?_
  obtain ⟨v_1, hc_1, hf⟩ := calp_inv hf
  refine cc_Vi (r_X9_current (D := D) (y := y) (o := o) (ad := ad) (av := av) hc_1 l) hx hb hml hta hown hK hN hV hA hC hRc hRs (by omega) (by omega) wq_668 (q := 1) (ci := 9) rfl rfl wq_669 wq_670 wq_671 wq_665 hd_X9_current (As := []) (rest := []) rfl rfl hl.1 rfl dX9_readInstruction_1 (fun H locs hC => ?_)
  refine lv_istore_n (lv' := [(2, .int v_1), (0, .ref (o 1)), (1, .ref (o 10))]) hx hb dX9_readInstruction_4 rfl hl (by decide) rfl (fun ls hl => ?_)
  refine lv_aload_n hx hb dX9_readInstruction_5 rfl (lv_at hl 2 rfl) ?_
  refine gt_X9_22_draft hx hb hta hown hK hC dX9_readInstruction_6 ?_
  refine lv_bipush (v := 40) hx hb dX9_readInstruction_9 (by decide) ?_
  refine lv_icmp_ne (tgt := 16) hx hb dX9_readInstruction_11 (by decide) (fun c_2 => ?_) (fun c_2 => ?_)
  · have hf := it_f c_2 hf
    refine lv_iconst (v := 0) hx hb dX9_readInstruction_16 (by decide) ?_
    refine lv_istore_n (lv' := [(3, .int 0), (2, .int v_1), (0, .ref (o 1)), (1, .ref (o 10))]) hx hb dX9_readInstruction_17 rfl hl (by decide) rfl (fun ls hl => ?_)
    refine lv_iload_n hx hb dX9_readInstruction_18 rfl (lv_at hl 1 rfl) ?_
    obtain ⟨v_3, hc_3, hf⟩ := calp_inv hf
    refine cc_SiN (r_X11_isBare (D := D) (y := y) (w := WX y o σ) (ad := ad) (av := av) hc_3 l) hx hb hml hta hown hK hN hV hA hC hRc hRs (by omega) (by omega) (nw_X9_44 hN) wq_683 wq_38 wq_672 hd_X11_isBare (As := [.int v_1]) (rest := []) rfl rfl hl.1 rfl dX9_readInstruction_19 (fun H locs hC => ?_)
    obtain ⟨k_99, hk_99, hf⟩ := jn_inv2 hf
    have hj_99 : ∀ (x3_4 : Int32) (s_4 : Sto) (H : Heap) (locs : List Loc) (ls : Array Slot), k_99 x3_4 s_4 = some (v, σ2) → CZ D A s H locs (WX y o s_4) → lv_has ls 4 [(1, .ref (o 10)), (2, .int v_1), (3, .int x3_4)] → W p l e R s m args below meth c H locs 0 0 Q (F0 m 99 ls []) := by
      intro x3_4 s_4 H locs ls hf hC hl
      have hf := hk_99 _ _ hf
      refine lv_iload_n hx hb dX9_readInstruction_99 rfl (lv_at hl 2 rfl) ?_
      refine lv_iconst (v := (-1)) hx hb dX9_readInstruction_100 (by decide) ?_
      refine lv_icmp_ne (tgt := 106) hx hb dX9_readInstruction_101 (by decide) (fun c_5 => ?_) (fun c_5 => ?_)
      · have hf := it_f c_5 hf
        refine lv_aload_n hx hb dX9_readInstruction_106 rfl (lv_at hl 0 rfl) ?_
        refine gt_X9_55_draft hx hb hta hown hK hC dX9_readInstruction_107 ?_
        refine lv_aload_n hx hb dX9_readInstruction_110 rfl (lv_at hl 0 rfl) ?_
        refine gt_X9_22_draft hx hb hta hown hK hC dX9_readInstruction_111 ?_
        refine lv_iload_n hx hb dX9_readInstruction_114 rfl (lv_at hl 1 rfl) ?_
        obtain ⟨hi_6, hf⟩ := ix_inv hf
        obtain ⟨s_6, e_6, hf⟩ := lt_inv hf
        refine as_X_11 hx hb hK hC hi_6 e_6 dX9_readInstruction_115 (fun H locs hC => ?_)
        refine lv_aload_n hx hb dX9_readInstruction_116 rfl (lv_at hl 0 rfl) ?_
        refine gt_X9_59_draft hx hb hta hown hK hC dX9_readInstruction_117 ?_
        refine lv_aload_n hx hb dX9_readInstruction_120 rfl (lv_at hl 0 rfl) ?_
        refine gt_X9_22_draft hx hb hta hown hK hC dX9_readInstruction_121 ?_
        refine lv_iload_n hx hb dX9_readInstruction_124 rfl (lv_at hl 2 rfl) ?_
        obtain ⟨hi_7, hf⟩ := ix_inv hf
        obtain ⟨s_7, e_7, hf⟩ := lt_inv hf
        refine as_X_12 hx hb hK hC hi_7 e_7 dX9_readInstruction_125 (fun H locs hC => ?_)
        refine lv_aload_n hx hb dX9_readInstruction_126 rfl (lv_at hl 0 rfl) ?_
        refine lv_dup hx hb dX9_readInstruction_127 rfl ?_
        refine gt_X9_22_draft hx hb hta hown hK hC dX9_readInstruction_128 ?_
        refine lv_iconst (v := 1) hx hb dX9_readInstruction_131 (by decide) ?_
        refine lv_iadd hx hb dX9_readInstruction_132 ?_
        obtain ⟨s_8, e_8, hf⟩ := lt_inv hf
        refine pt_X9_22_draft hx hb hta hown hK hC e_8 dX9_readInstruction_133 (fun H locs hC => ?_)
        refine lv_iconst (v := 1) hx hb dX9_readInstruction_136 (by decide) ?_
        exact hret _ _ _ _ _ _ (rv_inv hf).1 (congrArg (WX y o) (rv_inv hf).2) rfl dX9_readInstruction_137 hC
      · have hf := it_t c_5 hf
        refine lv_iconst (v := 0) hx hb dX9_readInstruction_104 (by decide) ?_
        exact hret _ _ _ _ _ _ (rv_inv hf).1 (congrArg (WX y o) (rv_inv hf).2) rfl dX9_readInstruction_105 hC
    refine lv_if_eq (tgt := 38) hx hb dX9_readInstruction_22 (by decide) (fun c_9 => ?_) (fun c_9 => ?_)
    · have hf := it_t c_9 hf
      refine lv_iload_n hx hb dX9_readInstruction_38 rfl (lv_at hl 1 rfl) ?_
      refine lv_bipush (v := 107) hx hb dX9_readInstruction_39 (by decide) ?_
      refine lv_icmp_ne (tgt := 55) hx hb dX9_readInstruction_41 (by decide) (fun c_10 => ?_) (fun c_10 => ?_)
      · have hf := it_f c_10 hf
        refine lv_iload_n hx hb dX9_readInstruction_55 rfl (lv_at hl 1 rfl) ?_
        refine lv_bipush (v := 103) hx hb dX9_readInstruction_56 (by decide) ?_
        obtain ⟨k_67, hk_67, hf⟩ := jn_inv0 hf
        have hj_67 : ∀  (H : Heap) (locs : List Loc) (ls : Array Slot), k_67 = some (v, σ2) → CZ D A s H locs (WX y o σ) → lv_has ls 4 [(0, .ref (o 1)), (1, .ref (o 10)), (2, .int v_1)] → W p l e R s m args below meth c H locs 0 0 Q (F0 m 67 ls []) := by
          intro H locs ls hf hC hl
          have hf := hk_67 hf
          refine lv_aload_n hx hb dX9_readInstruction_67 rfl (lv_at hl 0 rfl) ?_
          refine lv_bipush (v := 39) hx hb dX9_readInstruction_68 (by decide) ?_
          obtain ⟨v_13, s_13, hc_13, hf⟩ := calv_inv hf
          refine cc_Vi (r_X9_readNumber (D := D) (y := y) (o := o) (ad := ad) (av := av) hc_13 l) hx hb hml hta hown hK hN hV hA hC hRc hRs (by omega) (by omega) wq_684 (q := 1) (ci := 9) rfl rfl wq_685 wq_686 wq_671 wq_674 hd_X9_readNumber (As := [.int 39]) (rest := []) rfl rfl hl.1 rfl dX9_readInstruction_70 (fun H locs hC => ?_)
          refine lv_istore_n (lv' := [(3, .int v_13), (0, .ref (o 1)), (1, .ref (o 10)), (2, .int v_1)]) hx hb dX9_readInstruction_73 rfl hl (by decide) rfl (fun ls hl => ?_)
          refine lv_goto (tgt := 99) hx hb dX9_readInstruction_74 (by decide) ?_
          exact hj_99 _ _ _ _ _ hf hC (lv_sub hl [2, 3, 0] rfl)
        refine lv_icmp_eq (tgt := 67) hx hb dX9_readInstruction_58 (by decide) (fun c_14 => ?_) (fun c_14 => ?_)
        · have hf := it_t c_14 hf
          exact hj_67 _ _ _ hf hC (lv_sub hl [2, 3, 1] rfl)
        · have hf := it_f c_14 hf
          refine lv_iload_n hx hb dX9_readInstruction_61 rfl (lv_at hl 1 rfl) ?_
          refine lv_bipush (v := 122) hx hb dX9_readInstruction_62 (by decide) ?_
          refine lv_icmp_ne (tgt := 77) hx hb dX9_readInstruction_64 (by decide) (fun c_15 => ?_) (fun c_15 => ?_)
          · have hf := it_f c_15 hf
            refine lv_iload_n hx hb dX9_readInstruction_77 rfl (lv_at hl 1 rfl) ?_
            refine lv_bipush (v := 108) hx hb dX9_readInstruction_78 (by decide) ?_
            obtain ⟨k_89, hk_89, hf⟩ := jn_inv0 hf
            have hj_89 : ∀  (H : Heap) (locs : List Loc) (ls : Array Slot), k_89 = some (v, σ2) → CZ D A s H locs (WX y o σ) → lv_has ls 4 [(0, .ref (o 1)), (1, .ref (o 10)), (2, .int v_1)] → W p l e R s m args below meth c H locs 0 0 Q (F0 m 89 ls []) := by
              intro H locs ls hf hC hl
              have hf := hk_89 hf
              refine lv_aload_n hx hb dX9_readInstruction_89 rfl (lv_at hl 0 rfl) ?_
              obtain ⟨v_17, s_17, hc_17, hf⟩ := calv_inv hf
              refine cc_Vi (r_X9_readLetter (D := D) (y := y) (o := o) (ad := ad) (av := av) hc_17 l) hx hb hml hta hown hK hN hV hA hC hRc hRs (by omega) (by omega) wq_687 (q := 1) (ci := 9) rfl rfl wq_688 wq_689 wq_671 wq_679 hd_X9_readLetter (As := []) (rest := []) rfl rfl hl.1 rfl dX9_readInstruction_90 (fun H locs hC => ?_)
              refine lv_istore_n (lv' := [(3, .int v_17), (0, .ref (o 1)), (1, .ref (o 10)), (2, .int v_1)]) hx hb dX9_readInstruction_93 rfl hl (by decide) rfl (fun ls hl => ?_)
              refine lv_goto (tgt := 99) hx hb dX9_readInstruction_94 (by decide) ?_
              exact hj_99 _ _ _ _ _ hf hC (lv_sub hl [2, 3, 0] rfl)
            refine lv_icmp_eq (tgt := 89) hx hb dX9_readInstruction_80 (by decide) (fun c_18 => ?_) (fun c_18 => ?_)
            · have hf := it_t c_18 hf
              exact hj_89 _ _ _ hf hC (lv_sub hl [2, 3, 1] rfl)
            · have hf := it_f c_18 hf
              refine lv_iload_n hx hb dX9_readInstruction_83 rfl (lv_at hl 1 rfl) ?_
              refine lv_bipush (v := 115) hx hb dX9_readInstruction_84 (by decide) ?_
              refine lv_icmp_ne (tgt := 97) hx hb dX9_readInstruction_86 (by decide) (fun c_19 => ?_) (fun c_19 => ?_)
              · have hf := it_f c_19 hf
                refine lv_iconst (v := 0) hx hb dX9_readInstruction_97 (by decide) ?_
                exact hret _ _ _ _ _ _ (rv_inv hf).1 (congrArg (WX y o) (rv_inv hf).2) rfl dX9_readInstruction_98 hC
              · have hf := it_t c_19 hf
                exact hj_89 _ _ _ hf hC (lv_sub hl [2, 3, 1] rfl)
          · have hf := it_t c_15 hf
            exact hj_67 _ _ _ hf hC (lv_sub hl [2, 3, 1] rfl)
      · have hf := it_t c_10 hf
        refine lv_aload_n hx hb dX9_readInstruction_44 rfl (lv_at hl 2 rfl) ?_
        refine lv_sipush (v := 999) hx hb dX9_readInstruction_45 (by decide) ?_
        obtain ⟨v_11, s_11, hc_11, hf⟩ := calv_inv hf
        refine cc_Vi (r_X9_readNumber (D := D) (y := y) (o := o) (ad := ad) (av := av) hc_11 l) hx hb hml hta hown hK hN hV hA hC hRc hRs (by omega) (by omega) wq_684 (q := 1) (ci := 9) rfl rfl wq_685 wq_686 wq_671 wq_674 hd_X9_readNumber (As := [.int 999]) (rest := []) rfl rfl hl.1 rfl dX9_readInstruction_48 (fun H locs hC => ?_)
        refine lv_istore_n (lv' := [(3, .int v_11), (2, .int v_1), (0, .ref (o 1)), (1, .ref (o 10))]) hx hb dX9_readInstruction_51 rfl hl (by decide) rfl (fun ls hl => ?_)
        refine lv_goto (tgt := 99) hx hb dX9_readInstruction_52 (by decide) ?_
        exact hj_99 _ _ _ _ _ hf hC (lv_sub hl [3, 1, 0] rfl)
    · have hf := it_f c_9 hf
      refine lv_aload_n hx hb dX9_readInstruction_25 rfl (lv_at hl 2 rfl) ?_
      refine lv_dup hx hb dX9_readInstruction_26 rfl ?_
      refine gt_X9_19_tape hx hb hta hown hK hC dX9_readInstruction_27 ?_
      refine lv_iconst (v := 1) hx hb dX9_readInstruction_30 (by decide) ?_
      refine lv_iadd hx hb dX9_readInstruction_31 ?_
      obtain ⟨s_20, e_20, hf⟩ := lt_inv hf
      refine pt_X9_19_tape hx hb hta hown hK hC e_20 dX9_readInstruction_32 (fun H locs hC => ?_)
      refine lv_goto (tgt := 99) hx hb dX9_readInstruction_35 (by decide) ?_
      exact hj_99 _ _ _ _ _ hf hC (lv_sub hl [3, 1, 0] rfl)
  · have hf := it_t c_2 hf
    refine lv_iconst (v := 0) hx hb dX9_readInstruction_14 (by decide) ?_
    exact hret _ _ _ _ _ _ (rv_inv hf).1 (congrArg (WX y o) (rv_inv hf).2) rfl dX9_readInstruction_15 hC

set_option maxHeartbeats 8000000 in
set_option maxRecDepth 100000 in
theorem r_X9_read_draft {D : va_G} {y : Nat → ClassId} {o : Nat → Nat} {ad av : Nat → Nat} {σ : Sto} {σ2 : Sto} {v : Int32} (hf : f_X9_read_draft σ = some (v, σ2)) (l : Launch) (sz : Nat) : Met l yX9_read (Cond.code yX9_read cX9_read 3 (some .boolean) :: ALW) { frames := 4, cells := 0, slots := 0, locals := 107 } (va_Pc [.ref (o 1), .ref (o 10)] (PZ D y ad av (WX y o σ) sz)) (QZi D (WX y o σ) v (WX y o σ2) sz) 0 0 (va_A (WX y o σ) sz) := by
  refine met_i (by decide) (Nat.le_of_ble_eq_true rfl) ?_
  intro p e R s m args below meth c Q A ls hx hb hml hta hown hRc hRs hRf hRl hN hK hV hA hret hC hl
  have hl : lv_has ls 3 [(0, .ref (o 1)), (1, .ref (o 10))] := hl
  unfold f_X9_read_draft at hf
  refine lv_aload_n hx hb dX9_read_0 rfl (lv_at hl 0 rfl) ?_
  refine lv_iconst (v := 0) hx hb dX9_read_1 (by decide) ?_
  obtain ⟨s_1, e_1, hf⟩ := lt_inv hf
  refine pt_X9_19_tape hx hb hta hown hK hC e_1 dX9_read_2 (fun H locs hC => ?_)
  refine lv_aload_n hx hb dX9_read_5 rfl (lv_at hl 1 rfl) ?_
  refine lv_iconst (v := 0) hx hb dX9_read_6 (by decide) ?_
  obtain ⟨s_2, e_2, hf⟩ := lt_inv hf
  refine pt_X9_22_draft hx hb hta hown hK hC e_2 dX9_read_7 (fun H locs hC => ?_)
  refine lv_aload_n hx hb dX9_read_10 rfl (lv_at hl 1 rfl) ?_
  refine lv_iconst (v := 0) hx hb dX9_read_11 (by decide) ?_
  obtain ⟨s_3, e_3, hf⟩ := lt_inv hf
  refine pt_X9_27_draft hx hb hta hown hK hC e_3 dX9_read_12 (fun H locs hC => ?_)
  refine lv_aload_n hx hb dX9_read_15 rfl (lv_at hl 0 rfl) ?_
  obtain ⟨s_4, hc_4, hf⟩ := cals_inv hf
  refine cc_Vv (r_X9_skipBlanks (D := D) (y := y) (o := o) (ad := ad) (av := av) hc_4 l) hx hb hml hta hown hK hN hV hA hC hRc hRs (by omega) (by omega) wq_676 (q := 1) (ci := 9) rfl rfl wq_677 wq_678 wq_671 wq_667 hd_X9_skipBlanks (As := []) (rest := []) rfl rfl hl.1 rfl dX9_read_16 (fun H locs hC => ?_)
  refine lv_iconst (v := 0) hx hb dX9_read_19 (by decide) ?_
  refine lv_istore_n (lv' := [(2, .int 0), (0, .ref (o 1)), (1, .ref (o 10))]) hx hb dX9_read_20 rfl hl (by decide) rfl (fun ls hl => ?_)
  refine itr_inv2 (P := fun (x2_5 : Int32) (s_5 : Sto) => ∀ (H : Heap) (locs : List Loc) (ls : Array Slot), CZ D A s H locs (WX y o s_5) → lv_has ls 3 [(0, .ref (o 1)), (1, .ref (o 10)), (2, .int x2_5)] → W p l e R s m args below meth c H locs 0 0 Q (F0 m 21 ls [])) hf ?_ _ _ _ hC (lv_sub hl [1, 2, 0] rfl)
  intro a_21 x2_5 s_5 ha_21 hf H locs ls hC hl
  refine lv_iload_n hx hb dX9_read_21 rfl (lv_at hl 2 rfl) ?_
  refine lv_bipush (v := 40) hx hb dX9_read_22 (by decide) ?_
  obtain ⟨k_67, hk_67, hf⟩ := jn_inv0 hf
  have hj_67 : ∀  (H : Heap) (locs : List Loc) (ls : Array Slot), k_67 = some (v, σ2) → CZ D A s H locs (WX y o s_5) → lv_has ls 3 [(0, .ref (o 1)), (1, .ref (o 10))] → W p l e R s m args below meth c H locs 0 0 Q (F0 m 67 ls []) := by
    intro H locs ls hf hC hl
    have hf := hk_67 hf
    refine lv_aload_n hx hb dX9_read_67 rfl (lv_at hl 1 rfl) ?_
    refine gt_X9_22_draft hx hb hta hown hK hC dX9_read_68 ?_
    refine lv_if_ne (tgt := 76) hx hb dX9_read_71 (by decide) (fun c_7 => ?_) (fun c_7 => ?_)
    · have hf := it_f c_7 hf
      refine lv_iconst (v := 0) hx hb dX9_read_76 (by decide) ?_
      refine lv_istore_n (lv' := [(2, .int 0), (0, .ref (o 1)), (1, .ref (o 10))]) hx hb dX9_read_77 rfl hl (by decide) rfl (fun ls hl => ?_)
      refine itr_inv2 (P := fun (x2_8 : Int32) (s_8 : Sto) => ∀ (H : Heap) (locs : List Loc) (ls : Array Slot), CZ D A s H locs (WX y o s_8) → lv_has ls 3 [(0, .ref (o 1)), (1, .ref (o 10)), (2, .int x2_8)] → W p l e R s m args below meth c H locs 0 0 Q (F0 m 78 ls [])) hf ?_ _ _ _ hC (lv_sub hl [1, 2, 0] rfl)
      intro a_78 x2_8 s_8 ha_78 hf H locs ls hC hl
      refine lv_iload_n hx hb dX9_read_78 rfl (lv_at hl 2 rfl) ?_
      refine lv_iconst (v := 3) hx hb dX9_read_79 (by decide) ?_
      refine lv_icmp_gt (tgt := 114) hx hb dX9_read_80 (by decide) (fun c_9 => ?_) (fun c_9 => ?_)
      · have hf := it_t c_9 hf
        refine lv_iconst (v := 1) hx hb dX9_read_114 (by decide) ?_
        exact hret _ _ _ _ _ _ (rv_inv hf).1 (congrArg (WX y o) (rv_inv hf).2) rfl dX9_read_115 hC
      · have hf := it_f c_9 hf
        refine lv_aload_n hx hb dX9_read_83 rfl (lv_at hl 0 rfl) ?_
        refine gt_X9_19_tape hx hb hta hown hK hC dX9_read_84 ?_
        refine lv_aload_n hx hb dX9_read_87 rfl (lv_at hl 0 rfl) ?_
        refine gt_X9_15_tape hx hb hta hown hK hC dX9_read_88 ?_
        refine lv_icmp_ge (tgt := 114) hx hb dX9_read_91 (by decide) (fun c_10 => ?_) (fun c_10 => ?_)
        · have hf := it_t c_10 hf
          refine lv_iconst (v := 1) hx hb dX9_read_114 (by decide) ?_
          exact hret _ _ _ _ _ _ (rv_inv hf).1 (congrArg (WX y o) (rv_inv hf).2) rfl dX9_read_115 hC
        · have hf := it_f c_10 hf
          refine lv_aload_n hx hb dX9_read_94 rfl (lv_at hl 0 rfl) ?_
          refine lv_aload_n hx hb dX9_read_95 rfl (lv_at hl 1 rfl) ?_
          obtain ⟨v_11, s_11, hc_11, hf⟩ := calv_inv hf
          refine cc_Vi (r_X9_readHandler_draft (D := D) (y := y) (o := o) (ad := ad) (av := av) hc_11 l) hx hb hml hta hown hK hN hV hA hC hRc hRs (by omega) (by omega) wq_703 (q := 1) (ci := 9) rfl rfl wq_704 wq_705 wq_671 wq_699 hd_X9_readHandler (As := [.ref (o 10)]) (rest := []) rfl rfl hl.1 rfl dX9_read_96 (fun H locs hC => ?_)
          refine lv_if_ne (tgt := 104) hx hb dX9_read_99 (by decide) (fun c_12 => ?_) (fun c_12 => ?_)
          · have hf := it_f c_12 hf
            refine lv_aload_n hx hb dX9_read_104 rfl (lv_at hl 0 rfl) ?_
            obtain ⟨s_13, hc_13, hf⟩ := cals_inv hf
            refine cc_Vv (r_X9_skipBlanks (D := D) (y := y) (o := o) (ad := ad) (av := av) hc_13 l) hx hb hml hta hown hK hN hV hA hC hRc hRs (by omega) (by omega) wq_676 (q := 1) (ci := 9) rfl rfl wq_677 wq_678 wq_671 wq_667 hd_X9_skipBlanks (As := []) (rest := []) rfl rfl hl.1 rfl dX9_read_105 (fun H locs hC => ?_)
            obtain ⟨x2_14, e_14, hf⟩ := lt_inv hf
            refine lv_iinc (v := x2_14) (lv' := [(2, .int x2_14), (0, .ref (o 1)), (1, .ref (o 10))]) hx hb dX9_read_108 hl (k := 2) rfl e_14.symm (by decide) rfl (fun ls hl => ?_)
            refine lv_goto (tgt := 78) hx hb dX9_read_111 (by decide) ?_
            exact ha_78 _ _ hf _ _ _ hC (lv_sub hl [1, 2, 0] rfl)
          · have hf := it_t c_12 hf
            refine lv_iconst (v := 0) hx hb dX9_read_102 (by decide) ?_
            exact hret _ _ _ _ _ _ (rv_inv hf).1 (congrArg (WX y o) (rv_inv hf).2) rfl dX9_read_103 hC
    · have hf := it_t c_7 hf
      refine lv_iconst (v := 0) hx hb dX9_read_74 (by decide) ?_
      exact hret _ _ _ _ _ _ (rv_inv hf).1 (congrArg (WX y o) (rv_inv hf).2) rfl dX9_read_75 hC
  refine lv_icmp_gt (tgt := 67) hx hb dX9_read_24 (by decide) (fun c_15 => ?_) (fun c_15 => ?_)
  · have hf := it_t c_15 hf
    exact hj_67 _ _ _ hf hC (lv_sub hl [0, 1] rfl)
  · have hf := it_f c_15 hf
    refine lv_aload_n hx hb dX9_read_27 rfl (lv_at hl 0 rfl) ?_
    refine gt_X9_19_tape hx hb hta hown hK hC dX9_read_28 ?_
    refine lv_aload_n hx hb dX9_read_31 rfl (lv_at hl 0 rfl) ?_
    refine gt_X9_15_tape hx hb hta hown hK hC dX9_read_32 ?_
    refine lv_icmp_ge (tgt := 67) hx hb dX9_read_35 (by decide) (fun c_16 => ?_) (fun c_16 => ?_)
    · have hf := it_t c_16 hf
      exact hj_67 _ _ _ hf hC (lv_sub hl [0, 1] rfl)
    · have hf := it_f c_16 hf
      refine lv_aload_n hx hb dX9_read_38 rfl (lv_at hl 0 rfl) ?_
      obtain ⟨v_17, hc_17, hf⟩ := calp_inv hf
      refine cc_Vi (r_X9_current (D := D) (y := y) (o := o) (ad := ad) (av := av) hc_17 l) hx hb hml hta hown hK hN hV hA hC hRc hRs (by omega) (by omega) wq_668 (q := 1) (ci := 9) rfl rfl wq_669 wq_670 wq_671 wq_665 hd_X9_current (As := []) (rest := []) rfl rfl hl.1 rfl dX9_read_39 (fun H locs hC => ?_)
      refine lv_bipush (v := 104) hx hb dX9_read_42 (by decide) ?_
      refine lv_icmp_eq (tgt := 67) hx hb dX9_read_44 (by decide) (fun c_18 => ?_) (fun c_18 => ?_)
      · have hf := it_t c_18 hf
        exact hj_67 _ _ _ hf hC (lv_sub hl [0, 1] rfl)
      · have hf := it_f c_18 hf
        refine lv_aload_n hx hb dX9_read_47 rfl (lv_at hl 0 rfl) ?_
        refine lv_aload_n hx hb dX9_read_48 rfl (lv_at hl 1 rfl) ?_
        obtain ⟨v_19, s_19, hc_19, hf⟩ := calv_inv hf
        refine cc_Vi (r_X9_readInstruction_draft (D := D) (y := y) (o := o) (ad := ad) (av := av) hc_19 l) hx hb hml hta hown hK hN hV hA hC hRc hRs (by omega) (by omega) wq_700 (q := 1) (ci := 9) rfl rfl wq_701 wq_702 wq_671 wq_690 hd_X9_readInstruction (As := [.ref (o 10)]) (rest := []) rfl rfl hl.1 rfl dX9_read_49 (fun H locs hC => ?_)
        refine lv_if_ne (tgt := 57) hx hb dX9_read_52 (by decide) (fun c_20 => ?_) (fun c_20 => ?_)
        · have hf := it_f c_20 hf
          refine lv_aload_n hx hb dX9_read_57 rfl (lv_at hl 0 rfl) ?_
          obtain ⟨s_21, hc_21, hf⟩ := cals_inv hf
          refine cc_Vv (r_X9_skipBlanks (D := D) (y := y) (o := o) (ad := ad) (av := av) hc_21 l) hx hb hml hta hown hK hN hV hA hC hRc hRs (by omega) (by omega) wq_676 (q := 1) (ci := 9) rfl rfl wq_677 wq_678 wq_671 wq_667 hd_X9_skipBlanks (As := []) (rest := []) rfl rfl hl.1 rfl dX9_read_58 (fun H locs hC => ?_)
          obtain ⟨x2_22, e_22, hf⟩ := lt_inv hf
          refine lv_iinc (v := x2_22) (lv' := [(2, .int x2_22), (0, .ref (o 1)), (1, .ref (o 10))]) hx hb dX9_read_61 hl (k := 2) rfl e_22.symm (by decide) rfl (fun ls hl => ?_)
          refine lv_goto (tgt := 21) hx hb dX9_read_64 (by decide) ?_
          exact ha_21 _ _ hf _ _ _ hC (lv_sub hl [1, 2, 0] rfl)
        · have hf := it_t c_20 hf
          refine lv_iconst (v := 0) hx hb dX9_read_55 (by decide) ?_
          exact hret _ _ _ _ _ _ (rv_inv hf).1 (congrArg (WX y o) (rv_inv hf).2) rfl dX9_read_56 hC

set_option maxHeartbeats 8000000 in
set_option maxRecDepth 100000 in
theorem r_X11_fault {D : va_G} {y : Nat → ClassId} {o : Nat → Nat} {ad av : Nat → Nat} {σ : Sto} {σ2 : Sto} {v : Int32} (hf : f_X11_fault σ = some (v, σ2)) (l : Launch) (sz : Nat) : Met l yX11_fault (Cond.code yX11_fault cX11_fault 1 (some .int) :: ALW) { frames := 5, cells := 0, slots := 0, locals := 129 } (va_Pc [.ref (o 0)] (PZ D y ad av (WX y o σ) sz)) (QZi D (WX y o σ) v (WX y o σ2) sz) 0 0 (va_A (WX y o σ) sz) := by
  refine met_i (by decide) (Nat.le_of_ble_eq_true rfl) ?_
  intro p e R s m args below meth c Q A ls hx hb hml hta hown hRc hRs hRf hRl hN hK hV hA hret hC hl
  have hl : lv_has ls 1 [(0, .ref (o 0))] := hl
  unfold f_X11_fault at hf
  refine lv_aload_n hx hb dX11_fault_0 rfl (lv_at hl 0 rfl) ?_
  refine gt_X11_10_cl hx hb hta hown hK hC dX11_fault_1 ?_
  refine lv_aload_n hx hb dX11_fault_4 rfl (lv_at hl 0 rfl) ?_
  refine gt_X11_23_cl hx hb hta hown hK hC dX11_fault_5 ?_
  obtain ⟨v_1, s_1, hc_1, hf⟩ := calv_inv hf
  refine cc_Vi (r_X9_read_draft (D := D) (y := y) (o := o) (ad := ad) (av := av) hc_1 l) hx hb hml hta hown hK hN hV hA hC hRc hRs (by omega) (by omega) wq_776 (q := 1) (ci := 9) rfl rfl wq_777 wq_778 wq_671 wq_706 hd_X9_read (As := [.ref (o 10)]) (rest := []) rfl rfl hl.1 rfl dX11_fault_8 (fun H locs hC => ?_)
  refine lv_if_eq (tgt := 18) hx hb dX11_fault_11 (by decide) (fun c_2 => ?_) (fun c_2 => ?_)
  · have hf := it_t c_2 hf
    refine lv_aload_n hx hb dX11_fault_18 rfl (lv_at hl 0 rfl) ?_
    refine gt_X11_10_cl hx hb hta hown hK hC dX11_fault_19 ?_
    refine gt_X11_125_tape hx hb hta hown hK hC dX11_fault_22 ?_
    exact hret _ _ _ _ _ _ (rv_inv hf).1 (congrArg (WX y o) (rv_inv hf).2) rfl dX11_fault_25 hC
  · have hf := it_f c_2 hf
    refine lv_iconst (v := (-1)) hx hb dX11_fault_14 (by decide) ?_
    refine lv_goto (tgt := 25) hx hb dX11_fault_15 (by decide) ?_
    exact hret _ _ _ _ _ _ (rv_inv hf).1 (congrArg (WX y o) (rv_inv hf).2) rfl dX11_fault_25 hC

set_option maxHeartbeats 8000000 in
set_option maxRecDepth 100000 in
theorem r_X3_goesElsewhere_draft {D : va_G} {y : Nat → ClassId} {o : Nat → Nat} {ad av : Nat → Nat} {x1 : Int32} {σ : Sto} {v : Int32} (hf : f_X3_goesElsewhere_draft x1 σ = some v) (l : Launch) (sz : Nat) : Met l yX3_goesElsewhere (Cond.code yX3_goesElsewhere cX3_goesElsewhere 2 (some .boolean) :: ALW) { frames := 0, cells := 0, slots := 0, locals := 0 } (va_Pc [.ref (o 10), .int x1] (PZ D y ad av (WX y o σ) sz)) (QZi D (WX y o σ) v (WX y o σ) sz) 0 0 (va_A (WX y o σ) sz) := by
  refine met_i (by decide) (Nat.le_of_ble_eq_true rfl) ?_
  intro p e R s m args below meth c Q A ls hx hb hml hta hown hRc hRs hRf hRl hN hK hV hA hret hC hl
  have hl : lv_has ls 2 [(0, .ref (o 10)), (1, .int x1)] := hl
  unfold f_X3_goesElsewhere_draft at hf
  refine lv_aload_n hx hb dX3_goesElsewhere_0 rfl (lv_at hl 0 rfl) ?_
  refine gt_X3_9_draft hx hb hta hown hK hC dX3_goesElsewhere_1 ?_
  refine lv_iload_n hx hb dX3_goesElsewhere_4 rfl (lv_at hl 1 rfl) ?_
  obtain ⟨hi_1, hf⟩ := ix_inv hf
  obtain ⟨v_1, e_1, hf⟩ := lt_inv hf
  refine al_X_11 hx hb hK hC hi_1 e_1 dX3_goesElsewhere_5 ?_
  refine lv_bipush (v := 103) hx hb dX3_goesElsewhere_6 (by decide) ?_
  obtain ⟨k_22, hk_22, hf⟩ := jn_inv0 hf
  have hj_22 : ∀  (H : Heap) (locs : List Loc) (ls : Array Slot), k_22 = some v → CZ D A s H locs (WX y o σ) → lv_has ls 2 [] → W p l e R s m args below meth c H locs 0 0 Q (F0 m 22 ls []) := by
    intro H locs ls hf hC hl
    have hf := hk_22 hf
    refine lv_iconst (v := 1) hx hb dX3_goesElsewhere_22 (by decide) ?_
    refine lv_goto (tgt := 27) hx hb dX3_goesElsewhere_23 (by decide) ?_
    exact hret _ _ _ _ _ _ (Option.some.inj hf) rfl rfl dX3_goesElsewhere_27 hC
  refine lv_icmp_eq (tgt := 22) hx hb dX3_goesElsewhere_8 (by decide) (fun c_3 => ?_) (fun c_3 => ?_)
  · have hf := it_t c_3 hf
    exact hj_22 _ _ _ hf hC (lv_sub hl [] rfl)
  · have hf := it_f c_3 hf
    refine lv_aload_n hx hb dX3_goesElsewhere_11 rfl (lv_at hl 0 rfl) ?_
    refine gt_X3_9_draft hx hb hta hown hK hC dX3_goesElsewhere_12 ?_
    refine lv_iload_n hx hb dX3_goesElsewhere_15 rfl (lv_at hl 1 rfl) ?_
    obtain ⟨hi_4, hf⟩ := ix_inv hf
    obtain ⟨v_4, e_4, hf⟩ := lt_inv hf
    refine al_X_11 hx hb hK hC hi_4 e_4 dX3_goesElsewhere_16 ?_
    refine lv_bipush (v := 122) hx hb dX3_goesElsewhere_17 (by decide) ?_
    refine lv_icmp_ne (tgt := 26) hx hb dX3_goesElsewhere_19 (by decide) (fun c_5 => ?_) (fun c_5 => ?_)
    · have hf := it_f c_5 hf
      refine lv_iconst (v := 0) hx hb dX3_goesElsewhere_26 (by decide) ?_
      exact hret _ _ _ _ _ _ (Option.some.inj hf) rfl rfl dX3_goesElsewhere_27 hC
    · have hf := it_t c_5 hf
      exact hj_22 _ _ _ hf hC (lv_sub hl [] rfl)

set_option maxHeartbeats 8000000 in
set_option maxRecDepth 100000 in
theorem r_X3_leadsInside_draft {D : va_G} {y : Nat → ClassId} {o : Nat → Nat} {ad av : Nat → Nat} {σ : Sto} {v : Int32} (hf : f_X3_leadsInside_draft σ = some v) (l : Launch) (sz : Nat) : Met l yX3_leadsInside (Cond.code yX3_leadsInside cX3_leadsInside 2 (some .boolean) :: ALW) { frames := 1, cells := 0, slots := 0, locals := 21 } (va_Pc [.ref (o 10)] (PZ D y ad av (WX y o σ) sz)) (QZi D (WX y o σ) v (WX y o σ) sz) 0 0 (va_A (WX y o σ) sz) := by
  refine met_i (by decide) (Nat.le_of_ble_eq_true rfl) ?_
  intro p e R s m args below meth c Q A ls hx hb hml hta hown hRc hRs hRf hRl hN hK hV hA hret hC hl
  have hl : lv_has ls 2 [(0, .ref (o 10))] := hl
  unfold f_X3_leadsInside_draft at hf
  refine lv_iconst (v := 0) hx hb dX3_leadsInside_0 (by decide) ?_
  refine lv_istore_n (lv' := [(1, .int 0), (0, .ref (o 10))]) hx hb dX3_leadsInside_1 rfl hl (by decide) rfl (fun ls hl => ?_)
  refine itr_inv1 (P := fun (x1_1 : Int32) => ∀ (H : Heap) (locs : List Loc) (ls : Array Slot), CZ D A s H locs (WX y o σ) → lv_has ls 2 [(0, .ref (o 10)), (1, .int x1_1)] → W p l e R s m args below meth c H locs 0 0 Q (F0 m 2 ls [])) hf ?_ _ _ _ hC (lv_sub hl [1, 0] rfl)
  intro a_2 x1_1 ha_2 hf H locs ls hC hl
  refine lv_iload_n hx hb dX3_leadsInside_2 rfl (lv_at hl 1 rfl) ?_
  refine lv_aload_n hx hb dX3_leadsInside_3 rfl (lv_at hl 0 rfl) ?_
  refine gt_X3_30_draft hx hb hta hown hK hC dX3_leadsInside_4 ?_
  refine lv_icmp_ge (tgt := 39) hx hb dX3_leadsInside_7 (by decide) (fun c_2 => ?_) (fun c_2 => ?_)
  · have hf := it_t c_2 hf
    refine lv_iconst (v := 0) hx hb dX3_leadsInside_39 (by decide) ?_
    refine lv_istore_n (lv' := [(1, .int 0), (0, .ref (o 10))]) hx hb dX3_leadsInside_40 rfl hl (by decide) rfl (fun ls hl => ?_)
    refine itr_inv1 (P := fun (x1_3 : Int32) => ∀ (H : Heap) (locs : List Loc) (ls : Array Slot), CZ D A s H locs (WX y o σ) → lv_has ls 2 [(0, .ref (o 10)), (1, .int x1_3)] → W p l e R s m args below meth c H locs 0 0 Q (F0 m 41 ls [])) hf ?_ _ _ _ hC (lv_sub hl [1, 0] rfl)
    intro a_41 x1_3 ha_41 hf H locs ls hC hl
    refine lv_iload_n hx hb dX3_leadsInside_41 rfl (lv_at hl 1 rfl) ?_
    refine lv_aload_n hx hb dX3_leadsInside_42 rfl (lv_at hl 0 rfl) ?_
    refine gt_X3_34_draft hx hb hta hown hK hC dX3_leadsInside_43 ?_
    refine lv_icmp_ge (tgt := 98) hx hb dX3_leadsInside_46 (by decide) (fun c_4 => ?_) (fun c_4 => ?_)
    · have hf := it_t c_4 hf
      refine lv_iconst (v := 1) hx hb dX3_leadsInside_98 (by decide) ?_
      exact hret _ _ _ _ _ _ (Option.some.inj hf) rfl rfl dX3_leadsInside_99 hC
    · have hf := it_f c_4 hf
      refine lv_aload_n hx hb dX3_leadsInside_49 rfl (lv_at hl 0 rfl) ?_
      refine gt_X3_21_draft hx hb hta hown hK hC dX3_leadsInside_50 ?_
      refine lv_iload_n hx hb dX3_leadsInside_53 rfl (lv_at hl 1 rfl) ?_
      obtain ⟨hi_5, hf⟩ := ix_inv hf
      obtain ⟨v_5, e_5, hf⟩ := lt_inv hf
      refine al_X_14 hx hb hK hC hi_5 e_5 dX3_leadsInside_54 ?_
      refine lv_aload_n hx hb dX3_leadsInside_55 rfl (lv_at hl 0 rfl) ?_
      refine gt_X3_24_draft hx hb hta hown hK hC dX3_leadsInside_56 ?_
      refine lv_iload_n hx hb dX3_leadsInside_59 rfl (lv_at hl 1 rfl) ?_
      obtain ⟨hi_6, hf⟩ := ix_inv hf
      obtain ⟨v_6, e_6, hf⟩ := lt_inv hf
      refine al_X_15 hx hb hK hC hi_6 e_6 dX3_leadsInside_60 ?_
      refine lv_icmp_ge (tgt := 90) hx hb dX3_leadsInside_61 (by decide) (fun c_7 => ?_) (fun c_7 => ?_)
      · have hf := it_t c_7 hf
        refine lv_iconst (v := 0) hx hb dX3_leadsInside_90 (by decide) ?_
        exact hret _ _ _ _ _ _ (Option.some.inj hf) rfl rfl dX3_leadsInside_91 hC
      · have hf := it_f c_7 hf
        refine lv_aload_n hx hb dX3_leadsInside_64 rfl (lv_at hl 0 rfl) ?_
        refine gt_X3_24_draft hx hb hta hown hK hC dX3_leadsInside_65 ?_
        refine lv_iload_n hx hb dX3_leadsInside_68 rfl (lv_at hl 1 rfl) ?_
        obtain ⟨hi_8, hf⟩ := ix_inv hf
        obtain ⟨v_8, e_8, hf⟩ := lt_inv hf
        refine al_X_15 hx hb hK hC hi_8 e_8 dX3_leadsInside_69 ?_
        refine lv_aload_n hx hb dX3_leadsInside_70 rfl (lv_at hl 0 rfl) ?_
        refine gt_X3_30_draft hx hb hta hown hK hC dX3_leadsInside_71 ?_
        refine lv_icmp_gt (tgt := 90) hx hb dX3_leadsInside_74 (by decide) (fun c_9 => ?_) (fun c_9 => ?_)
        · have hf := it_t c_9 hf
          refine lv_iconst (v := 0) hx hb dX3_leadsInside_90 (by decide) ?_
          exact hret _ _ _ _ _ _ (Option.some.inj hf) rfl rfl dX3_leadsInside_91 hC
        · have hf := it_f c_9 hf
          refine lv_aload_n hx hb dX3_leadsInside_77 rfl (lv_at hl 0 rfl) ?_
          refine gt_X3_27_draft hx hb hta hown hK hC dX3_leadsInside_78 ?_
          refine lv_iload_n hx hb dX3_leadsInside_81 rfl (lv_at hl 1 rfl) ?_
          obtain ⟨hi_10, hf⟩ := ix_inv hf
          obtain ⟨v_10, e_10, hf⟩ := lt_inv hf
          refine al_X_16 hx hb hK hC hi_10 e_10 dX3_leadsInside_82 ?_
          refine lv_aload_n hx hb dX3_leadsInside_83 rfl (lv_at hl 0 rfl) ?_
          refine gt_X3_30_draft hx hb hta hown hK hC dX3_leadsInside_84 ?_
          refine lv_icmp_lt (tgt := 92) hx hb dX3_leadsInside_87 (by decide) (fun c_11 => ?_) (fun c_11 => ?_)
          · have hf := it_t c_11 hf
            obtain ⟨x1_12, e_12, hf⟩ := lt_inv hf
            refine lv_iinc (v := x1_12) (lv' := [(1, .int x1_12), (0, .ref (o 10))]) hx hb dX3_leadsInside_92 hl (k := 1) rfl e_12.symm (by decide) rfl (fun ls hl => ?_)
            refine lv_goto (tgt := 41) hx hb dX3_leadsInside_95 (by decide) ?_
            exact ha_41 _ hf _ _ _ hC (lv_sub hl [1, 0] rfl)
          · have hf := it_f c_11 hf
            refine lv_iconst (v := 0) hx hb dX3_leadsInside_90 (by decide) ?_
            exact hret _ _ _ _ _ _ (Option.some.inj hf) rfl rfl dX3_leadsInside_91 hC
  · have hf := it_f c_2 hf
    refine lv_aload_n hx hb dX3_leadsInside_10 rfl (lv_at hl 0 rfl) ?_
    refine lv_iload_n hx hb dX3_leadsInside_11 rfl (lv_at hl 1 rfl) ?_
    obtain ⟨v_13, hc_13, hf⟩ := calp_inv hf
    refine cc_Vi (r_X3_goesElsewhere_draft (D := D) (y := y) (o := o) (ad := ad) (av := av) hc_13 l) hx hb hml hta hown hK hN hV hA hC hRc hRs (by omega) (by omega) wq_315 (q := 10) (ci := 3) rfl rfl wq_25 wq_26 wq_27 wq_13 hd_X3_goesElsewhere (As := [.int x1_1]) (rest := []) rfl rfl hl.1 rfl dX3_leadsInside_12 (fun H locs hC => ?_)
    obtain ⟨k_33, hk_33, hf⟩ := jn_inv0 hf
    have hj_33 : ∀  (H : Heap) (locs : List Loc) (ls : Array Slot), k_33 = some v → CZ D A s H locs (WX y o σ) → lv_has ls 2 [(0, .ref (o 10)), (1, .int x1_1)] → W p l e R s m args below meth c H locs 0 0 Q (F0 m 33 ls []) := by
      intro H locs ls hf hC hl
      have hf := hk_33 hf
      obtain ⟨x1_15, e_15, hf⟩ := lt_inv hf
      refine lv_iinc (v := x1_15) (lv' := [(1, .int x1_15), (0, .ref (o 10))]) hx hb dX3_leadsInside_33 hl (k := 1) rfl e_15.symm (by decide) rfl (fun ls hl => ?_)
      refine lv_goto (tgt := 2) hx hb dX3_leadsInside_36 (by decide) ?_
      exact ha_2 _ hf _ _ _ hC (lv_sub hl [1, 0] rfl)
    refine lv_if_eq (tgt := 33) hx hb dX3_leadsInside_15 (by decide) (fun c_16 => ?_) (fun c_16 => ?_)
    · have hf := it_t c_16 hf
      exact hj_33 _ _ _ hf hC hl
    · have hf := it_f c_16 hf
      refine lv_aload_n hx hb dX3_leadsInside_18 rfl (lv_at hl 0 rfl) ?_
      refine gt_X3_15_draft hx hb hta hown hK hC dX3_leadsInside_19 ?_
      refine lv_iload_n hx hb dX3_leadsInside_22 rfl (lv_at hl 1 rfl) ?_
      obtain ⟨hi_17, hf⟩ := ix_inv hf
      obtain ⟨v_17, e_17, hf⟩ := lt_inv hf
      refine al_X_12 hx hb hK hC hi_17 e_17 dX3_leadsInside_23 ?_
      refine lv_aload_n hx hb dX3_leadsInside_24 rfl (lv_at hl 0 rfl) ?_
      refine gt_X3_30_draft hx hb hta hown hK hC dX3_leadsInside_25 ?_
      refine lv_icmp_lt (tgt := 33) hx hb dX3_leadsInside_28 (by decide) (fun c_18 => ?_) (fun c_18 => ?_)
      · have hf := it_t c_18 hf
        exact hj_33 _ _ _ hf hC hl
      · have hf := it_f c_18 hf
        refine lv_iconst (v := 0) hx hb dX3_leadsInside_31 (by decide) ?_
        exact hret _ _ _ _ _ _ (Option.some.inj hf) rfl rfl dX3_leadsInside_32 hC
