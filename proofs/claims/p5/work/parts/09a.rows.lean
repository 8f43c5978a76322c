set_option maxHeartbeats 8000000 in
set_option maxRecDepth 100000 in
theorem r_X12_bytesOf {D : va_G} {y : Nat → ClassId} {ad av : Nat → Nat} {w : va_W} {x1 : Int32} {v : Int32} (hf : f_X12_bytesOf x1 = some v) (l : Launch) (sz : Nat) : Met l yX12_bytesOf (Cond.code yX12_bytesOf cX12_bytesOf 3 (some .int) :: ALW) { frames := 0, cells := 0, slots := 0, locals := 0 } (va_Pc [.int x1] (PZ D y ad av (w) sz)) (QZi D (w) v (w) sz) 0 0 (va_A (w) sz) := by
  refine met_i (by decide) (Nat.le_of_ble_eq_true rfl) ?_
  intro p e R s m args below meth c Q A ls hx hb hml hta hown hRc hRs hRf hRl hN hK hV hA hret hC hl
  have hl : lv_has ls 3 [(0, .int x1)] := hl
  unfold f_X12_bytesOf at hf
  refine lv_iconst (v := 0) hx hb dX12_bytesOf_0 (by decide) ?_
  refine lv_istore_n (lv' := [(1, .int 0), (0, .int x1)]) hx hb dX12_bytesOf_1 rfl hl (by decide) rfl (fun ls hl => ?_)
  refine lv_iconst (v := 0) hx hb dX12_bytesOf_2 (by decide) ?_
  refine lv_istore_n (lv' := [(2, .int 0), (1, .int 0), (0, .int x1)]) hx hb dX12_bytesOf_3 rfl hl (by decide) rfl (fun ls hl => ?_)
  refine itr_inv2 (P := fun (x1_1 : Int32) (x2_1 : Int32) => ∀ (H : Heap) (locs : List Loc) (ls : Array Slot), CZ D A s H locs w → lv_has ls 3 [(0, .int x1), (1, .int x1_1), (2, .int x2_1)] → W p l e R s m args below meth c H locs 0 0 Q (F0 m 4 ls [])) hf ?_ _ _ _ hC (lv_sub hl [2, 1, 0] rfl)
  intro a_4 x1_1 x2_1 ha_4 hf H locs ls hC hl
  refine lv_iload_n hx hb dX12_bytesOf_4 rfl (lv_at hl 2 rfl) ?_
  refine lv_iconst (v := 4) hx hb dX12_bytesOf_5 (by decide) ?_
  refine lv_icmp_ge (tgt := 36) hx hb dX12_bytesOf_6 (by decide) (fun c_2 => ?_) (fun c_2 => ?_)
  · have hf := it_t c_2 hf
    refine lv_iload_n hx hb dX12_bytesOf_36 rfl (lv_at hl 1 rfl) ?_
    exact hret _ _ _ _ _ _ (Option.some.inj hf) rfl rfl dX12_bytesOf_37 hC
  · have hf := it_f c_2 hf
    refine lv_iload_n hx hb dX12_bytesOf_9 rfl (lv_at hl 1 rfl) ?_
    refine lv_iload_n hx hb dX12_bytesOf_10 rfl (lv_at hl 0 rfl) ?_
    refine lv_bipush (v := 8) hx hb dX12_bytesOf_11 (by decide) ?_
    refine lv_iload_n hx hb dX12_bytesOf_13 rfl (lv_at hl 2 rfl) ?_
    refine lv_imul hx hb dX12_bytesOf_14 ?_
    refine lv_ishr hx hb dX12_bytesOf_15 ?_
    refine lv_sipush (v := 255) hx hb dX12_bytesOf_16 (by decide) ?_
    refine lv_iand hx hb dX12_bytesOf_19 ?_
    obtain ⟨k_28, hk_28, hf⟩ := jn_inv1 hf
    have hj_28 : ∀ (t0_3 : Int32) (H : Heap) (locs : List Loc) (ls : Array Slot), k_28 t0_3 = some v → CZ D A s H locs w → lv_has ls 3 [(0, .int x1), (2, .int x2_1)] → W p l e R s m args below meth c H locs 0 0 Q (F0 m 28 ls [.int t0_3, .int x1_1]) := by
      intro t0_3 H locs ls hf hC hl
      have hf := hk_28 _ hf
      refine lv_iadd hx hb dX12_bytesOf_28 ?_
      obtain ⟨x1_4, e_4, hf⟩ := lt_inv hf
      refine nmi e_4 ?_
      refine lv_istore_n (lv' := [(1, .int x1_4), (0, .int x1), (2, .int x2_1)]) hx hb dX12_bytesOf_29 rfl hl (by decide) rfl (fun ls hl => ?_)
      obtain ⟨x2_5, e_5, hf⟩ := lt_inv hf
      refine lv_iinc (v := x2_5) (lv' := [(2, .int x2_5), (1, .int x1_4), (0, .int x1)]) hx hb dX12_bytesOf_30 hl (k := 2) rfl e_5.symm (by decide) rfl (fun ls hl => ?_)
      refine lv_goto (tgt := 4) hx hb dX12_bytesOf_33 (by decide) ?_
      exact ha_4 _ _ hf _ _ _ hC (lv_sub hl [2, 1, 0] rfl)
    refine lv_if_ne (tgt := 27) hx hb dX12_bytesOf_20 (by decide) (fun c_6 => ?_) (fun c_6 => ?_)
    · have hf := it_f c_6 hf
      refine lv_iconst (v := 1) hx hb dX12_bytesOf_27 (by decide) ?_
      exact hj_28 _ _ _ _ hf hC (lv_sub hl [0, 2] rfl)
    · have hf := it_t c_6 hf
      refine lv_iconst (v := 0) hx hb dX12_bytesOf_23 (by decide) ?_
      refine lv_goto (tgt := 28) hx hb dX12_bytesOf_24 (by decide) ?_
      exact hj_28 _ _ _ _ hf hC (lv_sub hl [0, 2] rfl)

set_option maxHeartbeats 8000000 in
set_option maxRecDepth 100000 in
theorem r_X12_brings {D : va_G} {y : Nat → ClassId} {o : Nat → Nat} {ad av : Nat → Nat} {x1 : Int32} {σ : Sto} {σ2 : Sto} (hf : f_X12_brings x1 σ = some σ2) (l : Launch) (sz : Nat) : Met l yX12_brings (Cond.code yX12_brings cX12_brings 4 none :: ALW) { frames := 0, cells := 0, slots := 0, locals := 0 } (va_Pc [.ref (o 0), .int x1] (PZ D y ad av (WM y o σ) sz)) (QZv D (WM y o σ) (WM y o σ2) sz) 0 0 (va_A (WM y o σ) sz) := by
  refine met_v (by decide) (Nat.le_of_ble_eq_true rfl) ?_
  intro p e R s m args below meth c Q A ls hx hb hml hta hown hRc hRs hRf hRl hN hK hV hA hret hC hl
  have hl : lv_has ls 4 [(0, .ref (o 0)), (1, .int x1)] := hl
  unfold f_X12_brings at hf
  refine lv_bipush (v := 24) hx hb dX12_brings_0 (by decide) ?_
  refine lv_istore_n (lv' := [(2, .int 24), (0, .ref (o 0)), (1, .int x1)]) hx hb dX12_brings_2 rfl hl (by decide) rfl (fun ls hl => ?_)
  refine itr_inv2 (P := fun (x2_1 : Int32) (s_1 : Sto) => ∀ (H : Heap) (locs : List Loc) (ls : Array Slot), CZ D A s H locs (WM y o s_1) → lv_has ls 4 [(0, .ref (o 0)), (1, .int x1), (2, .int x2_1)] → W p l e R s m args below meth c H locs 0 0 Q (F0 m 3 ls [])) hf ?_ _ _ _ hC (lv_sub hl [1, 2, 0] rfl)
  intro a_3 x2_1 s_1 ha_3 hf H locs ls hC hl
  refine lv_iload_n hx hb dX12_brings_3 rfl (lv_at hl 2 rfl) ?_
  refine lv_if_lt (tgt := 49) hx hb dX12_brings_4 (by decide) (fun c_2 => ?_) (fun c_2 => ?_)
  · have hf := it_t c_2 hf
    exact hret _ _ _ _ _ (congrArg (WM y o) (Option.some.inj hf)) dX12_brings_49 hC
  · have hf := it_f c_2 hf
    refine lv_iload_n hx hb dX12_brings_7 rfl (lv_at hl 1 rfl) ?_
    refine lv_iload_n hx hb dX12_brings_8 rfl (lv_at hl 2 rfl) ?_
    refine lv_ishr hx hb dX12_brings_9 ?_
    refine lv_sipush (v := 255) hx hb dX12_brings_10 (by decide) ?_
    refine lv_iand hx hb dX12_brings_13 ?_
    obtain ⟨x3_3, e_3, hf⟩ := lt_inv hf
    refine nmi e_3 ?_
    refine lv_istore_n (lv' := [(3, .int x3_3), (0, .ref (o 0)), (1, .int x1), (2, .int x2_1)]) hx hb dX12_brings_14 rfl hl (by decide) rfl (fun ls hl => ?_)
    refine lv_iload_n hx hb dX12_brings_15 rfl (lv_at hl 0 rfl) ?_
    obtain ⟨k_43, hk_43, hf⟩ := jn_inv1 hf
    have hj_43 : ∀ (s_4 : Sto) (H : Heap) (locs : List Loc) (ls : Array Slot), k_43 s_4 = some σ2 → CZ D A s H locs (WM y o s_4) → lv_has ls 4 [(0, .ref (o 0)), (1, .int x1), (2, .int x2_1)] → W p l e R s m args below meth c H locs 0 0 Q (F0 m 43 ls []) := by
      intro s_4 H locs ls hf hC hl
      have hf := hk_43 _ hf
      obtain ⟨x2_5, e_5, hf⟩ := lt_inv hf
      refine lv_iinc (v := x2_5) (lv' := [(2, .int x2_5), (0, .ref (o 0)), (1, .int x1)]) hx hb dX12_brings_43 hl (k := 2) rfl e_5.symm (by decide) rfl (fun ls hl => ?_)
      refine lv_goto (tgt := 3) hx hb dX12_brings_46 (by decide) ?_
      exact ha_3 _ _ hf _ _ _ hC (lv_sub hl [1, 2, 0] rfl)
    refine lv_if_ne (tgt := 22) hx hb dX12_brings_16 (by decide) (fun c_6 => ?_) (fun c_6 => ?_)
    · have hf := it_f c_6 hf
      refine lv_aload_n hx hb dX12_brings_22 rfl (lv_at hl 1 rfl) ?_
      refine gt_X12_9_m hx hb hta hown hK hC dX12_brings_23 ?_
      refine lv_aload_n hx hb dX12_brings_26 rfl (lv_at hl 1 rfl) ?_
      refine gt_X12_177_m hx hb hta hown hK hC dX12_brings_27 ?_
      refine lv_iload_n hx hb dX12_brings_30 rfl (lv_at hl 0 rfl) ?_
      refine lv_i2b hx hb dX12_brings_31 rfl ?_
      obtain ⟨hi_7, hf⟩ := ix_inv hf
      obtain ⟨s_7, e_7, hf⟩ := lt_inv hf
      refine as_M_1 hx hb hK hC hi_7 e_7 dX12_brings_32 (fun H locs hC => ?_)
      refine lv_aload_n hx hb dX12_brings_33 rfl (lv_at hl 1 rfl) ?_
      refine lv_dup hx hb dX12_brings_34 rfl ?_
      refine gt_X12_177_m hx hb hta hown hK hC dX12_brings_35 ?_
      refine lv_iconst (v := 1) hx hb dX12_brings_38 (by decide) ?_
      refine lv_iadd hx hb dX12_brings_39 ?_
      obtain ⟨s_8, e_8, hf⟩ := lt_inv hf
      refine pt_X12_177_m hx hb hta hown hK hC e_8 dX12_brings_40 (fun H locs hC => ?_)
      exact hj_43 _ _ _ _ hf hC (lv_sub hl [1, 2, 3] rfl)
    · have hf := it_t c_6 hf
      refine lv_goto (tgt := 43) hx hb dX12_brings_19 (by decide) ?_
      exact hj_43 _ _ _ _ hf hC (lv_sub hl [1, 2, 3] rfl)

set_option maxHeartbeats 8000000 in
set_option maxRecDepth 100000 in
theorem r_X12_feed {D : va_G} {y : Nat → ClassId} {o : Nat → Nat} {ad av : Nat → Nat} {x1 : Int32} {x2 : Int32} {x3 : Int32} {x4 : Int32} {x5 : Int32} {σ : Sto} {σ2 : Sto} {v : Int32} (hf : f_X12_feed x1 x2 x3 x4 x5 σ = some (v, σ2)) (l : Launch) (sz : Nat) : Met l yX12_feed (Cond.code yX12_feed cX12_feed 6 (some .int) :: ALW) { frames := 1, cells := 0, slots := 0, locals := 23 } (va_Pc [.ref (o 0), .int x1, .int x2, .int x3, .int x4, .int x5] (PZ D y ad av (WM y o σ) sz)) (QZi D (WM y o σ) v (WM y o σ2) sz) 0 0 (va_A (WM y o σ) sz) := by
  refine met_i (by decide) (Nat.le_of_ble_eq_true rfl) ?_
  intro p e R s m args below meth c Q A ls hx hb hml hta hown hRc hRs hRf hRl hN hK hV hA hret hC hl
  have hl : lv_has ls 6 [(0, .ref (o 0)), (1, .int x1), (2, .int x2), (3, .int x3), (4, .int x4), (5, .int x5)] := hl
  unfold f_X12_feed at hf
  refine lv_aload_n hx hb dX12_feed_0 rfl (lv_at hl 0 rfl) ?_
  refine lv_iconst (v := 0) hx hb dX12_feed_1 (by decide) ?_
  obtain ⟨s_1, e_1, hf⟩ := lt_inv hf
  refine pt_X12_169_m hx hb hta hown hK hC e_1 dX12_feed_2 (fun H locs hC => ?_)
  refine lv_aload_n hx hb dX12_feed_5 rfl (lv_at hl 0 rfl) ?_
  refine gt_X12_177_m hx hb hta hown hK hC dX12_feed_6 ?_
  refine lv_iload_n hx hb dX12_feed_9 rfl (lv_at hl 1 rfl) ?_
  obtain ⟨v_2, hc_2, hf⟩ := calp_inv hf
  refine cc_Si (r_X12_bytesOf (D := D) (y := y) (w := WM y o s_1) (ad := ad) (av := av) hc_2 l) hx hb hml hta hown hK hN hV hA hC hRc hRs (by omega) (by omega) wq_1018 wq_1019 wq_1012 wq_1013 hd_X12_bytesOf (As := [.int x1]) (rest := [.int (s_1.1 2 0)]) rfl rfl hl.1 rfl dX12_feed_10 (fun H locs hC => ?_)
  refine lv_iadd hx hb dX12_feed_13 ?_
  refine lv_iload_n hx hb dX12_feed_14 rfl (lv_at hl 2 rfl) ?_
  obtain ⟨v_3, hc_3, hf⟩ := calp_inv hf
  refine cc_Si (r_X12_bytesOf (D := D) (y := y) (w := WM y o s_1) (ad := ad) (av := av) hc_3 l) hx hb hml hta hown hK hN hV hA hC hRc hRs (by omega) (by omega) wq_1018 wq_1019 wq_1012 wq_1013 hd_X12_bytesOf (As := [.int x2]) (rest := [.int ((s_1.1 2 0) + v_2)]) rfl rfl hl.1 rfl dX12_feed_15 (fun H locs hC => ?_)
  refine lv_iadd hx hb dX12_feed_18 ?_
  refine lv_iload_n hx hb dX12_feed_19 rfl (lv_at hl 3 rfl) ?_
  obtain ⟨v_4, hc_4, hf⟩ := calp_inv hf
  refine cc_Si (r_X12_bytesOf (D := D) (y := y) (w := WM y o s_1) (ad := ad) (av := av) hc_4 l) hx hb hml hta hown hK hN hV hA hC hRc hRs (by omega) (by omega) wq_1018 wq_1019 wq_1012 wq_1013 hd_X12_bytesOf (As := [.int x3]) (rest := [.int (((s_1.1 2 0) + v_2) + v_3)]) rfl rfl hl.1 rfl dX12_feed_20 (fun H locs hC => ?_)
  refine lv_iadd hx hb dX12_feed_23 ?_
  refine lv_iload hx hb dX12_feed_24 (lv_at hl 4 rfl) ?_
  obtain ⟨v_5, hc_5, hf⟩ := calp_inv hf
  refine cc_Si (r_X12_bytesOf (D := D) (y := y) (w := WM y o s_1) (ad := ad) (av := av) hc_5 l) hx hb hml hta hown hK hN hV hA hC hRc hRs (by omega) (by omega) wq_1018 wq_1019 wq_1012 wq_1013 hd_X12_bytesOf (As := [.int x4]) (rest := [.int ((((s_1.1 2 0) + v_2) + v_3) + v_4)]) rfl rfl hl.1 rfl dX12_feed_26 (fun H locs hC => ?_)
  refine lv_iadd hx hb dX12_feed_29 ?_
  refine lv_iload hx hb dX12_feed_30 (lv_at hl 5 rfl) ?_
  obtain ⟨v_6, hc_6, hf⟩ := calp_inv hf
  refine cc_Si (r_X12_bytesOf (D := D) (y := y) (w := WM y o s_1) (ad := ad) (av := av) hc_6 l) hx hb hml hta hown hK hN hV hA hC hRc hRs (by omega) (by omega) wq_1018 wq_1019 wq_1012 wq_1013 hd_X12_bytesOf (As := [.int x5]) (rest := [.int (((((s_1.1 2 0) + v_2) + v_3) + v_4) + v_5)]) rfl rfl hl.1 rfl dX12_feed_32 (fun H locs hC => ?_)
  refine lv_iadd hx hb dX12_feed_35 ?_
  refine lv_sipush (v := 240) hx hb dX12_feed_36 (by decide) ?_
  refine lv_icmp_le (tgt := 44) hx hb dX12_feed_39 (by decide) (fun c_7 => ?_) (fun c_7 => ?_)
  · have hf := it_t c_7 hf
    refine lv_aload_n hx hb dX12_feed_44 rfl (lv_at hl 0 rfl) ?_
    refine lv_iload_n hx hb dX12_feed_45 rfl (lv_at hl 1 rfl) ?_
    obtain ⟨s_8, hc_8, hf⟩ := cals_inv hf
    refine cc_Vv (r_X12_brings (D := D) (y := y) (o := o) (ad := ad) (av := av) hc_8 l) hx hb hml hta hown hK hN hV hA hC hRc hRs (by omega) (by omega) wq_1020 (q := 0) (ci := 12) rfl rfl wq_1021 wq_1022 wq_1012 wq_1014 hd_X12_brings (As := [.int x1]) (rest := []) rfl rfl hl.1 rfl dX12_feed_46 (fun H locs hC => ?_)
    refine lv_aload_n hx hb dX12_feed_49 rfl (lv_at hl 0 rfl) ?_
    refine lv_iload_n hx hb dX12_feed_50 rfl (lv_at hl 2 rfl) ?_
    obtain ⟨s_9, hc_9, hf⟩ := cals_inv hf
    refine cc_Vv (r_X12_brings (D := D) (y := y) (o := o) (ad := ad) (av := av) hc_9 l) hx hb hml hta hown hK hN hV hA hC hRc hRs (by omega) (by omega) wq_1020 (q := 0) (ci := 12) rfl rfl wq_1021 wq_1022 wq_1012 wq_1014 hd_X12_brings (As := [.int x2]) (rest := []) rfl rfl hl.1 rfl dX12_feed_51 (fun H locs hC => ?_)
    refine lv_aload_n hx hb dX12_feed_54 rfl (lv_at hl 0 rfl) ?_
    refine lv_iload_n hx hb dX12_feed_55 rfl (lv_at hl 3 rfl) ?_
    obtain ⟨s_10, hc_10, hf⟩ := cals_inv hf
    refine cc_Vv (r_X12_brings (D := D) (y := y) (o := o) (ad := ad) (av := av) hc_10 l) hx hb hml hta hown hK hN hV hA hC hRc hRs (by omega) (by omega) wq_1020 (q := 0) (ci := 12) rfl rfl wq_1021 wq_1022 wq_1012 wq_1014 hd_X12_brings (As := [.int x3]) (rest := []) rfl rfl hl.1 rfl dX12_feed_56 (fun H locs hC => ?_)
    refine lv_aload_n hx hb dX12_feed_59 rfl (lv_at hl 0 rfl) ?_
    refine lv_iload hx hb dX12_feed_60 (lv_at hl 4 rfl) ?_
    obtain ⟨s_11, hc_11, hf⟩ := cals_inv hf
    refine cc_Vv (r_X12_brings (D := D) (y := y) (o := o) (ad := ad) (av := av) hc_11 l) hx hb hml hta hown hK hN hV hA hC hRc hRs (by omega) (by omega) wq_1020 (q := 0) (ci := 12) rfl rfl wq_1021 wq_1022 wq_1012 wq_1014 hd_X12_brings (As := [.int x4]) (rest := []) rfl rfl hl.1 rfl dX12_feed_62 (fun H locs hC => ?_)
    refine lv_aload_n hx hb dX12_feed_65 rfl (lv_at hl 0 rfl) ?_
    refine lv_iload hx hb dX12_feed_66 (lv_at hl 5 rfl) ?_
    obtain ⟨s_12, hc_12, hf⟩ := cals_inv hf
    refine cc_Vv (r_X12_brings (D := D) (y := y) (o := o) (ad := ad) (av := av) hc_12 l) hx hb hml hta hown hK hN hV hA hC hRc hRs (by omega) (by omega) wq_1020 (q := 0) (ci := 12) rfl rfl wq_1021 wq_1022 wq_1012 wq_1014 hd_X12_brings (As := [.int x5]) (rest := []) rfl rfl hl.1 rfl dX12_feed_68 (fun H locs hC => ?_)
    refine lv_aload_n hx hb dX12_feed_71 rfl (lv_at hl 0 rfl) ?_
    refine gt_X12_177_m hx hb hta hown hK hC dX12_feed_72 ?_
    exact hret _ _ _ _ _ _ (rv_inv hf).1 (congrArg (WM y o) (rv_inv hf).2) rfl dX12_feed_75 hC
  · have hf := it_f c_7 hf
    refine lv_iconst (v := (-1)) hx hb dX12_feed_42 (by decide) ?_
    exact hret _ _ _ _ _ _ (rv_inv hf).1 (congrArg (WM y o) (rv_inv hf).2) rfl dX12_feed_43 hC

set_option maxHeartbeats 8000000 in
set_option maxRecDepth 100000 in
theorem r_X12_end {D : va_G} {y : Nat → ClassId} {o : Nat → Nat} {ad av : Nat → Nat} {x1 : Int32} {σ : Sto} {σ2 : Sto} {v : Int32} (hf : f_X12_end x1 σ = some (v, σ2)) (l : Launch) (sz : Nat) : Met l yX12_end (Cond.code yX12_end cX12_end 2 (some .boolean) :: ALW) { frames := 0, cells := 0, slots := 0, locals := 0 } (va_Pc [.ref (o 0), .int x1] (PZ D y ad av (WM y o σ) sz)) (QZi D (WM y o σ) v (WM y o σ2) sz) 0 0 (va_A (WM y o σ) sz) := by
  refine met_i (by decide) (Nat.le_of_ble_eq_true rfl) ?_
  intro p e R s m args below meth c Q A ls hx hb hml hta hown hRc hRs hRf hRl hN hK hV hA hret hC hl
  have hl : lv_has ls 2 [(0, .ref (o 0)), (1, .int x1)] := hl
  unfold f_X12_end at hf
  refine lv_aload_n hx hb dX12_end_0 rfl (lv_at hl 0 rfl) ?_
  refine lv_iconst (v := 0) hx hb dX12_end_1 (by decide) ?_
  obtain ⟨s_1, e_1, hf⟩ := lt_inv hf
  refine pt_X12_169_m hx hb hta hown hK hC e_1 dX12_end_2 (fun H locs hC => ?_)
  refine lv_iload_n hx hb dX12_end_5 rfl (lv_at hl 1 rfl) ?_
  refine lv_if_lt (tgt := 17) hx hb dX12_end_6 (by decide) (fun c_2 => ?_) (fun c_2 => ?_)
  · have hf := it_t c_2 hf
    refine lv_iconst (v := 0) hx hb dX12_end_17 (by decide) ?_
    exact hret _ _ _ _ _ _ (rv_inv hf).1 (congrArg (WM y o) (rv_inv hf).2) rfl dX12_end_18 hC
  · have hf := it_f c_2 hf
    refine lv_iload_n hx hb dX12_end_9 rfl (lv_at hl 1 rfl) ?_
    refine lv_aload_n hx hb dX12_end_10 rfl (lv_at hl 0 rfl) ?_
    refine gt_X12_177_m hx hb hta hown hK hC dX12_end_11 ?_
    refine lv_icmp_le (tgt := 19) hx hb dX12_end_14 (by decide) (fun c_3 => ?_) (fun c_3 => ?_)
    · have hf := it_t c_3 hf
      refine lv_aload_n hx hb dX12_end_19 rfl (lv_at hl 0 rfl) ?_
      refine lv_iload_n hx hb dX12_end_20 rfl (lv_at hl 1 rfl) ?_
      obtain ⟨s_4, e_4, hf⟩ := lt_inv hf
      refine pt_X12_177_m hx hb hta hown hK hC e_4 dX12_end_21 (fun H locs hC => ?_)
      refine lv_iconst (v := 1) hx hb dX12_end_24 (by decide) ?_
      exact hret _ _ _ _ _ _ (rv_inv hf).1 (congrArg (WM y o) (rv_inv hf).2) rfl dX12_end_25 hC
    · have hf := it_f c_3 hf
      refine lv_iconst (v := 0) hx hb dX12_end_17 (by decide) ?_
      exact hret _ _ _ _ _ _ (rv_inv hf).1 (congrArg (WM y o) (rv_inv hf).2) rfl dX12_end_18 hC

set_option maxHeartbeats 8000000 in
set_option maxRecDepth 100000 in
theorem r_X12_here {D : va_G} {y : Nat → ClassId} {o : Nat → Nat} {ad av : Nat → Nat} {σ : Sto} {v : Int32} (hf : f_X12_here σ = some v) (l : Launch) (sz : Nat) : Met l yX12_here (Cond.code yX12_here cX12_here 1 (some .int) :: ALW) { frames := 0, cells := 0, slots := 0, locals := 0 } (va_Pc [.ref (o 0)] (PZ D y ad av (WM y o σ) sz)) (QZi D (WM y o σ) v (WM y o σ) sz) 0 0 (va_A (WM y o σ) sz) := by
  refine met_i (by decide) (Nat.le_of_ble_eq_true rfl) ?_
  intro p e R s m args below meth c Q A ls hx hb hml hta hown hRc hRs hRf hRl hN hK hV hA hret hC hl
  have hl : lv_has ls 1 [(0, .ref (o 0))] := hl
  unfold f_X12_here at hf
  refine lv_aload_n hx hb dX12_here_0 rfl (lv_at hl 0 rfl) ?_
  refine gt_X12_188_m hx hb hta hown hK hC dX12_here_1 ?_
  refine lv_aload_n hx hb dX12_here_4 rfl (lv_at hl 0 rfl) ?_
  refine gt_X12_177_m hx hb hta hown hK hC dX12_here_5 ?_
  refine lv_icmp_ge (tgt := 27) hx hb dX12_here_8 (by decide) (fun c_1 => ?_) (fun c_1 => ?_)
  · have hf := it_t c_1 hf
    refine lv_iconst (v := (-1)) hx hb dX12_here_27 (by decide) ?_
    exact hret _ _ _ _ _ _ (Option.some.inj hf) rfl rfl dX12_here_28 hC
  · have hf := it_f c_1 hf
    refine lv_aload_n hx hb dX12_here_11 rfl (lv_at hl 0 rfl) ?_
    refine gt_X12_9_m hx hb hta hown hK hC dX12_here_12 ?_
    refine lv_aload_n hx hb dX12_here_15 rfl (lv_at hl 0 rfl) ?_
    refine gt_X12_188_m hx hb hta hown hK hC dX12_here_16 ?_
    obtain ⟨hi_2, hf⟩ := ix_inv hf
    obtain ⟨v_2, e_2, hf⟩ := lt_inv hf
    refine al_M_1 hx hb hK hC hi_2 e_2 dX12_here_19 ?_
    refine lv_sipush (v := 255) hx hb dX12_here_20 (by decide) ?_
    refine lv_iand hx hb dX12_here_23 ?_
    refine lv_goto (tgt := 28) hx hb dX12_here_24 (by decide) ?_
    exact hret _ _ _ _ _ _ (Option.some.inj hf) rfl rfl dX12_here_28 hC

set_option maxHeartbeats 8000000 in
set_option maxRecDepth 100000 in
theorem r_X12_look {D : va_G} {y : Nat → ClassId} {o : Nat → Nat} {ad av : Nat → Nat} {σ : Sto} {σ2 : Sto} {v : Int32} (hf : f_X12_look σ = some (v, σ2)) (l : Launch) (sz : Nat) : Met l yX12_look (Cond.code yX12_look cX12_look 1 (some .int) :: ALW) { frames := 1, cells := 0, slots := 0, locals := 20 } (va_Pc [.ref (o 0)] (PZ D y ad av (WM y o σ) sz)) (QZi D (WM y o σ) v (WM y o σ2) sz) 0 0 (va_A (WM y o σ) sz) := by
  refine met_i (by decide) (Nat.le_of_ble_eq_true rfl) ?_
  intro p e R s m args below meth c Q A ls hx hb hml hta hown hRc hRs hRf hRl hN hK hV hA hret hC hl
  have hl : lv_has ls 1 [(0, .ref (o 0))] := hl
  unfold f_X12_look at hf
  refine itr_inv1 (P := fun (s_1 : Sto) => ∀ (H : Heap) (locs : List Loc) (ls : Array Slot), CZ D A s H locs (WM y o s_1) → lv_has ls 1 [(0, .ref (o 0))] → W p l e R s m args below meth c H locs 0 0 Q (F0 m 0 ls [])) hf ?_ _ _ _ hC hl
  intro a_0 s_1 ha_0 hf H locs ls hC hl
  refine lv_aload_n hx hb dX12_look_0 rfl (lv_at hl 0 rfl) ?_
  obtain ⟨v_2, hc_2, hf⟩ := calp_inv hf
  refine cc_Vi (r_X12_here (D := D) (y := y) (o := o) (ad := ad) (av := av) hc_2 l) hx hb hml hta hown hK hN hV hA hC hRc hRs (by omega) (by omega) wq_1027 (q := 0) (ci := 12) rfl rfl wq_1028 wq_1029 wq_1012 wq_1024 hd_X12_here (As := []) (rest := []) rfl rfl hl.1 rfl dX12_look_1 (fun H locs hC => ?_)
  refine lv_bipush (v := 32) hx hb dX12_look_4 (by decide) ?_
  refine lv_icmp_ne (tgt := 22) hx hb dX12_look_6 (by decide) (fun c_3 => ?_) (fun c_3 => ?_)
  · have hf := it_f c_3 hf
    refine lv_aload_n hx hb dX12_look_22 rfl (lv_at hl 0 rfl) ?_
    obtain ⟨v_5, hc_5, hf⟩ := calp_inv hf
    refine cc_Vi (r_X12_here (D := D) (y := y) (o := o) (ad := ad) (av := av) hc_5 l) hx hb hml hta hown hK hN hV hA hC hRc hRs (by omega) (by omega) wq_1027 (q := 0) (ci := 12) rfl rfl wq_1028 wq_1029 wq_1012 wq_1024 hd_X12_here (As := []) (rest := []) rfl rfl hl.1 rfl dX12_look_23 (fun H locs hC => ?_)
    exact hret _ _ _ _ _ _ (rv_inv hf).1 (congrArg (WM y o) (rv_inv hf).2) rfl dX12_look_26 hC
  · have hf := it_t c_3 hf
    refine lv_aload_n hx hb dX12_look_9 rfl (lv_at hl 0 rfl) ?_
    refine lv_dup hx hb dX12_look_10 rfl ?_
    refine gt_X12_188_m hx hb hta hown hK hC dX12_look_11 ?_
    refine lv_iconst (v := 1) hx hb dX12_look_14 (by decide) ?_
    refine lv_iadd hx hb dX12_look_15 ?_
    obtain ⟨s_4, e_4, hf⟩ := lt_inv hf
    refine pt_X12_188_m hx hb hta hown hK hC e_4 dX12_look_16 (fun H locs hC => ?_)
    refine lv_goto (tgt := 0) hx hb dX12_look_19 (by decide) ?_
    exact ha_0 _ hf _ _ _ hC hl

set_option maxHeartbeats 8000000 in
set_option maxRecDepth 100000 in
theorem r_X12_isDigit {D : va_G} {y : Nat → ClassId} {o : Nat → Nat} {ad av : Nat → Nat} {σ : Sto} {v : Int32} (hf : f_X12_isDigit σ = some v) (l : Launch) (sz : Nat) : Met l yX12_isDigit (Cond.code yX12_isDigit cX12_isDigit 1 (some .boolean) :: ALW) { frames := 1, cells := 0, slots := 0, locals := 20 } (va_Pc [.ref (o 0)] (PZ D y ad av (WM y o σ) sz)) (QZi D (WM y o σ) v (WM y o σ) sz) 0 0 (va_A (WM y o σ) sz) := by
  refine met_i (by decide) (Nat.le_of_ble_eq_true rfl) ?_
  intro p e R s m args below meth c Q A ls hx hb hml hta hown hRc hRs hRf hRl hN hK hV hA hret hC hl
  have hl : lv_has ls 1 [(0, .ref (o 0))] := hl
  unfold f_X12_isDigit at hf
  refine lv_aload_n hx hb dX12_isDigit_0 rfl (lv_at hl 0 rfl) ?_
  obtain ⟨v_1, hc_1, hf⟩ := calp_inv hf
  refine cc_Vi (r_X12_here (D := D) (y := y) (o := o) (ad := ad) (av := av) hc_1 l) hx hb hml hta hown hK hN hV hA hC hRc hRs (by omega) (by omega) wq_1027 (q := 0) (ci := 12) rfl rfl wq_1028 wq_1029 wq_1012 wq_1024 hd_X12_here (As := []) (rest := []) rfl rfl hl.1 rfl dX12_isDigit_1 (fun H locs hC => ?_)
  refine lv_bipush (v := 48) hx hb dX12_isDigit_4 (by decide) ?_
  obtain ⟨k_22, hk_22, hf⟩ := jn_inv0 hf
  have hj_22 : ∀  (H : Heap) (locs : List Loc) (ls : Array Slot), k_22 = some v → CZ D A s H locs (WM y o σ) → lv_has ls 1 [] → W p l e R s m args below meth c H locs 0 0 Q (F0 m 22 ls []) := by
    intro H locs ls hf hC hl
    have hf := hk_22 hf
    refine lv_iconst (v := 0) hx hb dX12_isDigit_22 (by decide) ?_
    exact hret _ _ _ _ _ _ (Option.some.inj hf) rfl rfl dX12_isDigit_23 hC
  refine lv_icmp_lt (tgt := 22) hx hb dX12_isDigit_6 (by decide) (fun c_3 => ?_) (fun c_3 => ?_)
  · have hf := it_t c_3 hf
    exact hj_22 _ _ _ hf hC (lv_sub hl [] rfl)
  · have hf := it_f c_3 hf
    refine lv_aload_n hx hb dX12_isDigit_9 rfl (lv_at hl 0 rfl) ?_
    obtain ⟨v_4, hc_4, hf⟩ := calp_inv hf
    refine cc_Vi (r_X12_here (D := D) (y := y) (o := o) (ad := ad) (av := av) hc_4 l) hx hb hml hta hown hK hN hV hA hC hRc hRs (by omega) (by omega) wq_1027 (q := 0) (ci := 12) rfl rfl wq_1028 wq_1029 wq_1012 wq_1024 hd_X12_here (As := []) (rest := []) rfl rfl hl.1 rfl dX12_isDigit_10 (fun H locs hC => ?_)
    refine lv_bipush (v := 57) hx hb dX12_isDigit_13 (by decide) ?_
    refine lv_icmp_gt (tgt := 22) hx hb dX12_isDigit_15 (by decide) (fun c_5 => ?_) (fun c_5 => ?_)
    · have hf := it_t c_5 hf
      exact hj_22 _ _ _ hf hC (lv_sub hl [] rfl)
    · have hf := it_f c_5 hf
      refine lv_iconst (v := 1) hx hb dX12_isDigit_18 (by decide) ?_
      refine lv_goto (tgt := 23) hx hb dX12_isDigit_19 (by decide) ?_
      exact hret _ _ _ _ _ _ (Option.some.inj hf) rfl rfl dX12_isDigit_23 hC

set_option maxHeartbeats 8000000 in
set_option maxRecDepth 100000 in
theorem r_X12_number {D : va_G} {y : Nat → ClassId} {o : Nat → Nat} {ad av : Nat → Nat} {x1 : Int32} {σ : Sto} {σ2 : Sto} {v : Int32} (hf : f_X12_number x1 σ = some (v, σ2)) (l : Launch) (sz : Nat) : Met l yX12_number (Cond.code yX12_number cX12_number 4 (some .int) :: ALW) { frames := 2, cells := 0, slots := 0, locals := 40 } (va_Pc [.ref (o 0), .int x1] (PZ D y ad av (WM y o σ) sz)) (QZi D (WM y o σ) v (WM y o σ2) sz) 0 0 (va_A (WM y o σ) sz) := by
  refine met_i (by decide) (Nat.le_of_ble_eq_true rfl) ?_
  intro p e R s m args below meth c Q A ls hx hb hml hta hown hRc hRs hRf hRl hN hK hV hA hret hC hl
  have hl : lv_has ls 4 [(0, .ref (o 0)), (1, .int x1)] := hl
  unfold f_X12_number at hf
  refine lv_aload_n hx hb dX12_number_0 rfl (lv_at hl 0 rfl) ?_
  obtain ⟨v_1, s_1, hc_1, hf⟩ := calv_inv hf
  refine cc_Vi (r_X12_look (D := D) (y := y) (o := o) (ad := ad) (av := av) hc_1 l) hx hb hml hta hown hK hN hV hA hC hRc hRs (by omega) (by omega) wq_1032 (q := 0) (ci := 12) rfl rfl wq_1033 wq_1034 wq_1012 wq_1026 hd_X12_look (As := []) (rest := []) rfl rfl hl.1 rfl dX12_number_1 (fun H locs hC => ?_)
  refine lv_istore_n (lv' := [(2, .int v_1), (0, .ref (o 0)), (1, .int x1)]) hx hb dX12_number_4 rfl hl (by decide) rfl (fun ls hl => ?_)
  refine lv_aload_n hx hb dX12_number_5 rfl (lv_at hl 1 rfl) ?_
  obtain ⟨v_2, hc_2, hf⟩ := calp_inv hf
  refine cc_Vi (r_X12_isDigit (D := D) (y := y) (o := o) (ad := ad) (av := av) hc_2 l) hx hb hml hta hown hK hN hV hA hC hRc hRs (by omega) (by omega) wq_1036 (q := 0) (ci := 12) rfl rfl wq_1037 wq_1038 wq_1012 wq_1030 hd_X12_isDigit (As := []) (rest := []) rfl rfl hl.1 rfl dX12_number_6 (fun H locs hC => ?_)
  refine lv_if_ne (tgt := 14) hx hb dX12_number_9 (by decide) (fun c_3 => ?_) (fun c_3 => ?_)
  · have hf := it_f c_3 hf
    refine lv_iconst (v := 0) hx hb dX12_number_14 (by decide) ?_
    refine lv_istore_n (lv' := [(3, .int 0), (2, .int v_1), (0, .ref (o 0)), (1, .int x1)]) hx hb dX12_number_15 rfl hl (by decide) rfl (fun ls hl => ?_)
    refine itr_inv2 (P := fun (x3_4 : Int32) (s_4 : Sto) => ∀ (H : Heap) (locs : List Loc) (ls : Array Slot), CZ D A s H locs (WM y o s_4) → lv_has ls 4 [(0, .ref (o 0)), (1, .int x1), (3, .int x3_4)] → W p l e R s m args below meth c H locs 0 0 Q (F0 m 16 ls [])) hf ?_ _ _ _ hC (lv_sub hl [2, 3, 0] rfl)
    intro a_16 x3_4 s_4 ha_16 hf H locs ls hC hl
    refine lv_aload_n hx hb dX12_number_16 rfl (lv_at hl 0 rfl) ?_
    obtain ⟨v_5, hc_5, hf⟩ := calp_inv hf
    refine cc_Vi (r_X12_isDigit (D := D) (y := y) (o := o) (ad := ad) (av := av) hc_5 l) hx hb hml hta hown hK hN hV hA hC hRc hRs (by omega) (by omega) wq_1036 (q := 0) (ci := 12) rfl rfl wq_1037 wq_1038 wq_1012 wq_1030 hd_X12_isDigit (As := []) (rest := []) rfl rfl hl.1 rfl dX12_number_17 (fun H locs hC => ?_)
    refine lv_if_eq (tgt := 67) hx hb dX12_number_20 (by decide) (fun c_6 => ?_) (fun c_6 => ?_)
    · have hf := it_t c_6 hf
      refine lv_iload_n hx hb dX12_number_67 rfl (lv_at hl 2 rfl) ?_
      exact hret _ _ _ _ _ _ (rv_inv hf).1 (congrArg (WM y o) (rv_inv hf).2) rfl dX12_number_68 hC
    · have hf := it_f c_6 hf
      refine lv_bipush (v := 10) hx hb dX12_number_23 (by decide) ?_
      refine lv_iload_n hx hb dX12_number_25 rfl (lv_at hl 2 rfl) ?_
      refine lv_imul hx hb dX12_number_26 ?_
      refine lv_aload_n hx hb dX12_number_27 rfl (lv_at hl 0 rfl) ?_
      obtain ⟨v_7, hc_7, hf⟩ := calp_inv hf
      refine cc_Vi (r_X12_here (D := D) (y := y) (o := o) (ad := ad) (av := av) hc_7 l) hx hb hml hta hown hK hN hV hA hC hRc hRs (by omega) (by omega) wq_1027 (q := 0) (ci := 12) rfl rfl wq_1028 wq_1029 wq_1012 wq_1024 hd_X12_here (As := []) (rest := [.int ((10 : Int32) * x3_4)]) rfl rfl hl.1 rfl dX12_number_28 (fun H locs hC => ?_)
      refine lv_iadd hx hb dX12_number_31 ?_
      refine lv_bipush (v := 48) hx hb dX12_number_32 (by decide) ?_
      refine lv_isub hx hb dX12_number_34 ?_
      refine lv_iload_n hx hb dX12_number_35 rfl (lv_at hl 1 rfl) ?_
      refine lv_icmp_le (tgt := 41) hx hb dX12_number_36 (by decide) (fun c_8 => ?_) (fun c_8 => ?_)
      · have hf := it_t c_8 hf
        refine lv_bipush (v := 10) hx hb dX12_number_41 (by decide) ?_
        refine lv_iload_n hx hb dX12_number_43 rfl (lv_at hl 2 rfl) ?_
        refine lv_imul hx hb dX12_number_44 ?_
        refine lv_aload_n hx hb dX12_number_45 rfl (lv_at hl 0 rfl) ?_
        obtain ⟨v_9, hc_9, hf⟩ := calp_inv hf
        refine cc_Vi (r_X12_here (D := D) (y := y) (o := o) (ad := ad) (av := av) hc_9 l) hx hb hml hta hown hK hN hV hA hC hRc hRs (by omega) (by omega) wq_1027 (q := 0) (ci := 12) rfl rfl wq_1028 wq_1029 wq_1012 wq_1024 hd_X12_here (As := []) (rest := [.int ((10 : Int32) * x3_4)]) rfl rfl hl.1 rfl dX12_number_46 (fun H locs hC => ?_)
        refine lv_iadd hx hb dX12_number_49 ?_
        refine lv_bipush (v := 48) hx hb dX12_number_50 (by decide) ?_
        refine lv_isub hx hb dX12_number_52 ?_
        obtain ⟨x3_10, e_10, hf⟩ := lt_inv hf
        refine nmi e_10 ?_
        refine lv_istore_n (lv' := [(3, .int x3_10), (0, .ref (o 0)), (1, .int x1)]) hx hb dX12_number_53 rfl hl (by decide) rfl (fun ls hl => ?_)
        refine lv_aload_n hx hb dX12_number_54 rfl (lv_at hl 1 rfl) ?_
        refine lv_dup hx hb dX12_number_55 rfl ?_
        refine gt_X12_188_m hx hb hta hown hK hC dX12_number_56 ?_
        refine lv_iconst (v := 1) hx hb dX12_number_59 (by decide) ?_
        refine lv_iadd hx hb dX12_number_60 ?_
        obtain ⟨s_11, e_11, hf⟩ := lt_inv hf
        refine pt_X12_188_m hx hb hta hown hK hC e_11 dX12_number_61 (fun H locs hC => ?_)
        refine lv_goto (tgt := 16) hx hb dX12_number_64 (by decide) ?_
        exact ha_16 _ _ hf _ _ _ hC (lv_sub hl [1, 2, 0] rfl)
      · have hf := it_f c_8 hf
        refine lv_iconst (v := (-1)) hx hb dX12_number_39 (by decide) ?_
        exact hret _ _ _ _ _ _ (rv_inv hf).1 (congrArg (WM y o) (rv_inv hf).2) rfl dX12_number_40 hC
  · have hf := it_t c_3 hf
    refine lv_iconst (v := (-1)) hx hb dX12_number_12 (by decide) ?_
    exact hret _ _ _ _ _ _ (rv_inv hf).1 (congrArg (WM y o) (rv_inv hf).2) rfl dX12_number_13 hC

set_option maxHeartbeats 8000000 in
set_option maxRecDepth 100000 in
theorem r_X12_reads {D : va_G} {y : Nat → ClassId} {o : Nat → Nat} {ad av : Nat → Nat} {x1 : Int32} {σ : Sto} {σ2 : Sto} {v : Int32} (hf : f_X12_reads x1 σ = some (v, σ2)) (l : Launch) (sz : Nat) : Met l yX12_reads (Cond.code yX12_reads cX12_reads 2 (some .boolean) :: ALW) { frames := 2, cells := 0, slots := 0, locals := 40 } (va_Pc [.ref (o 0), .int x1] (PZ D y ad av (WM y o σ) sz)) (QZi D (WM y o σ) v (WM y o σ2) sz) 0 0 (va_A (WM y o σ) sz) := by
  refine met_i (by decide) (Nat.le_of_ble_eq_true rfl) ?_
  intro p e R s m args below meth c Q A ls hx hb hml hta hown hRc hRs hRf hRl hN hK hV hA hret hC hl
  have hl : lv_has ls 2 [(0, .ref (o 0)), (1, .int x1)] := hl
  unfold f_X12_reads at hf
  refine lv_aload_n hx hb dX12_reads_0 rfl (lv_at hl 0 rfl) ?_
  obtain ⟨v_1, s_1, hc_1, hf⟩ := calv_inv hf
  refine cc_Vi (r_X12_look (D := D) (y := y) (o := o) (ad := ad) (av := av) hc_1 l) hx hb hml hta hown hK hN hV hA hC hRc hRs (by omega) (by omega) wq_1032 (q := 0) (ci := 12) rfl rfl wq_1033 wq_1034 wq_1012 wq_1026 hd_X12_look (As := []) (rest := []) rfl rfl hl.1 rfl dX12_reads_1 (fun H locs hC => ?_)
  refine lv_iload_n hx hb dX12_reads_4 rfl (lv_at hl 1 rfl) ?_
  refine lv_icmp_eq (tgt := 10) hx hb dX12_reads_5 (by decide) (fun c_2 => ?_) (fun c_2 => ?_)
  · have hf := it_t c_2 hf
    refine lv_aload_n hx hb dX12_reads_10 rfl (lv_at hl 0 rfl) ?_
    refine lv_dup hx hb dX12_reads_11 rfl ?_
    refine gt_X12_188_m hx hb hta hown hK hC dX12_reads_12 ?_
    refine lv_iconst (v := 1) hx hb dX12_reads_15 (by decide) ?_
    refine lv_iadd hx hb dX12_reads_16 ?_
    obtain ⟨s_3, e_3, hf⟩ := lt_inv hf
    refine pt_X12_188_m hx hb hta hown hK hC e_3 dX12_reads_17 (fun H locs hC => ?_)
    refine lv_iconst (v := 1) hx hb dX12_reads_20 (by decide) ?_
    exact hret _ _ _ _ _ _ (rv_inv hf).1 (congrArg (WM y o) (rv_inv hf).2) rfl dX12_reads_21 hC
  · have hf := it_f c_2 hf
    refine lv_iconst (v := 0) hx hb dX12_reads_8 (by decide) ?_
    exact hret _ _ _ _ _ _ (rv_inv hf).1 (congrArg (WM y o) (rv_inv hf).2) rfl dX12_reads_9 hC

set_option maxHeartbeats 8000000 in
set_option maxRecDepth 100000 in
theorem r_X12_handler {D : va_G} {y : Nat → ClassId} {o : Nat → Nat} {ad av : Nat → Nat} {σ : Sto} {σ2 : Sto} {v : Int32} (hf : f_X12_handler σ = some (v, σ2)) (l : Launch) (sz : Nat) : Met l yX12_handler (Cond.code yX12_handler cX12_handler 3 (some .boolean) :: ALW) { frames := 3, cells := 0, slots := 0, locals := 63 } (va_Pc [.ref (o 0)] (PZ D y ad av (WM y o σ) sz)) (QZi D (WM y o σ) v (WM y o σ2) sz) 0 0 (va_A (WM y o σ) sz) := by
  refine met_i (by decide) (Nat.le_of_ble_eq_true rfl) ?_
  intro p e R s m args below meth c Q A ls hx hb hml hta hown hRc hRs hRf hRl hN hK hV hA hret hC hl
  have hl : lv_has ls 3 [(0, .ref (o 0))] := hl
  unfold f_X12_handler at hf
  refine lv_aload_n hx hb dX12_handler_0 rfl (lv_at hl 0 rfl) ?_
  refine gt_X12_230_m hx hb hta hown hK hC dX12_handler_1 ?_
  refine lv_iconst (v := 3) hx hb dX12_handler_4 (by decide) ?_
  refine lv_icmp_ne (tgt := 10) hx hb dX12_handler_5 (by decide) (fun c_1 => ?_) (fun c_1 => ?_)
  · have hf := it_f c_1 hf
    refine lv_aload_n hx hb dX12_handler_10 rfl (lv_at hl 0 rfl) ?_
    refine lv_dup hx hb dX12_handler_11 rfl ?_
    refine gt_X12_188_m hx hb hta hown hK hC dX12_handler_12 ?_
    refine lv_iconst (v := 1) hx hb dX12_handler_15 (by decide) ?_
    refine lv_iadd hx hb dX12_handler_16 ?_
    obtain ⟨s_2, e_2, hf⟩ := lt_inv hf
    refine pt_X12_188_m hx hb hta hown hK hC e_2 dX12_handler_17 (fun H locs hC => ?_)
    refine lv_iconst (v := 0) hx hb dX12_handler_20 (by decide) ?_
    refine lv_istore_n (lv' := [(1, .int 0), (0, .ref (o 0))]) hx hb dX12_handler_21 rfl hl (by decide) rfl (fun ls hl => ?_)
    refine itr_inv2 (P := fun (x1_3 : Int32) (s_3 : Sto) => ∀ (H : Heap) (locs : List Loc) (ls : Array Slot), CZ D A s H locs (WM y o s_3) → lv_has ls 3 [(0, .ref (o 0)), (1, .int x1_3)] → W p l e R s m args below meth c H locs 0 0 Q (F0 m 22 ls [])) hf ?_ _ _ _ hC (lv_sub hl [1, 0] rfl)
    intro a_22 x1_3 s_3 ha_22 hf H locs ls hC hl
    refine lv_iload_n hx hb dX12_handler_22 rfl (lv_at hl 1 rfl) ?_
    refine lv_iconst (v := 3) hx hb dX12_handler_23 (by decide) ?_
    refine lv_icmp_ge (tgt := 76) hx hb dX12_handler_24 (by decide) (fun c_4 => ?_) (fun c_4 => ?_)
    · have hf := it_t c_4 hf
      refine lv_aload_n hx hb dX12_handler_76 rfl (lv_at hl 0 rfl) ?_
      refine lv_dup hx hb dX12_handler_77 rfl ?_
      refine gt_X12_230_m hx hb hta hown hK hC dX12_handler_78 ?_
      refine lv_iconst (v := 1) hx hb dX12_handler_81 (by decide) ?_
      refine lv_iadd hx hb dX12_handler_82 ?_
      obtain ⟨s_5, e_5, hf⟩ := lt_inv hf
      refine pt_X12_230_m hx hb hta hown hK hC e_5 dX12_handler_83 (fun H locs hC => ?_)
      refine lv_iconst (v := 1) hx hb dX12_handler_86 (by decide) ?_
      exact hret _ _ _ _ _ _ (rv_inv hf).1 (congrArg (WM y o) (rv_inv hf).2) rfl dX12_handler_87 hC
    · have hf := it_f c_4 hf
      refine lv_iload_n hx hb dX12_handler_27 rfl (lv_at hl 1 rfl) ?_
      obtain ⟨k_42, hk_42, hf⟩ := jn_inv1 hf
      have hj_42 : ∀ (s_6 : Sto) (H : Heap) (locs : List Loc) (ls : Array Slot), k_42 s_6 = some (v, σ2) → CZ D A s H locs (WM y o s_6) → lv_has ls 3 [(0, .ref (o 0)), (1, .int x1_3)] → W p l e R s m args below meth c H locs 0 0 Q (F0 m 42 ls []) := by
        intro s_6 H locs ls hf hC hl
        have hf := hk_42 _ hf
        refine lv_aload_n hx hb dX12_handler_42 rfl (lv_at hl 0 rfl) ?_
        refine lv_bipush (v := 40) hx hb dX12_handler_43 (by decide) ?_
        obtain ⟨v_7, s_7, hc_7, hf⟩ := calv_inv hf
        refine cc_Vi (r_X12_number (D := D) (y := y) (o := o) (ad := ad) (av := av) hc_7 l) hx hb hml hta hown hK hN hV hA hC hRc hRs (by omega) (by omega) wq_1049 (q := 0) (ci := 12) rfl rfl wq_1050 wq_1051 wq_1012 wq_1035 hd_X12_number (As := [.int 40]) (rest := []) rfl rfl hl.1 rfl dX12_handler_45 (fun H locs hC => ?_)
        refine lv_istore_n (lv' := [(2, .int v_7), (0, .ref (o 0)), (1, .int x1_3)]) hx hb dX12_handler_48 rfl hl (by decide) rfl (fun ls hl => ?_)
        refine lv_iload_n hx hb dX12_handler_49 rfl (lv_at hl 0 rfl) ?_
        refine lv_iconst (v := (-1)) hx hb dX12_handler_50 (by decide) ?_
        refine lv_icmp_ne (tgt := 56) hx hb dX12_handler_51 (by decide) (fun c_8 => ?_) (fun c_8 => ?_)
        · have hf := it_f c_8 hf
          refine lv_aload_n hx hb dX12_handler_56 rfl (lv_at hl 1 rfl) ?_
          refine gt_X12_20_m hx hb hta hown hK hC dX12_handler_57 ?_
          refine lv_iconst (v := 3) hx hb dX12_handler_60 (by decide) ?_
          refine lv_aload_n hx hb dX12_handler_61 rfl (lv_at hl 1 rfl) ?_
          refine gt_X12_230_m hx hb hta hown hK hC dX12_handler_62 ?_
          refine lv_imul hx hb dX12_handler_65 ?_
          refine lv_iload_n hx hb dX12_handler_66 rfl (lv_at hl 2 rfl) ?_
          refine lv_iadd hx hb dX12_handler_67 ?_
          refine lv_iload_n hx hb dX12_handler_68 rfl (lv_at hl 0 rfl) ?_
          obtain ⟨hi_9, hf⟩ := ix_inv hf
          obtain ⟨s_9, e_9, hf⟩ := lt_inv hf
          refine as_M_4 hx hb hK hC hi_9 e_9 dX12_handler_69 (fun H locs hC => ?_)
          obtain ⟨x1_10, e_10, hf⟩ := lt_inv hf
          refine lv_iinc (v := x1_10) (lv' := [(1, .int x1_10), (2, .int v_7), (0, .ref (o 0))]) hx hb dX12_handler_70 hl (k := 2) rfl e_10.symm (by decide) rfl (fun ls hl => ?_)
          refine lv_goto (tgt := 22) hx hb dX12_handler_73 (by decide) ?_
          exact ha_22 _ _ hf _ _ _ hC (lv_sub hl [2, 0] rfl)
        · have hf := it_t c_8 hf
          refine lv_iconst (v := 0) hx hb dX12_handler_54 (by decide) ?_
          exact hret _ _ _ _ _ _ (rv_inv hf).1 (congrArg (WM y o) (rv_inv hf).2) rfl dX12_handler_55 hC
      refine lv_if_le (tgt := 42) hx hb dX12_handler_28 (by decide) (fun c_11 => ?_) (fun c_11 => ?_)
      · have hf := it_t c_11 hf
        exact hj_42 _ _ _ _ hf hC hl
      · have hf := it_f c_11 hf
        refine lv_aload_n hx hb dX12_handler_31 rfl (lv_at hl 0 rfl) ?_
        refine lv_bipush (v := 44) hx hb dX12_handler_32 (by decide) ?_
        obtain ⟨v_12, s_12, hc_12, hf⟩ := calv_inv hf
        refine cc_Vi (r_X12_reads (D := D) (y := y) (o := o) (ad := ad) (av := av) hc_12 l) hx hb hml hta hown hK hN hV hA hC hRc hRs (by omega) (by omega) wq_1057 (q := 0) (ci := 12) rfl rfl wq_1058 wq_1059 wq_1012 wq_1031 hd_X12_reads (As := [.int 44]) (rest := []) rfl rfl hl.1 rfl dX12_handler_34 (fun H locs hC => ?_)
        refine lv_if_ne (tgt := 42) hx hb dX12_handler_37 (by decide) (fun c_13 => ?_) (fun c_13 => ?_)
        · have hf := it_f c_13 hf
          exact hj_42 _ _ _ _ hf hC hl
        · have hf := it_t c_13 hf
          refine lv_iconst (v := 0) hx hb dX12_handler_40 (by decide) ?_
          exact hret _ _ _ _ _ _ (rv_inv hf).1 (congrArg (WM y o) (rv_inv hf).2) rfl dX12_handler_41 hC
  · have hf := it_t c_1 hf
    refine lv_iconst (v := 0) hx hb dX12_handler_8 (by decide) ?_
    exact hret _ _ _ _ _ _ (rv_inv hf).1 (congrArg (WM y o) (rv_inv hf).2) rfl dX12_handler_9 hC

set_option maxHeartbeats 8000000 in
set_option maxRecDepth 100000 in
theorem r_X12_isOneOf_s100 {D : va_G} {y : Nat → ClassId} {ad av : Nat → Nat} {w : va_W} {x1 : Int32} {v : Int32} (hf : f_X12_isOneOf_s100 x1 = some v) (l : Launch) (sz : Nat) : Met l yX12_isOneOf (Cond.code yX12_isOneOf cX12_isOneOf 3 (some .boolean) :: ALW) { frames := 8, cells := 0, slots := 0, locals := 200 } (va_Pc [.int x1, .ref (ad 100)] (PZ D y ad av (w) sz)) (QZi D (w) v (w) sz) 0 0 (va_A (w) sz) := by
  refine met_i (by decide) (Nat.le_of_ble_eq_true rfl) ?_
  intro p e R s m args below meth c Q A ls hx hb hml hta hown hRc hRs hRf hRl hN hK hV hA hret hC hl
  have hl : lv_has ls 3 [(0, .int x1), (1, .ref (ad 100))] := hl
  unfold f_X12_isOneOf_s100 at hf
  refine lv_iconst (v := 0) hx hb dX12_isOneOf_0 (by decide) ?_
  refine lv_istore_n (lv' := [(2, .int 0), (0, .int x1), (1, .ref (ad 100))]) hx hb dX12_isOneOf_1 rfl hl (by decide) rfl (fun ls hl => ?_)
  refine itr_inv1 (P := fun (x2_1 : Int32) => ∀ (H : Heap) (locs : List Loc) (ls : Array Slot), CZ D A s H locs w → lv_has ls 3 [(0, .int x1), (1, .ref (ad 100)), (2, .int x2_1)] → W p l e R s m args below meth c H locs 0 0 Q (F0 m 2 ls [])) hf ?_ _ _ _ hC (lv_sub hl [1, 2, 0] rfl)
  intro a_2 x2_1 ha_2 hf H locs ls hC hl
  refine lv_iload_n hx hb dX12_isOneOf_2 rfl (lv_at hl 2 rfl) ?_
  refine lv_aload_n hx hb dX12_isOneOf_3 rfl (lv_at hl 1 rfl) ?_
  refine cc_length hx hb hml hta hown hK hN hV hA hC hRc hRs (by omega) (by omega) wq_1039 (i := 100) (n := 16) (by decide) (by decide) (by decide) hl.1 rfl dX12_isOneOf_4 (fun H locs hC => ?_)
  refine lv_icmp_ge (tgt := 27) hx hb dX12_isOneOf_7 (by decide) (fun c_2 => ?_) (fun c_2 => ?_)
  · have hf := it_t c_2 hf
    refine lv_iconst (v := 0) hx hb dX12_isOneOf_27 (by decide) ?_
    exact hret _ _ _ _ _ _ (Option.some.inj hf) rfl rfl dX12_isOneOf_28 hC
  · have hf := it_f c_2 hf
    refine lv_aload_n hx hb dX12_isOneOf_10 rfl (lv_at hl 1 rfl) ?_
    refine lv_iload_n hx hb dX12_isOneOf_11 rfl (lv_at hl 2 rfl) ?_
    obtain ⟨hi_3, hf⟩ := ix_inv hf
    obtain ⟨v_3, e_3, hf⟩ := lt_inv hf
    refine cc_charAt hx hb hml hta hown hK hN hV hA hC hRc hRs (by omega) (by omega) wq_1040 (i := 100) (n := 16) (by decide) (by decide) (by decide) hi_3 e_3 hl.1 rfl dX12_isOneOf_12 (fun H locs hC => ?_)
    refine lv_iload_n hx hb dX12_isOneOf_15 rfl (lv_at hl 0 rfl) ?_
    refine lv_icmp_ne (tgt := 21) hx hb dX12_isOneOf_16 (by decide) (fun c_4 => ?_) (fun c_4 => ?_)
    · have hf := it_f c_4 hf
      obtain ⟨x2_5, e_5, hf⟩ := lt_inv hf
      refine lv_iinc (v := x2_5) (lv' := [(2, .int x2_5), (0, .int x1), (1, .ref (ad 100))]) hx hb dX12_isOneOf_21 hl (k := 2) rfl e_5.symm (by decide) rfl (fun ls hl => ?_)
      refine lv_goto (tgt := 2) hx hb dX12_isOneOf_24 (by decide) ?_
      exact ha_2 _ hf _ _ _ hC (lv_sub hl [1, 2, 0] rfl)
    · have hf := it_t c_4 hf
      refine lv_iconst (v := 1) hx hb dX12_isOneOf_19 (by decide) ?_
      exact hret _ _ _ _ _ _ (Option.some.inj hf) rfl rfl dX12_isOneOf_20 hC

set_option maxHeartbeats 8000000 in
set_option maxRecDepth 100000 in
theorem r_X12_isPlain {D : va_G} {y : Nat → ClassId} {ad av : Nat → Nat} {w : va_W} {x1 : Int32} {v : Int32} (hf : f_X12_isPlain x1 = some v) (l : Launch) (sz : Nat) : Met l yX12_isPlain (Cond.code yX12_isPlain cX12_isPlain 1 (some .boolean) :: ALW) { frames := 9, cells := 0, slots := 0, locals := 222 } (va_Pc [.int x1] (PZ D y ad av (w) sz)) (QZi D (w) v (w) sz) 0 0 (va_A (w) sz) := by
  refine met_i (by decide) (Nat.le_of_ble_eq_true rfl) ?_
  intro p e R s m args below meth c Q A ls hx hb hml hta hown hRc hRs hRf hRl hN hK hV hA hret hC hl
  have hl : lv_has ls 1 [(0, .int x1)] := hl
  unfold f_X12_isPlain at hf
  refine lv_iload_n hx hb dX12_isPlain_0 rfl (lv_at hl 0 rfl) ?_
  refine va_ldcS hx hb hown (ss_Rm hV 0 rfl) dX12_isPlain_1 ?_
  obtain ⟨v_1, hc_1, hf⟩ := calp_inv hf
  refine cc_Si (r_X12_isOneOf_s100 (D := D) (y := y) (w := w) (ad := ad) (av := av) hc_1 l) hx hb hml hta hown hK hN hV hA hC hRc hRs (by omega) (by omega) wq_1042 wq_1043 wq_1012 wq_1041 hd_X12_isOneOf (As := [.int x1, .ref (ad 100)]) (rest := []) rfl rfl hl.1 rfl dX12_isPlain_3 (fun H locs hC => ?_)
  obtain ⟨hb_2, hf⟩ := bz_inv hf
  exact hret _ _ _ _ _ _ (Option.some.inj hf) rfl (bz_nar hb_2) dX12_isPlain_6 hC

set_option maxHeartbeats 8000000 in
set_option maxRecDepth 100000 in
theorem r_X12_letter {D : va_G} {y : Nat → ClassId} {o : Nat → Nat} {ad av : Nat → Nat} {σ : Sto} {σ2 : Sto} {v : Int32} (hf : f_X12_letter σ = some (v, σ2)) (l : Launch) (sz : Nat) : Met l yX12_letter (Cond.code yX12_letter cX12_letter 2 (some .int) :: ALW) { frames := 2, cells := 0, slots := 0, locals := 40 } (va_Pc [.ref (o 0)] (PZ D y ad av (WM y o σ) sz)) (QZi D (WM y o σ) v (WM y o σ2) sz) 0 0 (va_A (WM y o σ) sz) := by
  refine met_i (by decide) (Nat.le_of_ble_eq_true rfl) ?_
  intro p e R s m args below meth c Q A ls hx hb hml hta hown hRc hRs hRf hRl hN hK hV hA hret hC hl
  have hl : lv_has ls 2 [(0, .ref (o 0))] := hl
  unfold f_X12_letter at hf
  refine lv_aload_n hx hb dX12_letter_0 rfl (lv_at hl 0 rfl) ?_
  obtain ⟨v_1, s_1, hc_1, hf⟩ := calv_inv hf
  refine cc_Vi (r_X12_look (D := D) (y := y) (o := o) (ad := ad) (av := av) hc_1 l) hx hb hml hta hown hK hN hV hA hC hRc hRs (by omega) (by omega) wq_1032 (q := 0) (ci := 12) rfl rfl wq_1033 wq_1034 wq_1012 wq_1026 hd_X12_look (As := []) (rest := []) rfl rfl hl.1 rfl dX12_letter_1 (fun H locs hC => ?_)
  refine lv_istore_n (lv' := [(1, .int v_1), (0, .ref (o 0))]) hx hb dX12_letter_4 rfl hl (by decide) rfl (fun ls hl => ?_)
  refine lv_iload_n hx hb dX12_letter_5 rfl (lv_at hl 0 rfl) ?_
  refine lv_bipush (v := 97) hx hb dX12_letter_6 (by decide) ?_
  refine lv_icmp_lt (tgt := 17) hx hb dX12_letter_8 (by decide) (fun c_2 => ?_) (fun c_2 => ?_)
  · have hf := it_t c_2 hf
    refine lv_iconst (v := (-1)) hx hb dX12_letter_17 (by decide) ?_
    exact hret _ _ _ _ _ _ (rv_inv hf).1 (congrArg (WM y o) (rv_inv hf).2) rfl dX12_letter_18 hC
  · have hf := it_f c_2 hf
    refine lv_iload_n hx hb dX12_letter_11 rfl (lv_at hl 0 rfl) ?_
    refine lv_bipush (v := 102) hx hb dX12_letter_12 (by decide) ?_
    refine lv_icmp_le (tgt := 19) hx hb dX12_letter_14 (by decide) (fun c_3 => ?_) (fun c_3 => ?_)
    · have hf := it_t c_3 hf
      refine lv_aload_n hx hb dX12_letter_19 rfl (lv_at hl 1 rfl) ?_
      refine lv_dup hx hb dX12_letter_20 rfl ?_
      refine gt_X12_188_m hx hb hta hown hK hC dX12_letter_21 ?_
      refine lv_iconst (v := 1) hx hb dX12_letter_24 (by decide) ?_
      refine lv_iadd hx hb dX12_letter_25 ?_
      obtain ⟨s_4, e_4, hf⟩ := lt_inv hf
      refine pt_X12_188_m hx hb hta hown hK hC e_4 dX12_letter_26 (fun H locs hC => ?_)
      refine lv_iload_n hx hb dX12_letter_29 rfl (lv_at hl 0 rfl) ?_
      refine lv_bipush (v := 97) hx hb dX12_letter_30 (by decide) ?_
      refine lv_isub hx hb dX12_letter_32 ?_
      exact hret _ _ _ _ _ _ (rv_inv hf).1 (congrArg (WM y o) (rv_inv hf).2) rfl dX12_letter_33 hC
    · have hf := it_f c_3 hf
      refine lv_iconst (v := (-1)) hx hb dX12_letter_17 (by decide) ?_
      exact hret _ _ _ _ _ _ (rv_inv hf).1 (congrArg (WM y o) (rv_inv hf).2) rfl dX12_letter_18 hC

set_option maxHeartbeats 8000000 in
set_option maxRecDepth 100000 in
theorem r_X12_isOneOf_s101 {D : va_G} {y : Nat → ClassId} {ad av : Nat → Nat} {w : va_W} {x1 : Int32} {v : Int32} (hf : f_X12_isOneOf_s101 x1 = some v) (l : Launch) (sz : Nat) : Met l yX12_isOneOf (Cond.code yX12_isOneOf cX12_isOneOf 3 (some .boolean) :: ALW) { frames := 8, cells := 0, slots := 0, locals := 200 } (va_Pc [.int x1, .ref (ad 101)] (PZ D y ad av (w) sz)) (QZi D (w) v (w) sz) 0 0 (va_A (w) sz) := by
  refine met_i (by decide) (Nat.le_of_ble_eq_true rfl) ?_
  intro p e R s m args below meth c Q A ls hx hb hml hta hown hRc hRs hRf hRl hN hK hV hA hret hC hl
  have hl : lv_has ls 3 [(0, .int x1), (1, .ref (ad 101))] := hl
  unfold f_X12_isOneOf_s101 at hf
  refine lv_iconst (v := 0) hx hb dX12_isOneOf_0 (by decide) ?_
  refine lv_istore_n (lv' := [(2, .int 0), (0, .int x1), (1, .ref (ad 101))]) hx hb dX12_isOneOf_1 rfl hl (by decide) rfl (fun ls hl => ?_)
  refine itr_inv1 (P := fun (x2_1 : Int32) => ∀ (H : Heap) (locs : List Loc) (ls : Array Slot), CZ D A s H locs w → lv_has ls 3 [(0, .int x1), (1, .ref (ad 101)), (2, .int x2_1)] → W p l e R s m args below meth c H locs 0 0 Q (F0 m 2 ls [])) hf ?_ _ _ _ hC (lv_sub hl [1, 2, 0] rfl)
  intro a_2 x2_1 ha_2 hf H locs ls hC hl
  refine lv_iload_n hx hb dX12_isOneOf_2 rfl (lv_at hl 2 rfl) ?_
  refine lv_aload_n hx hb dX12_isOneOf_3 rfl (lv_at hl 1 rfl) ?_
  refine cc_length hx hb hml hta hown hK hN hV hA hC hRc hRs (by omega) (by omega) wq_1039 (i := 101) (n := 5) (by decide) (by decide) (by decide) hl.1 rfl dX12_isOneOf_4 (fun H locs hC => ?_)
  refine lv_icmp_ge (tgt := 27) hx hb dX12_isOneOf_7 (by decide) (fun c_2 => ?_) (fun c_2 => ?_)
  · have hf := it_t c_2 hf
    refine lv_iconst (v := 0) hx hb dX12_isOneOf_27 (by decide) ?_
    exact hret _ _ _ _ _ _ (Option.some.inj hf) rfl rfl dX12_isOneOf_28 hC
  · have hf := it_f c_2 hf
    refine lv_aload_n hx hb dX12_isOneOf_10 rfl (lv_at hl 1 rfl) ?_
    refine lv_iload_n hx hb dX12_isOneOf_11 rfl (lv_at hl 2 rfl) ?_
    obtain ⟨hi_3, hf⟩ := ix_inv hf
    obtain ⟨v_3, e_3, hf⟩ := lt_inv hf
    refine cc_charAt hx hb hml hta hown hK hN hV hA hC hRc hRs (by omega) (by omega) wq_1040 (i := 101) (n := 5) (by decide) (by decide) (by decide) hi_3 e_3 hl.1 rfl dX12_isOneOf_12 (fun H locs hC => ?_)
    refine lv_iload_n hx hb dX12_isOneOf_15 rfl (lv_at hl 0 rfl) ?_
    refine lv_icmp_ne (tgt := 21) hx hb dX12_isOneOf_16 (by decide) (fun c_4 => ?_) (fun c_4 => ?_)
    · have hf := it_f c_4 hf
      obtain ⟨x2_5, e_5, hf⟩ := lt_inv hf
      refine lv_iinc (v := x2_5) (lv' := [(2, .int x2_5), (0, .int x1), (1, .ref (ad 101))]) hx hb dX12_isOneOf_21 hl (k := 2) rfl e_5.symm (by decide) rfl (fun ls hl => ?_)
      refine lv_goto (tgt := 2) hx hb dX12_isOneOf_24 (by decide) ?_
      exact ha_2 _ hf _ _ _ hC (lv_sub hl [1, 2, 0] rfl)
    · have hf := it_t c_4 hf
      refine lv_iconst (v := 1) hx hb dX12_isOneOf_19 (by decide) ?_
      exact hret _ _ _ _ _ _ (Option.some.inj hf) rfl rfl dX12_isOneOf_20 hC

set_option maxHeartbeats 8000000 in
set_option maxRecDepth 100000 in
theorem r_X12_instruction {D : va_G} {y : Nat → ClassId} {o : Nat → Nat} {ad av : Nat → Nat} {x1 : Int32} {σ : Sto} {σ2 : Sto} {v : Int32} (hf : f_X12_instruction x1 σ = some (v, σ2)) (l : Launch) (sz : Nat) : Met l yX12_instruction (Cond.code yX12_instruction cX12_instruction 4 (some .boolean) :: ALW) { frames := 10, cells := 0, slots := 0, locals := 242 } (va_Pc [.ref (o 0), .int x1] (PZ D y ad av (WM y o σ) sz)) (QZi D (WM y o σ) v (WM y o σ2) sz) 0 0 (va_A (WM y o σ) sz) := by
  refine met_i (by decide) (Nat.le_of_ble_eq_true rfl) ?_
  intro p e R s m args below meth c Q A ls hx hb hml hta hown hRc hRs hRf hRl hN hK hV hA hret hC hl
  have hl : lv_has ls 4 [(0, .ref (o 0)), (1, .int x1)] := hl
  unfold f_X12_instruction at hf
  refine lv_aload_n hx hb dX12_instruction_0 rfl (lv_at hl 0 rfl) ?_
  refine gt_X12_216_m hx hb hta hown hK hC dX12_instruction_1 ?_
  refine lv_bipush (v := 40) hx hb dX12_instruction_4 (by decide) ?_
  refine lv_icmp_ne (tgt := 11) hx hb dX12_instruction_6 (by decide) (fun c_1 => ?_) (fun c_1 => ?_)
  · have hf := it_f c_1 hf
    refine lv_iload_n hx hb dX12_instruction_11 rfl (lv_at hl 1 rfl) ?_
    obtain ⟨v_2, hc_2, hf⟩ := calp_inv hf
    refine cc_Si (r_X12_isPlain (D := D) (y := y) (w := WM y o σ) (ad := ad) (av := av) hc_2 l) hx hb hml hta hown hK hN hV hA hC hRc hRs (by omega) (by omega) wq_1047 wq_1048 wq_1012 wq_1044 hd_X12_isPlain (As := [.int x1]) (rest := []) rfl rfl hl.1 rfl dX12_instruction_12 (fun H locs hC => ?_)
    obtain ⟨k_32, hk_32, hf⟩ := jn_inv1 hf
    have hj_32 : ∀ (t0_3 : Int32) (H : Heap) (locs : List Loc) (ls : Array Slot), k_32 t0_3 = some (v, σ2) → CZ D A s H locs (WM y o σ) → lv_has ls 4 [(0, .ref (o 0)), (1, .int x1)] → W p l e R s m args below meth c H locs 0 0 Q (F0 m 32 ls [.int t0_3]) := by
      intro t0_3 H locs ls hf hC hl
      have hf := hk_32 _ hf
      refine lv_istore_n (lv' := [(2, .int t0_3), (0, .ref (o 0)), (1, .int x1)]) hx hb dX12_instruction_32 rfl hl (by decide) rfl (fun ls hl => ?_)
      refine lv_iload_n hx hb dX12_instruction_33 rfl (lv_at hl 0 rfl) ?_
      refine lv_if_ne (tgt := 39) hx hb dX12_instruction_34 (by decide) (fun c_4 => ?_) (fun c_4 => ?_)
      · have hf := it_f c_4 hf
        refine lv_aload_n hx hb dX12_instruction_39 rfl (lv_at hl 1 rfl) ?_
        refine lv_dup hx hb dX12_instruction_40 rfl ?_
        refine gt_X12_188_m hx hb hta hown hK hC dX12_instruction_41 ?_
        refine lv_iconst (v := 1) hx hb dX12_instruction_44 (by decide) ?_
        refine lv_iadd hx hb dX12_instruction_45 ?_
        obtain ⟨s_5, e_5, hf⟩ := lt_inv hf
        refine pt_X12_188_m hx hb hta hown hK hC e_5 dX12_instruction_46 (fun H locs hC => ?_)
        refine lv_iconst (v := 0) hx hb dX12_instruction_49 (by decide) ?_
        refine lv_istore_n (lv' := [(3, .int 0), (2, .int t0_3), (0, .ref (o 0)), (1, .int x1)]) hx hb dX12_instruction_50 rfl hl (by decide) rfl (fun ls hl => ?_)
        refine lv_iload_n hx hb dX12_instruction_51 rfl (lv_at hl 3 rfl) ?_
        refine lv_bipush (v := 107) hx hb dX12_instruction_52 (by decide) ?_
        obtain ⟨k_65, hk_65, hf⟩ := jn_inv2 hf
        have hj_65 : ∀ (x3_6 : Int32) (s_6 : Sto) (H : Heap) (locs : List Loc) (ls : Array Slot), k_65 x3_6 s_6 = some (v, σ2) → CZ D A s H locs (WM y o s_6) → lv_has ls 4 [(0, .ref (o 0)), (1, .int x1), (3, .int x3_6)] → W p l e R s m args below meth c H locs 0 0 Q (F0 m 65 ls []) := by
          intro x3_6 s_6 H locs ls hf hC hl
          have hf := hk_65 _ _ hf
          refine lv_iload_n hx hb dX12_instruction_65 rfl (lv_at hl 1 rfl) ?_
          refine lv_bipush (v := 108) hx hb dX12_instruction_66 (by decide) ?_
          obtain ⟨k_82, hk_82, hf⟩ := jn_inv2 hf
          have hj_82 : ∀ (x3_7 : Int32) (s_7 : Sto) (H : Heap) (locs : List Loc) (ls : Array Slot), k_82 x3_7 s_7 = some (v, σ2) → CZ D A s H locs (WM y o s_7) → lv_has ls 4 [(0, .ref (o 0)), (1, .int x1), (3, .int x3_7)] → W p l e R s m args below meth c H locs 0 0 Q (F0 m 82 ls []) := by
            intro x3_7 s_7 H locs ls hf hC hl
            have hf := hk_82 _ _ hf
            refine lv_iload_n hx hb dX12_instruction_82 rfl (lv_at hl 1 rfl) ?_
            refine lv_bipush (v := 103) hx hb dX12_instruction_83 (by decide) ?_
            obtain ⟨k_101, hk_101, hf⟩ := jn_inv2 hf
            have hj_101 : ∀ (x3_8 : Int32) (s_8 : Sto) (H : Heap) (locs : List Loc) (ls : Array Slot), k_101 x3_8 s_8 = some (v, σ2) → CZ D A s H locs (WM y o s_8) → lv_has ls 4 [(0, .ref (o 0)), (1, .int x1), (3, .int x3_8)] → W p l e R s m args below meth c H locs 0 0 Q (F0 m 101 ls []) := by
              intro x3_8 s_8 H locs ls hf hC hl
              have hf := hk_101 _ _ hf
              refine lv_iload_n hx hb dX12_instruction_101 rfl (lv_at hl 2 rfl) ?_
              refine lv_iconst (v := (-1)) hx hb dX12_instruction_102 (by decide) ?_
              refine lv_icmp_ne (tgt := 108) hx hb dX12_instruction_103 (by decide) (fun c_9 => ?_) (fun c_9 => ?_)
              · have hf := it_f c_9 hf
                refine lv_aload_n hx hb dX12_instruction_108 rfl (lv_at hl 0 rfl) ?_
                refine gt_X12_13_m hx hb hta hown hK hC dX12_instruction_109 ?_
                refine lv_aload_n hx hb dX12_instruction_112 rfl (lv_at hl 0 rfl) ?_
                refine gt_X12_216_m hx hb hta hown hK hC dX12_instruction_113 ?_
                refine lv_iload_n hx hb dX12_instruction_116 rfl (lv_at hl 1 rfl) ?_
                obtain ⟨hi_10, hf⟩ := ix_inv hf
                obtain ⟨s_10, e_10, hf⟩ := lt_inv hf
                refine as_M_2 hx hb hK hC hi_10 e_10 dX12_instruction_117 (fun H locs hC => ?_)
                refine lv_aload_n hx hb dX12_instruction_118 rfl (lv_at hl 0 rfl) ?_
                refine gt_X12_17_m hx hb hta hown hK hC dX12_instruction_119 ?_
                refine lv_aload_n hx hb dX12_instruction_122 rfl (lv_at hl 0 rfl) ?_
                refine gt_X12_216_m hx hb hta hown hK hC dX12_instruction_123 ?_
                refine lv_iload_n hx hb dX12_instruction_126 rfl (lv_at hl 2 rfl) ?_
                obtain ⟨hi_11, hf⟩ := ix_inv hf
                obtain ⟨s_11, e_11, hf⟩ := lt_inv hf
                refine as_M_3 hx hb hK hC hi_11 e_11 dX12_instruction_127 (fun H locs hC => ?_)
                refine lv_aload_n hx hb dX12_instruction_128 rfl (lv_at hl 0 rfl) ?_
                refine lv_dup hx hb dX12_instruction_129 rfl ?_
                refine gt_X12_216_m hx hb hta hown hK hC dX12_instruction_130 ?_
                refine lv_iconst (v := 1) hx hb dX12_instruction_133 (by decide) ?_
                refine lv_iadd hx hb dX12_instruction_134 ?_
                obtain ⟨s_12, e_12, hf⟩ := lt_inv hf
                refine pt_X12_216_m hx hb hta hown hK hC e_12 dX12_instruction_135 (fun H locs hC => ?_)
                refine lv_iconst (v := 1) hx hb dX12_instruction_138 (by decide) ?_
                exact hret _ _ _ _ _ _ (rv_inv hf).1 (congrArg (WM y o) (rv_inv hf).2) rfl dX12_instruction_139 hC
              · have hf := it_t c_9 hf
                refine lv_iconst (v := 0) hx hb dX12_instruction_106 (by decide) ?_
                exact hret _ _ _ _ _ _ (rv_inv hf).1 (congrArg (WM y o) (rv_inv hf).2) rfl dX12_instruction_107 hC
            obtain ⟨k_94, hk_94, hf⟩ := jn_inv0 hf
            have hj_94 : ∀  (H : Heap) (locs : List Loc) (ls : Array Slot), k_94 = some (v, σ2) → CZ D A s H locs (WM y o s_7) → lv_has ls 4 [(0, .ref (o 0)), (1, .int x1)] → W p l e R s m args below meth c H locs 0 0 Q (F0 m 94 ls []) := by
              intro H locs ls hf hC hl
              have hf := hk_94 hf
              refine lv_aload_n hx hb dX12_instruction_94 rfl (lv_at hl 0 rfl) ?_
              refine lv_bipush (v := 39) hx hb dX12_instruction_95 (by decide) ?_
              obtain ⟨v_14, s_14, hc_14, hf⟩ := calv_inv hf
              refine cc_Vi (r_X12_number (D := D) (y := y) (o := o) (ad := ad) (av := av) hc_14 l) hx hb hml hta hown hK hN hV hA hC hRc hRs (by omega) (by omega) wq_1049 (q := 0) (ci := 12) rfl rfl wq_1050 wq_1051 wq_1012 wq_1035 hd_X12_number (As := [.int 39]) (rest := []) rfl rfl hl.1 rfl dX12_instruction_97 (fun H locs hC => ?_)
              refine lv_istore_n (lv' := [(3, .int v_14), (0, .ref (o 0)), (1, .int x1)]) hx hb dX12_instruction_100 rfl hl (by decide) rfl (fun ls hl => ?_)
              exact hj_101 _ _ _ _ _ hf hC (lv_sub hl [1, 2, 0] rfl)
            refine lv_icmp_eq (tgt := 94) hx hb dX12_instruction_85 (by decide) (fun c_15 => ?_) (fun c_15 => ?_)
            · have hf := it_t c_15 hf
              exact hj_94 _ _ _ hf hC (lv_sub hl [0, 1] rfl)
            · have hf := it_f c_15 hf
              refine lv_iload_n hx hb dX12_instruction_88 rfl (lv_at hl 1 rfl) ?_
              refine lv_bipush (v := 122) hx hb dX12_instruction_89 (by decide) ?_
              refine lv_icmp_ne (tgt := 101) hx hb dX12_instruction_91 (by decide) (fun c_16 => ?_) (fun c_16 => ?_)
              · have hf := it_f c_16 hf
                exact hj_101 _ _ _ _ _ hf hC hl
              · have hf := it_t c_16 hf
                exact hj_94 _ _ _ hf hC (lv_sub hl [0, 1] rfl)
          obtain ⟨k_77, hk_77, hf⟩ := jn_inv0 hf
          have hj_77 : ∀  (H : Heap) (locs : List Loc) (ls : Array Slot), k_77 = some (v, σ2) → CZ D A s H locs (WM y o s_6) → lv_has ls 4 [(0, .ref (o 0)), (1, .int x1)] → W p l e R s m args below meth c H locs 0 0 Q (F0 m 77 ls []) := by
            intro H locs ls hf hC hl
            have hf := hk_77 hf
            refine lv_aload_n hx hb dX12_instruction_77 rfl (lv_at hl 0 rfl) ?_
            obtain ⟨v_18, s_18, hc_18, hf⟩ := calv_inv hf
            refine cc_Vi (r_X12_letter (D := D) (y := y) (o := o) (ad := ad) (av := av) hc_18 l) hx hb hml hta hown hK hN hV hA hC hRc hRs (by omega) (by omega) wq_1052 (q := 0) (ci := 12) rfl rfl wq_1053 wq_1054 wq_1012 wq_1045 hd_X12_letter (As := []) (rest := []) rfl rfl hl.1 rfl dX12_instruction_78 (fun H locs hC => ?_)
            refine lv_istore_n (lv' := [(3, .int v_18), (0, .ref (o 0)), (1, .int x1)]) hx hb dX12_instruction_81 rfl hl (by decide) rfl (fun ls hl => ?_)
            exact hj_82 _ _ _ _ _ hf hC (lv_sub hl [1, 2, 0] rfl)
          refine lv_icmp_eq (tgt := 77) hx hb dX12_instruction_68 (by decide) (fun c_19 => ?_) (fun c_19 => ?_)
          · have hf := it_t c_19 hf
            exact hj_77 _ _ _ hf hC (lv_sub hl [0, 1] rfl)
          · have hf := it_f c_19 hf
            refine lv_iload_n hx hb dX12_instruction_71 rfl (lv_at hl 1 rfl) ?_
            refine lv_bipush (v := 115) hx hb dX12_instruction_72 (by decide) ?_
            refine lv_icmp_ne (tgt := 82) hx hb dX12_instruction_74 (by decide) (fun c_20 => ?_) (fun c_20 => ?_)
            · have hf := it_f c_20 hf
              exact hj_82 _ _ _ _ _ hf hC hl
            · have hf := it_t c_20 hf
              exact hj_77 _ _ _ hf hC (lv_sub hl [0, 1] rfl)
        refine lv_icmp_ne (tgt := 65) hx hb dX12_instruction_54 (by decide) (fun c_21 => ?_) (fun c_21 => ?_)
        · have hf := it_f c_21 hf
          exact hj_65 _ _ _ _ _ hf hC (lv_sub hl [2, 3, 0] rfl)
        · have hf := it_t c_21 hf
          refine lv_aload_n hx hb dX12_instruction_57 rfl (lv_at hl 2 rfl) ?_
          refine lv_sipush (v := 999) hx hb dX12_instruction_58 (by decide) ?_
          obtain ⟨v_22, s_22, hc_22, hf⟩ := calv_inv hf
          refine cc_Vi (r_X12_number (D := D) (y := y) (o := o) (ad := ad) (av := av) hc_22 l) hx hb hml hta hown hK hN hV hA hC hRc hRs (by omega) (by omega) wq_1049 (q := 0) (ci := 12) rfl rfl wq_1050 wq_1051 wq_1012 wq_1035 hd_X12_number (As := [.int 999]) (rest := []) rfl rfl hl.1 rfl dX12_instruction_61 (fun H locs hC => ?_)
          refine lv_istore_n (lv' := [(3, .int v_22), (2, .int t0_3), (0, .ref (o 0)), (1, .int x1)]) hx hb dX12_instruction_64 rfl hl (by decide) rfl (fun ls hl => ?_)
          exact hj_65 _ _ _ _ _ hf hC (lv_sub hl [2, 3, 0] rfl)
      · have hf := it_t c_4 hf
        refine lv_iconst (v := 0) hx hb dX12_instruction_37 (by decide) ?_
        exact hret _ _ _ _ _ _ (rv_inv hf).1 (congrArg (WM y o) (rv_inv hf).2) rfl dX12_instruction_38 hC
    obtain ⟨k_27, hk_27, hf⟩ := jn_inv0 hf
    have hj_27 : ∀  (H : Heap) (locs : List Loc) (ls : Array Slot), k_27 = some (v, σ2) → CZ D A s H locs (WM y o σ) → lv_has ls 4 [(0, .ref (o 0)), (1, .int x1)] → W p l e R s m args below meth c H locs 0 0 Q (F0 m 27 ls []) := by
      intro H locs ls hf hC hl
      have hf := hk_27 hf
      refine lv_iconst (v := 1) hx hb dX12_instruction_27 (by decide) ?_
      refine lv_goto (tgt := 32) hx hb dX12_instruction_28 (by decide) ?_
      exact hj_32 _ _ _ _ hf hC hl
    refine lv_if_ne (tgt := 27) hx hb dX12_instruction_15 (by decide) (fun c_24 => ?_) (fun c_24 => ?_)
    · have hf := it_f c_24 hf
      exact hj_27 _ _ _ hf hC hl
    · have hf := it_t c_24 hf
      refine lv_iload_n hx hb dX12_instruction_18 rfl (lv_at hl 1 rfl) ?_
      refine va_ldcS hx hb hown (ss_Rm hV 1 rfl) dX12_instruction_19 ?_
      obtain ⟨v_25, hc_25, hf⟩ := calp_inv hf
      refine cc_Si (r_X12_isOneOf_s101 (D := D) (y := y) (w := WM y o σ) (ad := ad) (av := av) hc_25 l) hx hb hml hta hown hK hN hV hA hC hRc hRs (by omega) (by omega) wq_1042 wq_1043 wq_1012 wq_1041 hd_X12_isOneOf (As := [.int x1, .ref (ad 101)]) (rest := []) rfl rfl hl.1 rfl dX12_instruction_21 (fun H locs hC => ?_)
      refine lv_if_eq (tgt := 31) hx hb dX12_instruction_24 (by decide) (fun c_26 => ?_) (fun c_26 => ?_)
      · have hf := it_t c_26 hf
        refine lv_iconst (v := 0) hx hb dX12_instruction_31 (by decide) ?_
        exact hj_32 _ _ _ _ hf hC hl
      · have hf := it_f c_26 hf
        exact hj_27 _ _ _ hf hC hl
  · have hf := it_t c_1 hf
    refine lv_iconst (v := 0) hx hb dX12_instruction_9 (by decide) ?_
    exact hret _ _ _ _ _ _ (rv_inv hf).1 (congrArg (WM y o) (rv_inv hf).2) rfl dX12_instruction_10 hC

set_option maxHeartbeats 8000000 in
set_option maxRecDepth 100000 in
theorem r_X12_isText {D : va_G} {y : Nat → ClassId} {o : Nat → Nat} {ad av : Nat → Nat} {σ : Sto} {σ2 : Sto} {v : Int32} (hf : f_X12_isText σ = some (v, σ2)) (l : Launch) (sz : Nat) : Met l yX12_isText (Cond.code yX12_isText cX12_isText 2 (some .boolean) :: ALW) { frames := 11, cells := 0, slots := 0, locals := 265 } (va_Pc [.ref (o 0)] (PZ D y ad av (WM y o σ) sz)) (QZi D (WM y o σ) v (WM y o σ2) sz) 0 0 (va_A (WM y o σ) sz) := by
  refine met_i (by decide) (Nat.le_of_ble_eq_true rfl) ?_
  intro p e R s m args below meth c Q A ls hx hb hml hta hown hRc hRs hRf hRl hN hK hV hA hret hC hl
  have hl : lv_has ls 2 [(0, .ref (o 0))] := hl
  unfold f_X12_isText at hf
  refine lv_aload_n hx hb dX12_isText_0 rfl (lv_at hl 0 rfl) ?_
  refine lv_iconst (v := 0) hx hb dX12_isText_1 (by decide) ?_
  obtain ⟨s_1, e_1, hf⟩ := lt_inv hf
  refine pt_X12_188_m hx hb hta hown hK hC e_1 dX12_isText_2 (fun H locs hC => ?_)
  refine lv_aload_n hx hb dX12_isText_5 rfl (lv_at hl 0 rfl) ?_
  refine lv_iconst (v := 0) hx hb dX12_isText_6 (by decide) ?_
  obtain ⟨s_2, e_2, hf⟩ := lt_inv hf
  refine pt_X12_216_m hx hb hta hown hK hC e_2 dX12_isText_7 (fun H locs hC => ?_)
  refine lv_aload_n hx hb dX12_isText_10 rfl (lv_at hl 0 rfl) ?_
  refine lv_iconst (v := 0) hx hb dX12_isText_11 (by decide) ?_
  obtain ⟨s_3, e_3, hf⟩ := lt_inv hf
  refine pt_X12_230_m hx hb hta hown hK hC e_3 dX12_isText_12 (fun H locs hC => ?_)
  refine lv_aload_n hx hb dX12_isText_15 rfl (lv_at hl 0 rfl) ?_
  obtain ⟨v_4, s_4, hc_4, hf⟩ := calv_inv hf
  refine cc_Vi (r_X12_look (D := D) (y := y) (o := o) (ad := ad) (av := av) hc_4 l) hx hb hml hta hown hK hN hV hA hC hRc hRs (by omega) (by omega) wq_1032 (q := 0) (ci := 12) rfl rfl wq_1033 wq_1034 wq_1012 wq_1026 hd_X12_look (As := []) (rest := []) rfl rfl hl.1 rfl dX12_isText_16 (fun H locs hC => ?_)
  refine lv_istore_n (lv' := [(1, .int v_4), (0, .ref (o 0))]) hx hb dX12_isText_19 rfl hl (by decide) rfl (fun ls hl => ?_)
  refine itr_inv2 (P := fun (x1_5 : Int32) (s_5 : Sto) => ∀ (H : Heap) (locs : List Loc) (ls : Array Slot), CZ D A s H locs (WM y o s_5) → lv_has ls 2 [(0, .ref (o 0)), (1, .int x1_5)] → W p l e R s m args below meth c H locs 0 0 Q (F0 m 20 ls [])) hf ?_ _ _ _ hC (lv_sub hl [1, 0] rfl)
  intro a_20 x1_5 s_5 ha_20 hf H locs ls hC hl
  refine lv_iload_n hx hb dX12_isText_20 rfl (lv_at hl 1 rfl) ?_
  refine lv_iconst (v := (-1)) hx hb dX12_isText_21 (by decide) ?_
  obtain ⟨k_49, hk_49, hf⟩ := jn_inv0 hf
  have hj_49 : ∀  (H : Heap) (locs : List Loc) (ls : Array Slot), k_49 = some (v, σ2) → CZ D A s H locs (WM y o s_5) → lv_has ls 2 [(0, .ref (o 0)), (1, .int x1_5)] → W p l e R s m args below meth c H locs 0 0 Q (F0 m 49 ls []) := by
    intro H locs ls hf hC hl
    have hf := hk_49 hf
    refine lv_aload_n hx hb dX12_isText_49 rfl (lv_at hl 0 rfl) ?_
    refine gt_X12_216_m hx hb hta hown hK hC dX12_isText_50 ?_
    refine lv_if_ne (tgt := 58) hx hb dX12_isText_53 (by decide) (fun c_7 => ?_) (fun c_7 => ?_)
    · have hf := it_f c_7 hf
      refine itr_inv2 (P := fun (x1_8 : Int32) (s_8 : Sto) => ∀ (H : Heap) (locs : List Loc) (ls : Array Slot), CZ D A s H locs (WM y o s_8) → lv_has ls 2 [(0, .ref (o 0)), (1, .int x1_8)] → W p l e R s m args below meth c H locs 0 0 Q (F0 m 58 ls [])) hf ?_ _ _ _ hC hl
      intro a_58 x1_8 s_8 ha_58 hf H locs ls hC hl
      refine lv_iload_n hx hb dX12_isText_58 rfl (lv_at hl 1 rfl) ?_
      refine lv_bipush (v := 104) hx hb dX12_isText_59 (by decide) ?_
      refine lv_icmp_ne (tgt := 81) hx hb dX12_isText_61 (by decide) (fun c_9 => ?_) (fun c_9 => ?_)
      · have hf := it_f c_9 hf
        refine lv_iload_n hx hb dX12_isText_81 rfl (lv_at hl 1 rfl) ?_
        refine lv_iconst (v := (-1)) hx hb dX12_isText_82 (by decide) ?_
        refine lv_icmp_ne (tgt := 90) hx hb dX12_isText_83 (by decide) (fun c_13 => ?_) (fun c_13 => ?_)
        · have hf := it_f c_13 hf
          refine lv_iconst (v := 0) hx hb dX12_isText_90 (by decide) ?_
          exact hret _ _ _ _ _ _ (rv_inv hf).1 (congrArg (WM y o) (rv_inv hf).2) rfl dX12_isText_91 hC
        · have hf := it_t c_13 hf
          refine lv_iconst (v := 1) hx hb dX12_isText_86 (by decide) ?_
          refine lv_goto (tgt := 91) hx hb dX12_isText_87 (by decide) ?_
          exact hret _ _ _ _ _ _ (rv_inv hf).1 (congrArg (WM y o) (rv_inv hf).2) rfl dX12_isText_91 hC
      · have hf := it_t c_9 hf
        refine lv_aload_n hx hb dX12_isText_64 rfl (lv_at hl 0 rfl) ?_
        obtain ⟨v_10, s_10, hc_10, hf⟩ := calv_inv hf
        refine cc_Vi (r_X12_handler (D := D) (y := y) (o := o) (ad := ad) (av := av) hc_10 l) hx hb hml hta hown hK hN hV hA hC hRc hRs (by omega) (by omega) wq_1064 (q := 0) (ci := 12) rfl rfl wq_1065 wq_1066 wq_1012 wq_1060 hd_X12_handler (As := []) (rest := []) rfl rfl hl.1 rfl dX12_isText_65 (fun H locs hC => ?_)
        refine lv_if_ne (tgt := 73) hx hb dX12_isText_68 (by decide) (fun c_11 => ?_) (fun c_11 => ?_)
        · have hf := it_f c_11 hf
          refine lv_aload_n hx hb dX12_isText_73 rfl (lv_at hl 0 rfl) ?_
          obtain ⟨v_12, s_12, hc_12, hf⟩ := calv_inv hf
          refine cc_Vi (r_X12_look (D := D) (y := y) (o := o) (ad := ad) (av := av) hc_12 l) hx hb hml hta hown hK hN hV hA hC hRc hRs (by omega) (by omega) wq_1032 (q := 0) (ci := 12) rfl rfl wq_1033 wq_1034 wq_1012 wq_1026 hd_X12_look (As := []) (rest := []) rfl rfl hl.1 rfl dX12_isText_74 (fun H locs hC => ?_)
          refine lv_istore_n (lv' := [(1, .int v_12), (0, .ref (o 0))]) hx hb dX12_isText_77 rfl hl (by decide) rfl (fun ls hl => ?_)
          refine lv_goto (tgt := 58) hx hb dX12_isText_78 (by decide) ?_
          exact ha_58 _ _ hf _ _ _ hC (lv_sub hl [1, 0] rfl)
        · have hf := it_t c_11 hf
          refine lv_iconst (v := 0) hx hb dX12_isText_71 (by decide) ?_
          exact hret _ _ _ _ _ _ (rv_inv hf).1 (congrArg (WM y o) (rv_inv hf).2) rfl dX12_isText_72 hC
    · have hf := it_t c_7 hf
      refine lv_iconst (v := 0) hx hb dX12_isText_56 (by decide) ?_
      exact hret _ _ _ _ _ _ (rv_inv hf).1 (congrArg (WM y o) (rv_inv hf).2) rfl dX12_isText_57 hC
  refine lv_icmp_eq (tgt := 49) hx hb dX12_isText_22 (by decide) (fun c_14 => ?_) (fun c_14 => ?_)
  · have hf := it_t c_14 hf
    exact hj_49 _ _ _ hf hC hl
  · have hf := it_f c_14 hf
    refine lv_iload_n hx hb dX12_isText_25 rfl (lv_at hl 1 rfl) ?_
    refine lv_bipush (v := 104) hx hb dX12_isText_26 (by decide) ?_
    refine lv_icmp_eq (tgt := 49) hx hb dX12_isText_28 (by decide) (fun c_15 => ?_) (fun c_15 => ?_)
    · have hf := it_t c_15 hf
      exact hj_49 _ _ _ hf hC hl
    · have hf := it_f c_15 hf
      refine lv_aload_n hx hb dX12_isText_31 rfl (lv_at hl 0 rfl) ?_
      refine lv_iload_n hx hb dX12_isText_32 rfl (lv_at hl 1 rfl) ?_
      obtain ⟨v_16, s_16, hc_16, hf⟩ := calv_inv hf
      refine cc_Vi (r_X12_instruction (D := D) (y := y) (o := o) (ad := ad) (av := av) hc_16 l) hx hb hml hta hown hK hN hV hA hC hRc hRs (by omega) (by omega) wq_1061 (q := 0) (ci := 12) rfl rfl wq_1062 wq_1063 wq_1012 wq_1055 hd_X12_instruction (As := [.int x1_5]) (rest := []) rfl rfl hl.1 rfl dX12_isText_33 (fun H locs hC => ?_)
      refine lv_if_ne (tgt := 41) hx hb dX12_isText_36 (by decide) (fun c_17 => ?_) (fun c_17 => ?_)
      · have hf := it_f c_17 hf
        refine lv_aload_n hx hb dX12_isText_41 rfl (lv_at hl 0 rfl) ?_
        obtain ⟨v_18, s_18, hc_18, hf⟩ := calv_inv hf
        refine cc_Vi (r_X12_look (D := D) (y := y) (o := o) (ad := ad) (av := av) hc_18 l) hx hb hml hta hown hK hN hV hA hC hRc hRs (by omega) (by omega) wq_1032 (q := 0) (ci := 12) rfl rfl wq_1033 wq_1034 wq_1012 wq_1026 hd_X12_look (As := []) (rest := []) rfl rfl hl.1 rfl dX12_isText_42 (fun H locs hC => ?_)
        refine lv_istore_n (lv' := [(1, .int v_18), (0, .ref (o 0))]) hx hb dX12_isText_45 rfl hl (by decide) rfl (fun ls hl => ?_)
        refine lv_goto (tgt := 20) hx hb dX12_isText_46 (by decide) ?_
        exact ha_20 _ _ hf _ _ _ hC (lv_sub hl [1, 0] rfl)
      · have hf := it_t c_17 hf
        refine lv_iconst (v := 0) hx hb dX12_isText_39 (by decide) ?_
        exact hret _ _ _ _ _ _ (rv_inv hf).1 (congrArg (WM y o) (rv_inv hf).2) rfl dX12_isText_40 hC

set_option maxHeartbeats 8000000 in
set_option maxRecDepth 100000 in
theorem r_X12_fault {D : va_G} {y : Nat → ClassId} {o : Nat → Nat} {ad av : Nat → Nat} {σ : Sto} {σ2 : Sto} {v : Int32} (hf : f_X12_fault σ = some (v, σ2)) (l : Launch) (sz : Nat) : Met l yX12_fault (Cond.code yX12_fault cX12_fault 1 (some .int) :: ALW) { frames := 12, cells := 0, slots := 0, locals := 286 } (va_Pc [.ref (o 0)] (PZ D y ad av (WM y o σ) sz)) (QZi D (WM y o σ) v (WM y o σ2) sz) 0 0 (va_A (WM y o σ) sz) := by
  refine met_i (by decide) (Nat.le_of_ble_eq_true rfl) ?_
  intro p e R s m args below meth c Q A ls hx hb hml hta hown hRc hRs hRf hRl hN hK hV hA hret hC hl
  have hl : lv_has ls 1 [(0, .ref (o 0))] := hl
  unfold f_X12_fault at hf
  refine lv_aload_n hx hb dX12_fault_0 rfl (lv_at hl 0 rfl) ?_
  refine lv_iconst (v := 0) hx hb dX12_fault_1 (by decide) ?_
  obtain ⟨s_1, e_1, hf⟩ := lt_inv hf
  refine pt_X12_169_m hx hb hta hown hK hC e_1 dX12_fault_2 (fun H locs hC => ?_)
  refine lv_aload_n hx hb dX12_fault_5 rfl (lv_at hl 0 rfl) ?_
  obtain ⟨v_2, s_2, hc_2, hf⟩ := calv_inv hf
  refine cc_Vi (r_X12_isText (D := D) (y := y) (o := o) (ad := ad) (av := av) hc_2 l) hx hb hml hta hown hK hN hV hA hC hRc hRs (by omega) (by omega) wq_1068 (q := 0) (ci := 12) rfl rfl wq_1069 wq_1070 wq_1012 wq_1067 hd_X12_isText (As := []) (rest := []) rfl rfl hl.1 rfl dX12_fault_6 (fun H locs hC => ?_)
  refine lv_if_eq (tgt := 16) hx hb dX12_fault_9 (by decide) (fun c_3 => ?_) (fun c_3 => ?_)
  · have hf := it_t c_3 hf
    refine lv_aload_n hx hb dX12_fault_16 rfl (lv_at hl 0 rfl) ?_
    refine gt_X12_188_m hx hb hta hown hK hC dX12_fault_17 ?_
    exact hret _ _ _ _ _ _ (rv_inv hf).1 (congrArg (WM y o) (rv_inv hf).2) rfl dX12_fault_20 hC
  · have hf := it_f c_3 hf
    refine lv_iconst (v := (-1)) hx hb dX12_fault_12 (by decide) ?_
    refine lv_goto (tgt := 20) hx hb dX12_fault_13 (by decide) ?_
    exact hret _ _ _ _ _ _ (rv_inv hf).1 (congrArg (WM y o) (rv_inv hf).2) rfl dX12_fault_20 hC

set_option maxHeartbeats 8000000 in
set_option maxRecDepth 100000 in
theorem r_X12_tries_signRead_numberRead_handlerRead {D : va_G} {y : Nat → ClassId} {o : Nat → Nat} {ad av : Nat → Nat} {x3 : Int32} {x5 : Int32} {σ : Sto} {σ2 : Sto} (hf : f_X12_tries_signRead_numberRead_handlerRead x3 x5 σ = some σ2) (l : Launch) (sz : Nat) : Met l yX12_tries (Cond.code yX12_tries cX12_tries 7 none :: ALW) { frames := 0, cells := 0, slots := 0, locals := 0 } (va_Pc [.ref (o 0), .ref (o 2), .ref (o 3), .int x3, .ref (o 4), .int x5] (PZ D y ad av (WM y o σ) sz)) (QZv D (WM y o σ) (WM y o σ2) sz) 0 0 (va_A (WM y o σ) sz) := by
  refine met_v (by decide) (Nat.le_of_ble_eq_true rfl) ?_
  intro p e R s m args below meth c Q A ls hx hb hml hta hown hRc hRs hRf hRl hN hK hV hA hret hC hl
  have hl : lv_has ls 7 [(0, .ref (o 0)), (1, .ref (o 2)), (2, .ref (o 3)), (3, .int x3), (4, .ref (o 4)), (5, .int x5)] := hl
  unfold f_X12_tries_signRead_numberRead_handlerRead at hf
  refine lv_iconst (v := 0) hx hb dX12_tries_0 (by decide) ?_
  refine lv_istore (lv' := [(6, .int 0), (0, .ref (o 0)), (1, .ref (o 2)), (2, .ref (o 3)), (3, .int x3), (4, .ref (o 4)), (5, .int x5)]) hx hb dX12_tries_1 hl (by decide) rfl (fun ls hl => ?_)
  refine itr_inv2 (P := fun (x6_1 : Int32) (s_1 : Sto) => ∀ (H : Heap) (locs : List Loc) (ls : Array Slot), CZ D A s H locs (WM y o s_1) → lv_has ls 7 [(0, .ref (o 0)), (1, .ref (o 2)), (2, .ref (o 3)), (3, .int x3), (4, .ref (o 4)), (5, .int x5), (6, .int x6_1)] → W p l e R s m args below meth c H locs 0 0 Q (F0 m 3 ls [])) hf ?_ _ _ _ hC (lv_sub hl [1, 2, 3, 4, 5, 6, 0] rfl)
  intro a_3 x6_1 s_1 ha_3 hf H locs ls hC hl
  refine lv_iload hx hb dX12_tries_3 (lv_at hl 6 rfl) ?_
  refine lv_bipush (v := 40) hx hb dX12_tries_5 (by decide) ?_
  refine lv_icmp_ge (tgt := 38) hx hb dX12_tries_7 (by decide) (fun c_2 => ?_) (fun c_2 => ?_)
  · have hf := it_t c_2 hf
    refine lv_iconst (v := 0) hx hb dX12_tries_38 (by decide) ?_
    refine lv_istore (lv' := [(6, .int 0), (0, .ref (o 0)), (1, .ref (o 2)), (2, .ref (o 3)), (3, .int x3), (4, .ref (o 4)), (5, .int x5)]) hx hb dX12_tries_39 hl (by decide) rfl (fun ls hl => ?_)
    refine itr_inv2 (P := fun (x6_3 : Int32) (s_3 : Sto) => ∀ (H : Heap) (locs : List Loc) (ls : Array Slot), CZ D A s H locs (WM y o s_3) → lv_has ls 7 [(0, .ref (o 0)), (3, .int x3), (4, .ref (o 4)), (5, .int x5), (6, .int x6_3)] → W p l e R s m args below meth c H locs 0 0 Q (F0 m 41 ls [])) hf ?_ _ _ _ hC (lv_sub hl [1, 4, 5, 6, 0] rfl)
    intro a_41 x6_3 s_3 ha_41 hf H locs ls hC hl
    refine lv_iload hx hb dX12_tries_41 (lv_at hl 4 rfl) ?_
    refine lv_bipush (v := 9) hx hb dX12_tries_43 (by decide) ?_
    refine lv_icmp_ge (tgt := 66) hx hb dX12_tries_45 (by decide) (fun c_4 => ?_) (fun c_4 => ?_)
    · have hf := it_t c_4 hf
      refine lv_aload_n hx hb dX12_tries_66 rfl (lv_at hl 0 rfl) ?_
      refine lv_iload_n hx hb dX12_tries_67 rfl (lv_at hl 1 rfl) ?_
      obtain ⟨s_5, e_5, hf⟩ := lt_inv hf
      refine pt_X12_254_m hx hb hta hown hK hC e_5 dX12_tries_68 (fun H locs hC => ?_)
      refine lv_aload_n hx hb dX12_tries_71 rfl (lv_at hl 0 rfl) ?_
      refine lv_iload hx hb dX12_tries_72 (lv_at hl 3 rfl) ?_
      obtain ⟨s_6, e_6, hf⟩ := lt_inv hf
      refine pt_X12_260_m hx hb hta hown hK hC e_6 dX12_tries_74 (fun H locs hC => ?_)
      exact hret _ _ _ _ _ (congrArg (WM y o) (Option.some.inj hf)) dX12_tries_77 hC
    · have hf := it_f c_4 hf
      refine lv_aload_n hx hb dX12_tries_48 rfl (lv_at hl 0 rfl) ?_
      refine gt_X12_38_m hx hb hta hown hK hC dX12_tries_49 ?_
      refine lv_iload hx hb dX12_tries_52 (lv_at hl 4 rfl) ?_
      refine lv_aload hx hb dX12_tries_54 (lv_at hl 2 rfl) ?_
      refine lv_iload hx hb dX12_tries_56 (lv_at hl 4 rfl) ?_
      obtain ⟨hi_7, hf⟩ := ix_inv hf
      obtain ⟨v_7, e_7, hf⟩ := lt_inv hf
      refine al_M_4 hx hb hK hC hi_7 e_7 dX12_tries_58 ?_
      obtain ⟨hi_8, hf⟩ := ix_inv hf
      obtain ⟨s_8, e_8, hf⟩ := lt_inv hf
      refine as_M_10 hx hb hK hC hi_8 e_8 dX12_tries_59 (fun H locs hC => ?_)
      obtain ⟨x6_9, e_9, hf⟩ := lt_inv hf
      refine lv_iinc (v := x6_9) (lv' := [(6, .int x6_9), (0, .ref (o 0)), (3, .int x3), (4, .ref (o 4)), (5, .int x5)]) hx hb dX12_tries_60 hl (k := 4) rfl e_9.symm (by decide) rfl (fun ls hl => ?_)
      refine lv_goto (tgt := 41) hx hb dX12_tries_63 (by decide) ?_
      exact ha_41 _ _ hf _ _ _ hC (lv_sub hl [1, 2, 3, 4, 0] rfl)
  · have hf := it_f c_2 hf
    refine lv_aload_n hx hb dX12_tries_10 rfl (lv_at hl 0 rfl) ?_
    refine gt_X12_32_m hx hb hta hown hK hC dX12_tries_11 ?_
    refine lv_iload hx hb dX12_tries_14 (lv_at hl 6 rfl) ?_
    refine lv_aload_n hx hb dX12_tries_16 rfl (lv_at hl 1 rfl) ?_
    refine lv_iload hx hb dX12_tries_17 (lv_at hl 6 rfl) ?_
    obtain ⟨hi_10, hf⟩ := ix_inv hf
    obtain ⟨v_10, e_10, hf⟩ := lt_inv hf
    refine al_M_2 hx hb hK hC hi_10 e_10 dX12_tries_19 ?_
    obtain ⟨hi_11, hf⟩ := ix_inv hf
    obtain ⟨s_11, e_11, hf⟩ := lt_inv hf
    refine as_M_8 hx hb hK hC hi_11 e_11 dX12_tries_20 (fun H locs hC => ?_)
    refine lv_aload_n hx hb dX12_tries_21 rfl (lv_at hl 0 rfl) ?_
    refine gt_X12_35_m hx hb hta hown hK hC dX12_tries_22 ?_
    refine lv_iload hx hb dX12_tries_25 (lv_at hl 6 rfl) ?_
    refine lv_aload_n hx hb dX12_tries_27 rfl (lv_at hl 2 rfl) ?_
    refine lv_iload hx hb dX12_tries_28 (lv_at hl 6 rfl) ?_
    obtain ⟨hi_12, hf⟩ := ix_inv hf
    obtain ⟨v_12, e_12, hf⟩ := lt_inv hf
    refine al_M_3 hx hb hK hC hi_12 e_12 dX12_tries_30 ?_
    obtain ⟨hi_13, hf⟩ := ix_inv hf
    obtain ⟨s_13, e_13, hf⟩ := lt_inv hf
    refine as_M_9 hx hb hK hC hi_13 e_13 dX12_tries_31 (fun H locs hC => ?_)
    obtain ⟨x6_14, e_14, hf⟩ := lt_inv hf
    refine lv_iinc (v := x6_14) (lv' := [(6, .int x6_14), (0, .ref (o 0)), (1, .ref (o 2)), (2, .ref (o 3)), (3, .int x3), (4, .ref (o 4)), (5, .int x5)]) hx hb dX12_tries_32 hl (k := 6) rfl e_14.symm (by decide) rfl (fun ls hl => ?_)
    refine lv_goto (tgt := 3) hx hb dX12_tries_35 (by decide) ?_
    exact ha_3 _ _ hf _ _ _ hC (lv_sub hl [1, 2, 3, 4, 5, 6, 0] rfl)

set_option maxHeartbeats 8000000 in
set_option maxRecDepth 100000 in
theorem r_X12_isOneOf_s102 {D : va_G} {y : Nat → ClassId} {ad av : Nat → Nat} {w : va_W} {x1 : Int32} {v : Int32} (hf : f_X12_isOneOf_s102 x1 = some v) (l : Launch) (sz : Nat) : Met l yX12_isOneOf (Cond.code yX12_isOneOf cX12_isOneOf 3 (some .boolean) :: ALW) { frames := 8, cells := 0, slots := 0, locals := 200 } (va_Pc [.int x1, .ref (ad 102)] (PZ D y ad av (w) sz)) (QZi D (w) v (w) sz) 0 0 (va_A (w) sz) := by
  refine met_i (by decide) (Nat.le_of_ble_eq_true rfl) ?_
  intro p e R s m args below meth c Q A ls hx hb hml hta hown hRc hRs hRf hRl hN hK hV hA hret hC hl
  have hl : lv_has ls 3 [(0, .int x1), (1, .ref (ad 102))] := hl
  unfold f_X12_isOneOf_s102 at hf
  refine lv_iconst (v := 0) hx hb dX12_isOneOf_0 (by decide) ?_
  refine lv_istore_n (lv' := [(2, .int 0), (0, .int x1), (1, .ref (ad 102))]) hx hb dX12_isOneOf_1 rfl hl (by decide) rfl (fun ls hl => ?_)
  refine itr_inv1 (P := fun (x2_1 : Int32) => ∀ (H : Heap) (locs : List Loc) (ls : Array Slot), CZ D A s H locs w → lv_has ls 3 [(0, .int x1), (1, .ref (ad 102)), (2, .int x2_1)] → W p l e R s m args below meth c H locs 0 0 Q (F0 m 2 ls [])) hf ?_ _ _ _ hC (lv_sub hl [1, 2, 0] rfl)
  intro a_2 x2_1 ha_2 hf H locs ls hC hl
  refine lv_iload_n hx hb dX12_isOneOf_2 rfl (lv_at hl 2 rfl) ?_
  refine lv_aload_n hx hb dX12_isOneOf_3 rfl (lv_at hl 1 rfl) ?_
  refine cc_length hx hb hml hta hown hK hN hV hA hC hRc hRs (by omega) (by omega) wq_1039 (i := 102) (n := 8) (by decide) (by decide) (by decide) hl.1 rfl dX12_isOneOf_4 (fun H locs hC => ?_)
  refine lv_icmp_ge (tgt := 27) hx hb dX12_isOneOf_7 (by decide) (fun c_2 => ?_) (fun c_2 => ?_)
  · have hf := it_t c_2 hf
    refine lv_iconst (v := 0) hx hb dX12_isOneOf_27 (by decide) ?_
    exact hret _ _ _ _ _ _ (Option.some.inj hf) rfl rfl dX12_isOneOf_28 hC
  · have hf := it_f c_2 hf
    refine lv_aload_n hx hb dX12_isOneOf_10 rfl (lv_at hl 1 rfl) ?_
    refine lv_iload_n hx hb dX12_isOneOf_11 rfl (lv_at hl 2 rfl) ?_
    obtain ⟨hi_3, hf⟩ := ix_inv hf
    obtain ⟨v_3, e_3, hf⟩ := lt_inv hf
    refine cc_charAt hx hb hml hta hown hK hN hV hA hC hRc hRs (by omega) (by omega) wq_1040 (i := 102) (n := 8) (by decide) (by decide) (by decide) hi_3 e_3 hl.1 rfl dX12_isOneOf_12 (fun H locs hC => ?_)
    refine lv_iload_n hx hb dX12_isOneOf_15 rfl (lv_at hl 0 rfl) ?_
    refine lv_icmp_ne (tgt := 21) hx hb dX12_isOneOf_16 (by decide) (fun c_4 => ?_) (fun c_4 => ?_)
    · have hf := it_f c_4 hf
      obtain ⟨x2_5, e_5, hf⟩ := lt_inv hf
      refine lv_iinc (v := x2_5) (lv' := [(2, .int x2_5), (0, .int x1), (1, .ref (ad 102))]) hx hb dX12_isOneOf_21 hl (k := 2) rfl e_5.symm (by decide) rfl (fun ls hl => ?_)
      refine lv_goto (tgt := 2) hx hb dX12_isOneOf_24 (by decide) ?_
      exact ha_2 _ hf _ _ _ hC (lv_sub hl [1, 2, 0] rfl)
    · have hf := it_t c_4 hf
      refine lv_iconst (v := 1) hx hb dX12_isOneOf_19 (by decide) ?_
      exact hret _ _ _ _ _ _ (Option.some.inj hf) rfl rfl dX12_isOneOf_20 hC

set_option maxHeartbeats 8000000 in
set_option maxRecDepth 100000 in
theorem r_X12_isOneOf_s103 {D : va_G} {y : Nat → ClassId} {ad av : Nat → Nat} {w : va_W} {x1 : Int32} {v : Int32} (hf : f_X12_isOneOf_s103 x1 = some v) (l : Launch) (sz : Nat) : Met l yX12_isOneOf (Cond.code yX12_isOneOf cX12_isOneOf 3 (some .boolean) :: ALW) { frames := 8, cells := 0, slots := 0, locals := 200 } (va_Pc [.int x1, .ref (ad 103)] (PZ D y ad av (w) sz)) (QZi D (w) v (w) sz) 0 0 (va_A (w) sz) := by
  refine met_i (by decide) (Nat.le_of_ble_eq_true rfl) ?_
  intro p e R s m args below meth c Q A ls hx hb hml hta hown hRc hRs hRf hRl hN hK hV hA hret hC hl
  have hl : lv_has ls 3 [(0, .int x1), (1, .ref (ad 103))] := hl
  unfold f_X12_isOneOf_s103 at hf
  refine lv_iconst (v := 0) hx hb dX12_isOneOf_0 (by decide) ?_
  refine lv_istore_n (lv' := [(2, .int 0), (0, .int x1), (1, .ref (ad 103))]) hx hb dX12_isOneOf_1 rfl hl (by decide) rfl (fun ls hl => ?_)
  refine itr_inv1 (P := fun (x2_1 : Int32) => ∀ (H : Heap) (locs : List Loc) (ls : Array Slot), CZ D A s H locs w → lv_has ls 3 [(0, .int x1), (1, .ref (ad 103)), (2, .int x2_1)] → W p l e R s m args below meth c H locs 0 0 Q (F0 m 2 ls [])) hf ?_ _ _ _ hC (lv_sub hl [1, 2, 0] rfl)
  intro a_2 x2_1 ha_2 hf H locs ls hC hl
  refine lv_iload_n hx hb dX12_isOneOf_2 rfl (lv_at hl 2 rfl) ?_
  refine lv_aload_n hx hb dX12_isOneOf_3 rfl (lv_at hl 1 rfl) ?_
  refine cc_length hx hb hml hta hown hK hN hV hA hC hRc hRs (by omega) (by omega) wq_1039 (i := 103) (n := 8) (by decide) (by decide) (by decide) hl.1 rfl dX12_isOneOf_4 (fun H locs hC => ?_)
  refine lv_icmp_ge (tgt := 27) hx hb dX12_isOneOf_7 (by decide) (fun c_2 => ?_) (fun c_2 => ?_)
  · have hf := it_t c_2 hf
    refine lv_iconst (v := 0) hx hb dX12_isOneOf_27 (by decide) ?_
    exact hret _ _ _ _ _ _ (Option.some.inj hf) rfl rfl dX12_isOneOf_28 hC
  · have hf := it_f c_2 hf
    refine lv_aload_n hx hb dX12_isOneOf_10 rfl (lv_at hl 1 rfl) ?_
    refine lv_iload_n hx hb dX12_isOneOf_11 rfl (lv_at hl 2 rfl) ?_
    obtain ⟨hi_3, hf⟩ := ix_inv hf
    obtain ⟨v_3, e_3, hf⟩ := lt_inv hf
    refine cc_charAt hx hb hml hta hown hK hN hV hA hC hRc hRs (by omega) (by omega) wq_1040 (i := 103) (n := 8) (by decide) (by decide) (by decide) hi_3 e_3 hl.1 rfl dX12_isOneOf_12 (fun H locs hC => ?_)
    refine lv_iload_n hx hb dX12_isOneOf_15 rfl (lv_at hl 0 rfl) ?_
    refine lv_icmp_ne (tgt := 21) hx hb dX12_isOneOf_16 (by decide) (fun c_4 => ?_) (fun c_4 => ?_)
    · have hf := it_f c_4 hf
      obtain ⟨x2_5, e_5, hf⟩ := lt_inv hf
      refine lv_iinc (v := x2_5) (lv' := [(2, .int x2_5), (0, .int x1), (1, .ref (ad 103))]) hx hb dX12_isOneOf_21 hl (k := 2) rfl e_5.symm (by decide) rfl (fun ls hl => ?_)
      refine lv_goto (tgt := 2) hx hb dX12_isOneOf_24 (by decide) ?_
      exact ha_2 _ hf _ _ _ hC (lv_sub hl [1, 2, 0] rfl)
    · have hf := it_t c_4 hf
      refine lv_iconst (v := 1) hx hb dX12_isOneOf_19 (by decide) ?_
      exact hret _ _ _ _ _ _ (Option.some.inj hf) rfl rfl dX12_isOneOf_20 hC

set_option maxHeartbeats 8000000 in
set_option maxRecDepth 100000 in
theorem r_X12_pops {D : va_G} {y : Nat → ClassId} {ad av : Nat → Nat} {w : va_W} {x1 : Int32} {v : Int32} (hf : f_X12_pops x1 = some v) (l : Launch) (sz : Nat) : Met l yX12_pops (Cond.code yX12_pops cX12_pops 1 (some .int) :: ALW) { frames := 9, cells := 0, slots := 0, locals := 222 } (va_Pc [.int x1] (PZ D y ad av (w) sz)) (QZi D (w) v (w) sz) 0 0 (va_A (w) sz) := by
  refine met_i (by decide) (Nat.le_of_ble_eq_true rfl) ?_
  intro p e R s m args below meth c Q A ls hx hb hml hta hown hRc hRs hRf hRl hN hK hV hA hret hC hl
  have hl : lv_has ls 1 [(0, .int x1)] := hl
  unfold f_X12_pops at hf
  refine lv_iload_n hx hb dX12_pops_0 rfl (lv_at hl 0 rfl) ?_
  refine va_ldcS hx hb hown (ss_Rm hV 2 rfl) dX12_pops_1 ?_
  obtain ⟨v_1, hc_1, hf⟩ := calp_inv hf
  refine cc_Si (r_X12_isOneOf_s102 (D := D) (y := y) (w := w) (ad := ad) (av := av) hc_1 l) hx hb hml hta hown hK hN hV hA hC hRc hRs (by omega) (by omega) wq_1042 wq_1043 wq_1012 wq_1041 hd_X12_isOneOf (As := [.int x1, .ref (ad 102)]) (rest := []) rfl rfl hl.1 rfl dX12_pops_3 (fun H locs hC => ?_)
  refine lv_if_eq (tgt := 11) hx hb dX12_pops_6 (by decide) (fun c_2 => ?_) (fun c_2 => ?_)
  · have hf := it_t c_2 hf
    refine lv_iload_n hx hb dX12_pops_11 rfl (lv_at hl 0 rfl) ?_
    refine va_ldcS hx hb hown (ss_Rm hV 3 rfl) dX12_pops_12 ?_
    obtain ⟨v_3, hc_3, hf⟩ := calp_inv hf
    refine cc_Si (r_X12_isOneOf_s103 (D := D) (y := y) (w := w) (ad := ad) (av := av) hc_3 l) hx hb hml hta hown hK hN hV hA hC hRc hRs (by omega) (by omega) wq_1042 wq_1043 wq_1012 wq_1041 hd_X12_isOneOf (As := [.int x1, .ref (ad 103)]) (rest := []) rfl rfl hl.1 rfl dX12_pops_14 (fun H locs hC => ?_)
    refine lv_if_eq (tgt := 24) hx hb dX12_pops_17 (by decide) (fun c_4 => ?_) (fun c_4 => ?_)
    · have hf := it_t c_4 hf
      refine lv_iconst (v := 0) hx hb dX12_pops_24 (by decide) ?_
      exact hret _ _ _ _ _ _ (Option.some.inj hf) rfl rfl dX12_pops_25 hC
    · have hf := it_f c_4 hf
      refine lv_iconst (v := 1) hx hb dX12_pops_20 (by decide) ?_
      refine lv_goto (tgt := 25) hx hb dX12_pops_21 (by decide) ?_
      exact hret _ _ _ _ _ _ (Option.some.inj hf) rfl rfl dX12_pops_25 hC
  · have hf := it_f c_2 hf
    refine lv_iconst (v := 2) hx hb dX12_pops_9 (by decide) ?_
    exact hret _ _ _ _ _ _ (Option.some.inj hf) rfl rfl dX12_pops_10 hC

set_option maxHeartbeats 8000000 in
set_option maxRecDepth 100000 in
theorem r_X12_isOneOf_s104 {D : va_G} {y : Nat → ClassId} {ad av : Nat → Nat} {w : va_W} {x1 : Int32} {v : Int32} (hf : f_X12_isOneOf_s104 x1 = some v) (l : Launch) (sz : Nat) : Met l yX12_isOneOf (Cond.code yX12_isOneOf cX12_isOneOf 3 (some .boolean) :: ALW) { frames := 8, cells := 0, slots := 0, locals := 200 } (va_Pc [.int x1, .ref (ad 104)] (PZ D y ad av (w) sz)) (QZi D (w) v (w) sz) 0 0 (va_A (w) sz) := by
  refine met_i (by decide) (Nat.le_of_ble_eq_true rfl) ?_
  intro p e R s m args below meth c Q A ls hx hb hml hta hown hRc hRs hRf hRl hN hK hV hA hret hC hl
  have hl : lv_has ls 3 [(0, .int x1), (1, .ref (ad 104))] := hl
  unfold f_X12_isOneOf_s104 at hf
  refine lv_iconst (v := 0) hx hb dX12_isOneOf_0 (by decide) ?_
  refine lv_istore_n (lv' := [(2, .int 0), (0, .int x1), (1, .ref (ad 104))]) hx hb dX12_isOneOf_1 rfl hl (by decide) rfl (fun ls hl => ?_)
  refine itr_inv1 (P := fun (x2_1 : Int32) => ∀ (H : Heap) (locs : List Loc) (ls : Array Slot), CZ D A s H locs w → lv_has ls 3 [(0, .int x1), (1, .ref (ad 104)), (2, .int x2_1)] → W p l e R s m args below meth c H locs 0 0 Q (F0 m 2 ls [])) hf ?_ _ _ _ hC (lv_sub hl [1, 2, 0] rfl)
  intro a_2 x2_1 ha_2 hf H locs ls hC hl
  refine lv_iload_n hx hb dX12_isOneOf_2 rfl (lv_at hl 2 rfl) ?_
  refine lv_aload_n hx hb dX12_isOneOf_3 rfl (lv_at hl 1 rfl) ?_
  refine cc_length hx hb hml hta hown hK hN hV hA hC hRc hRs (by omega) (by omega) wq_1039 (i := 104) (n := 12) (by decide) (by decide) (by decide) hl.1 rfl dX12_isOneOf_4 (fun H locs hC => ?_)
  refine lv_icmp_ge (tgt := 27) hx hb dX12_isOneOf_7 (by decide) (fun c_2 => ?_) (fun c_2 => ?_)
  · have hf := it_t c_2 hf
    refine lv_iconst (v := 0) hx hb dX12_isOneOf_27 (by decide) ?_
    exact hret _ _ _ _ _ _ (Option.some.inj hf) rfl rfl dX12_isOneOf_28 hC
  · have hf := it_f c_2 hf
    refine lv_aload_n hx hb dX12_isOneOf_10 rfl (lv_at hl 1 rfl) ?_
    refine lv_iload_n hx hb dX12_isOneOf_11 rfl (lv_at hl 2 rfl) ?_
    obtain ⟨hi_3, hf⟩ := ix_inv hf
    obtain ⟨v_3, e_3, hf⟩ := lt_inv hf
    refine cc_charAt hx hb hml hta hown hK hN hV hA hC hRc hRs (by omega) (by omega) wq_1040 (i := 104) (n := 12) (by decide) (by decide) (by decide) hi_3 e_3 hl.1 rfl dX12_isOneOf_12 (fun H locs hC => ?_)
    refine lv_iload_n hx hb dX12_isOneOf_15 rfl (lv_at hl 0 rfl) ?_
    refine lv_icmp_ne (tgt := 21) hx hb dX12_isOneOf_16 (by decide) (fun c_4 => ?_) (fun c_4 => ?_)
    · have hf := it_f c_4 hf
      obtain ⟨x2_5, e_5, hf⟩ := lt_inv hf
      refine lv_iinc (v := x2_5) (lv' := [(2, .int x2_5), (0, .int x1), (1, .ref (ad 104))]) hx hb dX12_isOneOf_21 hl (k := 2) rfl e_5.symm (by decide) rfl (fun ls hl => ?_)
      refine lv_goto (tgt := 2) hx hb dX12_isOneOf_24 (by decide) ?_
      exact ha_2 _ hf _ _ _ hC (lv_sub hl [1, 2, 0] rfl)
    · have hf := it_t c_4 hf
      refine lv_iconst (v := 1) hx hb dX12_isOneOf_19 (by decide) ?_
      exact hret _ _ _ _ _ _ (Option.some.inj hf) rfl rfl dX12_isOneOf_20 hC

set_option maxHeartbeats 8000000 in
set_option maxRecDepth 100000 in
theorem r_X12_pushes {D : va_G} {y : Nat → ClassId} {ad av : Nat → Nat} {w : va_W} {x1 : Int32} {v : Int32} (hf : f_X12_pushes x1 = some v) (l : Launch) (sz : Nat) : Met l yX12_pushes (Cond.code yX12_pushes cX12_pushes 1 (some .int) :: ALW) { frames := 9, cells := 0, slots := 0, locals := 222 } (va_Pc [.int x1] (PZ D y ad av (w) sz)) (QZi D (w) v (w) sz) 0 0 (va_A (w) sz) := by
  refine met_i (by decide) (Nat.le_of_ble_eq_true rfl) ?_
  intro p e R s m args below meth c Q A ls hx hb hml hta hown hRc hRs hRf hRl hN hK hV hA hret hC hl
  have hl : lv_has ls 1 [(0, .int x1)] := hl
  unfold f_X12_pushes at hf
  refine lv_iload_n hx hb dX12_pushes_0 rfl (lv_at hl 0 rfl) ?_
  refine lv_bipush (v := 100) hx hb dX12_pushes_1 (by decide) ?_
  refine lv_icmp_eq (tgt := 12) hx hb dX12_pushes_3 (by decide) (fun c_1 => ?_) (fun c_1 => ?_)
  · have hf := it_t c_1 hf
    refine lv_iconst (v := 2) hx hb dX12_pushes_12 (by decide) ?_
    exact hret _ _ _ _ _ _ (Option.some.inj hf) rfl rfl dX12_pushes_13 hC
  · have hf := it_f c_1 hf
    refine lv_iload_n hx hb dX12_pushes_6 rfl (lv_at hl 0 rfl) ?_
    refine lv_bipush (v := 119) hx hb dX12_pushes_7 (by decide) ?_
    refine lv_icmp_ne (tgt := 14) hx hb dX12_pushes_9 (by decide) (fun c_2 => ?_) (fun c_2 => ?_)
    · have hf := it_f c_2 hf
      refine lv_iload_n hx hb dX12_pushes_14 rfl (lv_at hl 0 rfl) ?_
      refine va_ldcS hx hb hown (ss_Rm hV 4 rfl) dX12_pushes_15 ?_
      obtain ⟨v_3, hc_3, hf⟩ := calp_inv hf
      refine cc_Si (r_X12_isOneOf_s104 (D := D) (y := y) (w := w) (ad := ad) (av := av) hc_3 l) hx hb hml hta hown hK hN hV hA hC hRc hRs (by omega) (by omega) wq_1042 wq_1043 wq_1012 wq_1041 hd_X12_isOneOf (As := [.int x1, .ref (ad 104)]) (rest := []) rfl rfl hl.1 rfl dX12_pushes_17 (fun H locs hC => ?_)
      refine lv_if_eq (tgt := 27) hx hb dX12_pushes_20 (by decide) (fun c_4 => ?_) (fun c_4 => ?_)
      · have hf := it_t c_4 hf
        refine lv_iconst (v := 0) hx hb dX12_pushes_27 (by decide) ?_
        exact hret _ _ _ _ _ _ (Option.some.inj hf) rfl rfl dX12_pushes_28 hC
      · have hf := it_f c_4 hf
        refine lv_iconst (v := 1) hx hb dX12_pushes_23 (by decide) ?_
        refine lv_goto (tgt := 28) hx hb dX12_pushes_24 (by decide) ?_
        exact hret _ _ _ _ _ _ (Option.some.inj hf) rfl rfl dX12_pushes_28 hC
    · have hf := it_t c_2 hf
      refine lv_iconst (v := 2) hx hb dX12_pushes_12 (by decide) ?_
      exact hret _ _ _ _ _ _ (Option.some.inj hf) rfl rfl dX12_pushes_13 hC

set_option maxHeartbeats 8000000 in
set_option maxRecDepth 100000 in
theorem r_X12_isOneOf_s106 {D : va_G} {y : Nat → ClassId} {ad av : Nat → Nat} {w : va_W} {x1 : Int32} {v : Int32} (hf : f_X12_isOneOf_s106 x1 = some v) (l : Launch) (sz : Nat) : Met l yX12_isOneOf (Cond.code yX12_isOneOf cX12_isOneOf 3 (some .boolean) :: ALW) { frames := 8, cells := 0, slots := 0, locals := 200 } (va_Pc [.int x1, .ref (ad 106)] (PZ D y ad av (w) sz)) (QZi D (w) v (w) sz) 0 0 (va_A (w) sz) := by
  refine met_i (by decide) (Nat.le_of_ble_eq_true rfl) ?_
  intro p e R s m args below meth c Q A ls hx hb hml hta hown hRc hRs hRf hRl hN hK hV hA hret hC hl
  have hl : lv_has ls 3 [(0, .int x1), (1, .ref (ad 106))] := hl
  unfold f_X12_isOneOf_s106 at hf
  refine lv_iconst (v := 0) hx hb dX12_isOneOf_0 (by decide) ?_
  refine lv_istore_n (lv' := [(2, .int 0), (0, .int x1), (1, .ref (ad 106))]) hx hb dX12_isOneOf_1 rfl hl (by decide) rfl (fun ls hl => ?_)
  refine itr_inv1 (P := fun (x2_1 : Int32) => ∀ (H : Heap) (locs : List Loc) (ls : Array Slot), CZ D A s H locs w → lv_has ls 3 [(0, .int x1), (1, .ref (ad 106)), (2, .int x2_1)] → W p l e R s m args below meth c H locs 0 0 Q (F0 m 2 ls [])) hf ?_ _ _ _ hC (lv_sub hl [1, 2, 0] rfl)
  intro a_2 x2_1 ha_2 hf H locs ls hC hl
  refine lv_iload_n hx hb dX12_isOneOf_2 rfl (lv_at hl 2 rfl) ?_
  refine lv_aload_n hx hb dX12_isOneOf_3 rfl (lv_at hl 1 rfl) ?_
  refine cc_length hx hb hml hta hown hK hN hV hA hC hRc hRs (by omega) (by omega) wq_1039 (i := 106) (n := 3) (by decide) (by decide) (by decide) hl.1 rfl dX12_isOneOf_4 (fun H locs hC => ?_)
  refine lv_icmp_ge (tgt := 27) hx hb dX12_isOneOf_7 (by decide) (fun c_2 => ?_) (fun c_2 => ?_)
  · have hf := it_t c_2 hf
    refine lv_iconst (v := 0) hx hb dX12_isOneOf_27 (by decide) ?_
    exact hret _ _ _ _ _ _ (Option.some.inj hf) rfl rfl dX12_isOneOf_28 hC
  · have hf := it_f c_2 hf
    refine lv_aload_n hx hb dX12_isOneOf_10 rfl (lv_at hl 1 rfl) ?_
    refine lv_iload_n hx hb dX12_isOneOf_11 rfl (lv_at hl 2 rfl) ?_
    obtain ⟨hi_3, hf⟩ := ix_inv hf
    obtain ⟨v_3, e_3, hf⟩ := lt_inv hf
    refine cc_charAt hx hb hml hta hown hK hN hV hA hC hRc hRs (by omega) (by omega) wq_1040 (i := 106) (n := 3) (by decide) (by decide) (by decide) hi_3 e_3 hl.1 rfl dX12_isOneOf_12 (fun H locs hC => ?_)
    refine lv_iload_n hx hb dX12_isOneOf_15 rfl (lv_at hl 0 rfl) ?_
    refine lv_icmp_ne (tgt := 21) hx hb dX12_isOneOf_16 (by decide) (fun c_4 => ?_) (fun c_4 => ?_)
    · have hf := it_f c_4 hf
      obtain ⟨x2_5, e_5, hf⟩ := lt_inv hf
      refine lv_iinc (v := x2_5) (lv' := [(2, .int x2_5), (0, .int x1), (1, .ref (ad 106))]) hx hb dX12_isOneOf_21 hl (k := 2) rfl e_5.symm (by decide) rfl (fun ls hl => ?_)
      refine lv_goto (tgt := 2) hx hb dX12_isOneOf_24 (by decide) ?_
      exact ha_2 _ hf _ _ _ hC (lv_sub hl [1, 2, 0] rfl)
    · have hf := it_t c_4 hf
      refine lv_iconst (v := 1) hx hb dX12_isOneOf_19 (by decide) ?_
      exact hret _ _ _ _ _ _ (Option.some.inj hf) rfl rfl dX12_isOneOf_20 hC

set_option maxHeartbeats 8000000 in
set_option maxRecDepth 100000 in
theorem r_X12_goesOn {D : va_G} {y : Nat → ClassId} {ad av : Nat → Nat} {w : va_W} {x1 : Int32} {v : Int32} (hf : f_X12_goesOn x1 = some v) (l : Launch) (sz : Nat) : Met l yX12_goesOn (Cond.code yX12_goesOn cX12_goesOn 1 (some .boolean) :: ALW) { frames := 9, cells := 0, slots := 0, locals := 222 } (va_Pc [.int x1] (PZ D y ad av (w) sz)) (QZi D (w) v (w) sz) 0 0 (va_A (w) sz) := by
  refine met_i (by decide) (Nat.le_of_ble_eq_true rfl) ?_
  intro p e R s m args below meth c Q A ls hx hb hml hta hown hRc hRs hRf hRl hN hK hV hA hret hC hl
  have hl : lv_has ls 1 [(0, .int x1)] := hl
  unfold f_X12_goesOn at hf
  refine lv_iload_n hx hb dX12_goesOn_0 rfl (lv_at hl 0 rfl) ?_
  refine va_ldcS hx hb hown (ss_Rm hV 6 rfl) dX12_goesOn_1 ?_
  obtain ⟨v_1, hc_1, hf⟩ := calp_inv hf
  refine cc_Si (r_X12_isOneOf_s106 (D := D) (y := y) (w := w) (ad := ad) (av := av) hc_1 l) hx hb hml hta hown hK hN hV hA hC hRc hRs (by omega) (by omega) wq_1042 wq_1043 wq_1012 wq_1041 hd_X12_isOneOf (As := [.int x1, .ref (ad 106)]) (rest := []) rfl rfl hl.1 rfl dX12_goesOn_3 (fun H locs hC => ?_)
  refine lv_if_ne (tgt := 13) hx hb dX12_goesOn_6 (by decide) (fun c_2 => ?_) (fun c_2 => ?_)
  · have hf := it_f c_2 hf
    refine lv_iconst (v := 0) hx hb dX12_goesOn_13 (by decide) ?_
    exact hret _ _ _ _ _ _ (Option.some.inj hf) rfl rfl dX12_goesOn_14 hC
  · have hf := it_t c_2 hf
    refine lv_iconst (v := 1) hx hb dX12_goesOn_9 (by decide) ?_
    refine lv_goto (tgt := 14) hx hb dX12_goesOn_10 (by decide) ?_
    exact hret _ _ _ _ _ _ (Option.some.inj hf) rfl rfl dX12_goesOn_14 hC

set_option maxHeartbeats 8000000 in
set_option maxRecDepth 100000 in
theorem r_X12_goesTo {D : va_G} {y : Nat → ClassId} {ad av : Nat → Nat} {w : va_W} {x1 : Int32} {v : Int32} (hf : f_X12_goesTo x1 = some v) (l : Launch) (sz : Nat) : Met l yX12_goesTo (Cond.code yX12_goesTo cX12_goesTo 1 (some .boolean) :: ALW) { frames := 0, cells := 0, slots := 0, locals := 0 } (va_Pc [.int x1] (PZ D y ad av (w) sz)) (QZi D (w) v (w) sz) 0 0 (va_A (w) sz) := by
  refine met_i (by decide) (Nat.le_of_ble_eq_true rfl) ?_
  intro p e R s m args below meth c Q A ls hx hb hml hta hown hRc hRs hRf hRl hN hK hV hA hret hC hl
  have hl : lv_has ls 1 [(0, .int x1)] := hl
  unfold f_X12_goesTo at hf
  refine lv_iload_n hx hb dX12_goesTo_0 rfl (lv_at hl 0 rfl) ?_
  refine lv_bipush (v := 103) hx hb dX12_goesTo_1 (by decide) ?_
  obtain ⟨k_12, hk_12, hf⟩ := jn_inv0 hf
  have hj_12 : ∀  (H : Heap) (locs : List Loc) (ls : Array Slot), k_12 = some v → CZ D A s H locs w → lv_has ls 1 [] → W p l e R s m args below meth c H locs 0 0 Q (F0 m 12 ls []) := by
    intro H locs ls hf hC hl
    have hf := hk_12 hf
    refine lv_iconst (v := 1) hx hb dX12_goesTo_12 (by decide) ?_
    refine lv_goto (tgt := 17) hx hb dX12_goesTo_13 (by decide) ?_
    exact hret _ _ _ _ _ _ (Option.some.inj hf) rfl rfl dX12_goesTo_17 hC
  refine lv_icmp_eq (tgt := 12) hx hb dX12_goesTo_3 (by decide) (fun c_2 => ?_) (fun c_2 => ?_)
  · have hf := it_t c_2 hf
    exact hj_12 _ _ _ hf hC (lv_sub hl [] rfl)
  · have hf := it_f c_2 hf
    refine lv_iload_n hx hb dX12_goesTo_6 rfl (lv_at hl 0 rfl) ?_
    refine lv_bipush (v := 122) hx hb dX12_goesTo_7 (by decide) ?_
    refine lv_icmp_ne (tgt := 16) hx hb dX12_goesTo_9 (by decide) (fun c_3 => ?_) (fun c_3 => ?_)
    · have hf := it_f c_3 hf
      refine lv_iconst (v := 0) hx hb dX12_goesTo_16 (by decide) ?_
      exact hret _ _ _ _ _ _ (Option.some.inj hf) rfl rfl dX12_goesTo_17 hC
    · have hf := it_t c_3 hf
      exact hj_12 _ _ _ hf hC (lv_sub hl [] rfl)

set_option maxHeartbeats 8000000 in
set_option maxRecDepth 100000 in
theorem r_X12_handlerOf_tryHandler {D : va_G} {y : Nat → ClassId} {o : Nat → Nat} {ad av : Nat → Nat} {x2 : Int32} {x3 : Int32} {σ : Sto} {v : Int32} (hf : f_X12_handlerOf_tryHandler x2 x3 σ = some v) (l : Launch) (sz : Nat) : Met l yX12_handlerOf (Cond.code yX12_handlerOf cX12_handlerOf 4 (some .int) :: ALW) { frames := 0, cells := 0, slots := 0, locals := 0 } (va_Pc [.ref (o 10), .int x2, .int x3] (PZ D y ad av (WM y o σ) sz)) (QZi D (WM y o σ) v (WM y o σ) sz) 0 0 (va_A (WM y o σ) sz) := by
  refine met_i (by decide) (Nat.le_of_ble_eq_true rfl) ?_
  intro p e R s m args below meth c Q A ls hx hb hml hta hown hRc hRs hRf hRl hN hK hV hA hret hC hl
  have hl : lv_has ls 4 [(0, .ref (o 10)), (1, .int x2), (2, .int x3)] := hl
  unfold f_X12_handlerOf_tryHandler at hf
  refine lv_iconst (v := 0) hx hb dX12_handlerOf_0 (by decide) ?_
  refine lv_istore_n (lv' := [(3, .int 0), (0, .ref (o 10)), (1, .int x2), (2, .int x3)]) hx hb dX12_handlerOf_1 rfl hl (by decide) rfl (fun ls hl => ?_)
  refine itr_inv1 (P := fun (x3_1 : Int32) => ∀ (H : Heap) (locs : List Loc) (ls : Array Slot), CZ D A s H locs (WM y o σ) → lv_has ls 4 [(0, .ref (o 10)), (1, .int x2), (2, .int x3), (3, .int x3_1)] → W p l e R s m args below meth c H locs 0 0 Q (F0 m 2 ls [])) hf ?_ _ _ _ hC (lv_sub hl [1, 2, 3, 0] rfl)
  intro a_2 x3_1 ha_2 hf H locs ls hC hl
  refine lv_iload_n hx hb dX12_handlerOf_2 rfl (lv_at hl 3 rfl) ?_
  refine lv_iload_n hx hb dX12_handlerOf_3 rfl (lv_at hl 1 rfl) ?_
  refine lv_icmp_ge (tgt := 35) hx hb dX12_handlerOf_4 (by decide) (fun c_2 => ?_) (fun c_2 => ?_)
  · have hf := it_t c_2 hf
    refine lv_iconst (v := (-1)) hx hb dX12_handlerOf_35 (by decide) ?_
    exact hret _ _ _ _ _ _ (Option.some.inj hf) rfl rfl dX12_handlerOf_36 hC
  · have hf := it_f c_2 hf
    refine lv_iload_n hx hb dX12_handlerOf_7 rfl (lv_at hl 2 rfl) ?_
    refine lv_aload_n hx hb dX12_handlerOf_8 rfl (lv_at hl 0 rfl) ?_
    refine lv_iconst (v := 3) hx hb dX12_handlerOf_9 (by decide) ?_
    refine lv_iload_n hx hb dX12_handlerOf_10 rfl (lv_at hl 3 rfl) ?_
    refine lv_imul hx hb dX12_handlerOf_11 ?_
    obtain ⟨hi_3, hf⟩ := ix_inv hf
    obtain ⟨v_3, e_3, hf⟩ := lt_inv hf
    refine al_M_10 hx hb hK hC hi_3 e_3 dX12_handlerOf_12 ?_
    obtain ⟨k_29, hk_29, hf⟩ := jn_inv0 hf
    have hj_29 : ∀  (H : Heap) (locs : List Loc) (ls : Array Slot), k_29 = some v → CZ D A s H locs (WM y o σ) → lv_has ls 4 [(0, .ref (o 10)), (1, .int x2), (2, .int x3), (3, .int x3_1)] → W p l e R s m args below meth c H locs 0 0 Q (F0 m 29 ls []) := by
      intro H locs ls hf hC hl
      have hf := hk_29 hf
      obtain ⟨x3_5, e_5, hf⟩ := lt_inv hf
      refine lv_iinc (v := x3_5) (lv' := [(3, .int x3_5), (0, .ref (o 10)), (1, .int x2), (2, .int x3)]) hx hb dX12_handlerOf_29 hl (k := 3) rfl e_5.symm (by decide) rfl (fun ls hl => ?_)
      refine lv_goto (tgt := 2) hx hb dX12_handlerOf_32 (by decide) ?_
      exact ha_2 _ hf _ _ _ hC (lv_sub hl [1, 2, 3, 0] rfl)
    refine lv_icmp_lt (tgt := 29) hx hb dX12_handlerOf_13 (by decide) (fun c_6 => ?_) (fun c_6 => ?_)
    · have hf := it_t c_6 hf
      exact hj_29 _ _ _ hf hC hl
    · have hf := it_f c_6 hf
      refine lv_iload_n hx hb dX12_handlerOf_16 rfl (lv_at hl 2 rfl) ?_
      refine lv_aload_n hx hb dX12_handlerOf_17 rfl (lv_at hl 0 rfl) ?_
      refine lv_iconst (v := 3) hx hb dX12_handlerOf_18 (by decide) ?_
      refine lv_iload_n hx hb dX12_handlerOf_19 rfl (lv_at hl 3 rfl) ?_
      refine lv_imul hx hb dX12_handlerOf_20 ?_
      refine lv_iconst (v := 1) hx hb dX12_handlerOf_21 (by decide) ?_
      refine lv_iadd hx hb dX12_handlerOf_22 ?_
      obtain ⟨hi_7, hf⟩ := ix_inv hf
      obtain ⟨v_7, e_7, hf⟩ := lt_inv hf
      refine al_M_10 hx hb hK hC hi_7 e_7 dX12_handlerOf_23 ?_
      refine lv_icmp_ge (tgt := 29) hx hb dX12_handlerOf_24 (by decide) (fun c_8 => ?_) (fun c_8 => ?_)
      · have hf := it_t c_8 hf
        exact hj_29 _ _ _ hf hC hl
      · have hf := it_f c_8 hf
        refine lv_iload_n hx hb dX12_handlerOf_27 rfl (lv_at hl 3 rfl) ?_
        exact hret _ _ _ _ _ _ (Option.some.inj hf) rfl rfl dX12_handlerOf_28 hC

set_option maxHeartbeats 8000000 in
set_option maxRecDepth 100000 in
theorem r_X12_isOneOf_s105 {D : va_G} {y : Nat → ClassId} {ad av : Nat → Nat} {w : va_W} {x1 : Int32} {v : Int32} (hf : f_X12_isOneOf_s105 x1 = some v) (l : Launch) (sz : Nat) : Met l yX12_isOneOf (Cond.code yX12_isOneOf cX12_isOneOf 3 (some .boolean) :: ALW) { frames := 8, cells := 0, slots := 0, locals := 200 } (va_Pc [.int x1, .ref (ad 105)] (PZ D y ad av (w) sz)) (QZi D (w) v (w) sz) 0 0 (va_A (w) sz) := by
  refine met_i (by decide) (Nat.le_of_ble_eq_true rfl) ?_
  intro p e R s m args below meth c Q A ls hx hb hml hta hown hRc hRs hRf hRl hN hK hV hA hret hC hl
  have hl : lv_has ls 3 [(0, .int x1), (1, .ref (ad 105))] := hl
  unfold f_X12_isOneOf_s105 at hf
  refine lv_iconst (v := 0) hx hb dX12_isOneOf_0 (by decide) ?_
  refine lv_istore_n (lv' := [(2, .int 0), (0, .int x1), (1, .ref (ad 105))]) hx hb dX12_isOneOf_1 rfl hl (by decide) rfl (fun ls hl => ?_)
  refine itr_inv1 (P := fun (x2_1 : Int32) => ∀ (H : Heap) (locs : List Loc) (ls : Array Slot), CZ D A s H locs w → lv_has ls 3 [(0, .int x1), (1, .ref (ad 105)), (2, .int x2_1)] → W p l e R s m args below meth c H locs 0 0 Q (F0 m 2 ls [])) hf ?_ _ _ _ hC (lv_sub hl [1, 2, 0] rfl)
  intro a_2 x2_1 ha_2 hf H locs ls hC hl
  refine lv_iload_n hx hb dX12_isOneOf_2 rfl (lv_at hl 2 rfl) ?_
  refine lv_aload_n hx hb dX12_isOneOf_3 rfl (lv_at hl 1 rfl) ?_
  refine cc_length hx hb hml hta hown hK hN hV hA hC hRc hRs (by omega) (by omega) wq_1039 (i := 105) (n := 3) (by decide) (by decide) (by decide) hl.1 rfl dX12_isOneOf_4 (fun H locs hC => ?_)
  refine lv_icmp_ge (tgt := 27) hx hb dX12_isOneOf_7 (by decide) (fun c_2 => ?_) (fun c_2 => ?_)
  · have hf := it_t c_2 hf
    refine lv_iconst (v := 0) hx hb dX12_isOneOf_27 (by decide) ?_
    exact hret _ _ _ _ _ _ (Option.some.inj hf) rfl rfl dX12_isOneOf_28 hC
  · have hf := it_f c_2 hf
    refine lv_aload_n hx hb dX12_isOneOf_10 rfl (lv_at hl 1 rfl) ?_
    refine lv_iload_n hx hb dX12_isOneOf_11 rfl (lv_at hl 2 rfl) ?_
    obtain ⟨hi_3, hf⟩ := ix_inv hf
    obtain ⟨v_3, e_3, hf⟩ := lt_inv hf
    refine cc_charAt hx hb hml hta hown hK hN hV hA hC hRc hRs (by omega) (by omega) wq_1040 (i := 105) (n := 3) (by decide) (by decide) (by decide) hi_3 e_3 hl.1 rfl dX12_isOneOf_12 (fun H locs hC => ?_)
    refine lv_iload_n hx hb dX12_isOneOf_15 rfl (lv_at hl 0 rfl) ?_
    refine lv_icmp_ne (tgt := 21) hx hb dX12_isOneOf_16 (by decide) (fun c_4 => ?_) (fun c_4 => ?_)
    · have hf := it_f c_4 hf
      obtain ⟨x2_5, e_5, hf⟩ := lt_inv hf
      refine lv_iinc (v := x2_5) (lv' := [(2, .int x2_5), (0, .int x1), (1, .ref (ad 105))]) hx hb dX12_isOneOf_21 hl (k := 2) rfl e_5.symm (by decide) rfl (fun ls hl => ?_)
      refine lv_goto (tgt := 2) hx hb dX12_isOneOf_24 (by decide) ?_
      exact ha_2 _ hf _ _ _ hC (lv_sub hl [1, 2, 0] rfl)
    · have hf := it_t c_4 hf
      refine lv_iconst (v := 1) hx hb dX12_isOneOf_19 (by decide) ?_
      exact hret _ _ _ _ _ _ (Option.some.inj hf) rfl rfl dX12_isOneOf_20 hC

set_option maxHeartbeats 8000000 in
set_option maxRecDepth 100000 in
theorem r_X12_canThrow {D : va_G} {y : Nat → ClassId} {ad av : Nat → Nat} {w : va_W} {x1 : Int32} {v : Int32} (hf : f_X12_canThrow x1 = some v) (l : Launch) (sz : Nat) : Met l yX12_canThrow (Cond.code yX12_canThrow cX12_canThrow 1 (some .boolean) :: ALW) { frames := 9, cells := 0, slots := 0, locals := 222 } (va_Pc [.int x1] (PZ D y ad av (w) sz)) (QZi D (w) v (w) sz) 0 0 (va_A (w) sz) := by
  refine met_i (by decide) (Nat.le_of_ble_eq_true rfl) ?_
  intro p e R s m args below meth c Q A ls hx hb hml hta hown hRc hRs hRf hRl hN hK hV hA hret hC hl
  have hl : lv_has ls 1 [(0, .int x1)] := hl
  unfold f_X12_canThrow at hf
  refine lv_iload_n hx hb dX12_canThrow_0 rfl (lv_at hl 0 rfl) ?_
  refine va_ldcS hx hb hown (ss_Rm hV 5 rfl) dX12_canThrow_1 ?_
  obtain ⟨v_1, hc_1, hf⟩ := calp_inv hf
  refine cc_Si (r_X12_isOneOf_s105 (D := D) (y := y) (w := w) (ad := ad) (av := av) hc_1 l) hx hb hml hta hown hK hN hV hA hC hRc hRs (by omega) (by omega) wq_1042 wq_1043 wq_1012 wq_1041 hd_X12_isOneOf (As := [.int x1, .ref (ad 105)]) (rest := []) rfl rfl hl.1 rfl dX12_canThrow_3 (fun H locs hC => ?_)
  obtain ⟨hb_2, hf⟩ := bz_inv hf
  exact hret _ _ _ _ _ _ (Option.some.inj hf) rfl (bz_nar hb_2) dX12_canThrow_6 hC

set_option maxHeartbeats 8000000 in
set_option maxRecDepth 100000 in
theorem r_X12_comes {D : va_G} {y : Nat → ClassId} {o : Nat → Nat} {ad av : Nat → Nat} {x1 : Int32} {x2 : Int32} {σ : Sto} {σ2 : Sto} {v : Int32} (hf : f_X12_comes x1 x2 σ = some (v, σ2)) (l : Launch) (sz : Nat) : Met l yX12_comes (Cond.code yX12_comes cX12_comes 3 (some .boolean) :: ALW) { frames := 0, cells := 0, slots := 0, locals := 0 } (va_Pc [.ref (o 0), .int x1, .int x2] (PZ D y ad av (WM y o σ) sz)) (QZi D (WM y o σ) v (WM y o σ2) sz) 0 0 (va_A (WM y o σ) sz) := by
  refine met_i (by decide) (Nat.le_of_ble_eq_true rfl) ?_
  intro p e R s m args below meth c Q A ls hx hb hml hta hown hRc hRs hRf hRl hN hK hV hA hret hC hl
  have hl : lv_has ls 3 [(0, .ref (o 0)), (1, .int x1), (2, .int x2)] := hl
  unfold f_X12_comes at hf
  refine lv_aload_n hx hb dX12_comes_0 rfl (lv_at hl 0 rfl) ?_
  refine gt_X12_41_m hx hb hta hown hK hC dX12_comes_1 ?_
  refine lv_iload_n hx hb dX12_comes_4 rfl (lv_at hl 1 rfl) ?_
  obtain ⟨hi_1, hf⟩ := ix_inv hf
  obtain ⟨v_1, e_1, hf⟩ := lt_inv hf
  refine al_M_11 hx hb hK hC hi_1 e_1 dX12_comes_5 ?_
  refine lv_iconst (v := (-1)) hx hb dX12_comes_6 (by decide) ?_
  obtain ⟨k_17, hk_17, hf⟩ := jn_inv1 hf
  have hj_17 : ∀ (s_2 : Sto) (H : Heap) (locs : List Loc) (ls : Array Slot), k_17 s_2 = some (v, σ2) → CZ D A s H locs (WM y o s_2) → lv_has ls 3 [(0, .ref (o 0)), (1, .int x1), (2, .int x2)] → W p l e R s m args below meth c H locs 0 0 Q (F0 m 17 ls []) := by
    intro s_2 H locs ls hf hC hl
    have hf := hk_17 _ hf
    refine lv_aload_n hx hb dX12_comes_17 rfl (lv_at hl 0 rfl) ?_
    refine gt_X12_41_m hx hb hta hown hK hC dX12_comes_18 ?_
    refine lv_iload_n hx hb dX12_comes_21 rfl (lv_at hl 1 rfl) ?_
    obtain ⟨hi_3, hf⟩ := ix_inv hf
    obtain ⟨v_3, e_3, hf⟩ := lt_inv hf
    refine al_M_11 hx hb hK hC hi_3 e_3 dX12_comes_22 ?_
    refine lv_iload_n hx hb dX12_comes_23 rfl (lv_at hl 2 rfl) ?_
    refine lv_icmp_ne (tgt := 31) hx hb dX12_comes_24 (by decide) (fun c_4 => ?_) (fun c_4 => ?_)
    · have hf := it_f c_4 hf
      refine lv_iconst (v := 0) hx hb dX12_comes_31 (by decide) ?_
      exact hret _ _ _ _ _ _ (rv_inv hf).1 (congrArg (WM y o) (rv_inv hf).2) rfl dX12_comes_32 hC
    · have hf := it_t c_4 hf
      refine lv_iconst (v := 1) hx hb dX12_comes_27 (by decide) ?_
      refine lv_goto (tgt := 32) hx hb dX12_comes_28 (by decide) ?_
      exact hret _ _ _ _ _ _ (rv_inv hf).1 (congrArg (WM y o) (rv_inv hf).2) rfl dX12_comes_32 hC
  refine lv_icmp_ne (tgt := 17) hx hb dX12_comes_7 (by decide) (fun c_5 => ?_) (fun c_5 => ?_)
  · have hf := it_f c_5 hf
    exact hj_17 _ _ _ _ hf hC hl
  · have hf := it_t c_5 hf
    refine lv_aload_n hx hb dX12_comes_10 rfl (lv_at hl 0 rfl) ?_
    refine gt_X12_41_m hx hb hta hown hK hC dX12_comes_11 ?_
    refine lv_iload_n hx hb dX12_comes_14 rfl (lv_at hl 1 rfl) ?_
    refine lv_iload_n hx hb dX12_comes_15 rfl (lv_at hl 2 rfl) ?_
    obtain ⟨hi_6, hf⟩ := ix_inv hf
    obtain ⟨s_6, e_6, hf⟩ := lt_inv hf
    refine as_M_11 hx hb hK hC hi_6 e_6 dX12_comes_16 (fun H locs hC => ?_)
    exact hj_17 _ _ _ _ hf hC hl

set_option maxHeartbeats 8000000 in
set_option maxRecDepth 100000 in
theorem r_X12_goesThrough {D : va_G} {y : Nat → ClassId} {o : Nat → Nat} {ad av : Nat → Nat} {x1 : Int32} {σ : Sto} {σ2 : Sto} {v : Int32} (hf : f_X12_goesThrough x1 σ = some (v, σ2)) (l : Launch) (sz : Nat) : Met l yX12_goesThrough (Cond.code yX12_goesThrough cX12_goesThrough 5 (some .int) :: ALW) { frames := 10, cells := 0, slots := 0, locals := 242 } (va_Pc [.ref (o 0), .int x1] (PZ D y ad av (WM y o σ) sz)) (QZi D (WM y o σ) v (WM y o σ2) sz) 0 0 (va_A (WM y o σ) sz) := by
  refine met_i (by decide) (Nat.le_of_ble_eq_true rfl) ?_
  intro p e R s m args below meth c Q A ls hx hb hml hta hown hRc hRs hRf hRl hN hK hV hA hret hC hl
  have hl : lv_has ls 5 [(0, .ref (o 0)), (1, .int x1)] := hl
  unfold f_X12_goesThrough at hf
  refine lv_aload_n hx hb dX12_goesThrough_0 rfl (lv_at hl 0 rfl) ?_
  refine gt_X12_32_m hx hb hta hown hK hC dX12_goesThrough_1 ?_
  refine lv_iload_n hx hb dX12_goesThrough_4 rfl (lv_at hl 1 rfl) ?_
  obtain ⟨hi_1, hf⟩ := ix_inv hf
  obtain ⟨v_1, e_1, hf⟩ := lt_inv hf
  refine al_M_8 hx hb hK hC hi_1 e_1 dX12_goesThrough_5 ?_
  refine lv_istore_n (lv' := [(2, .int v_1), (0, .ref (o 0)), (1, .int x1)]) hx hb dX12_goesThrough_6 rfl hl (by decide) rfl (fun ls hl => ?_)
  refine lv_aload_n hx hb dX12_goesThrough_7 rfl (lv_at hl 1 rfl) ?_
  refine gt_X12_41_m hx hb hta hown hK hC dX12_goesThrough_8 ?_
  refine lv_iload_n hx hb dX12_goesThrough_11 rfl (lv_at hl 2 rfl) ?_
  obtain ⟨hi_2, hf⟩ := ix_inv hf
  obtain ⟨v_2, e_2, hf⟩ := lt_inv hf
  refine al_M_11 hx hb hK hC hi_2 e_2 dX12_goesThrough_12 ?_
  refine lv_iload_n hx hb dX12_goesThrough_13 rfl (lv_at hl 0 rfl) ?_
  obtain ⟨v_3, hc_3, hf⟩ := calp_inv hf
  refine cc_Si (r_X12_pops (D := D) (y := y) (w := WM y o σ) (ad := ad) (av := av) hc_3 l) hx hb hml hta hown hK hN hV hA hC hRc hRs (by omega) (by omega) wq_1081 wq_1082 wq_1012 wq_1072 hd_X12_pops (As := [.int v_1]) (rest := [.int v_2]) rfl rfl hl.1 rfl dX12_goesThrough_14 (fun H locs hC => ?_)
  refine lv_icmp_ge (tgt := 23) hx hb dX12_goesThrough_17 (by decide) (fun c_4 => ?_) (fun c_4 => ?_)
  · have hf := it_t c_4 hf
    refine lv_aload_n hx hb dX12_goesThrough_23 rfl (lv_at hl 1 rfl) ?_
    refine gt_X12_41_m hx hb hta hown hK hC dX12_goesThrough_24 ?_
    refine lv_iload_n hx hb dX12_goesThrough_27 rfl (lv_at hl 2 rfl) ?_
    obtain ⟨hi_5, hf⟩ := ix_inv hf
    obtain ⟨v_5, e_5, hf⟩ := lt_inv hf
    refine al_M_11 hx hb hK hC hi_5 e_5 dX12_goesThrough_28 ?_
    refine lv_iload_n hx hb dX12_goesThrough_29 rfl (lv_at hl 0 rfl) ?_
    obtain ⟨v_6, hc_6, hf⟩ := calp_inv hf
    refine cc_Si (r_X12_pops (D := D) (y := y) (w := WM y o σ) (ad := ad) (av := av) hc_6 l) hx hb hml hta hown hK hN hV hA hC hRc hRs (by omega) (by omega) wq_1081 wq_1082 wq_1012 wq_1072 hd_X12_pops (As := [.int v_1]) (rest := [.int v_5]) rfl rfl hl.1 rfl dX12_goesThrough_30 (fun H locs hC => ?_)
    refine lv_isub hx hb dX12_goesThrough_33 ?_
    refine lv_iload_n hx hb dX12_goesThrough_34 rfl (lv_at hl 0 rfl) ?_
    obtain ⟨v_7, hc_7, hf⟩ := calp_inv hf
    refine cc_Si (r_X12_pushes (D := D) (y := y) (w := WM y o σ) (ad := ad) (av := av) hc_7 l) hx hb hml hta hown hK hN hV hA hC hRc hRs (by omega) (by omega) wq_1083 wq_1084 wq_1012 wq_1073 hd_X12_pushes (As := [.int v_1]) (rest := [.int (v_5 - v_6)]) rfl rfl hl.1 rfl dX12_goesThrough_35 (fun H locs hC => ?_)
    refine lv_iadd hx hb dX12_goesThrough_38 ?_
    obtain ⟨x3_8, e_8, hf⟩ := lt_inv hf
    refine nmi e_8 ?_
    refine lv_istore_n (lv' := [(3, .int x3_8), (2, .int v_1), (0, .ref (o 0)), (1, .int x1)]) hx hb dX12_goesThrough_39 rfl hl (by decide) rfl (fun ls hl => ?_)
    refine lv_iload_n hx hb dX12_goesThrough_40 rfl (lv_at hl 0 rfl) ?_
    refine lv_bipush (v := 6) hx hb dX12_goesThrough_41 (by decide) ?_
    refine lv_icmp_le (tgt := 49) hx hb dX12_goesThrough_43 (by decide) (fun c_9 => ?_) (fun c_9 => ?_)
    · have hf := it_t c_9 hf
      refine lv_iload_n hx hb dX12_goesThrough_49 rfl (lv_at hl 1 rfl) ?_
      obtain ⟨v_10, hc_10, hf⟩ := calp_inv hf
      refine cc_Si (r_X12_goesOn (D := D) (y := y) (w := WM y o σ) (ad := ad) (av := av) hc_10 l) hx hb hml hta hown hK hN hV hA hC hRc hRs (by omega) (by omega) wq_1085 wq_1086 wq_1012 wq_1075 hd_X12_goesOn (As := [.int v_1]) (rest := []) rfl rfl hl.1 rfl dX12_goesThrough_50 (fun H locs hC => ?_)
      obtain ⟨k_83, hk_83, hf⟩ := jn_inv1 hf
      have hj_83 : ∀ (s_11 : Sto) (H : Heap) (locs : List Loc) (ls : Array Slot), k_83 s_11 = some (v, σ2) → CZ D A s H locs (WM y o s_11) → lv_has ls 5 [(0, .ref (o 0)), (1, .int x1), (2, .int v_1), (3, .int x3_8)] → W p l e R s m args below meth c H locs 0 0 Q (F0 m 83 ls []) := by
        intro s_11 H locs ls hf hC hl
        have hf := hk_83 _ hf
        refine lv_iload_n hx hb dX12_goesThrough_83 rfl (lv_at hl 2 rfl) ?_
        obtain ⟨v_12, hc_12, hf⟩ := calp_inv hf
        refine cc_Si (r_X12_goesTo (D := D) (y := y) (w := WM y o s_11) (ad := ad) (av := av) hc_12 l) hx hb hml hta hown hK hN hV hA hC hRc hRs (by omega) (by omega) wq_1090 wq_1091 wq_1012 wq_1076 hd_X12_goesTo (As := [.int v_1]) (rest := []) rfl rfl hl.1 rfl dX12_goesThrough_84 (fun H locs hC => ?_)
        obtain ⟨k_107, hk_107, hf⟩ := jn_inv1 hf
        have hj_107 : ∀ (s_13 : Sto) (H : Heap) (locs : List Loc) (ls : Array Slot), k_107 s_13 = some (v, σ2) → CZ D A s H locs (WM y o s_13) → lv_has ls 5 [(0, .ref (o 0)), (1, .int x1), (2, .int v_1)] → W p l e R s m args below meth c H locs 0 0 Q (F0 m 107 ls []) := by
          intro s_13 H locs ls hf hC hl
          have hf := hk_107 _ hf
          refine lv_aload_n hx hb dX12_goesThrough_107 rfl (lv_at hl 0 rfl) ?_
          refine gt_X12_38_m hx hb hta hown hK hC dX12_goesThrough_108 ?_
          refine lv_aload_n hx hb dX12_goesThrough_111 rfl (lv_at hl 0 rfl) ?_
          refine gt_X12_260_m hx hb hta hown hK hC dX12_goesThrough_112 ?_
          refine lv_iload_n hx hb dX12_goesThrough_115 rfl (lv_at hl 1 rfl) ?_
          obtain ⟨v_14, hc_14, hf⟩ := calp_inv hf
          refine cc_Si (r_X12_handlerOf_tryHandler (D := D) (y := y) (o := o) (ad := ad) (av := av) hc_14 l) hx hb hml hta hown hK hN hV hA hC hRc hRs (by omega) (by omega) wq_1092 wq_1093 wq_1012 wq_1077 hd_X12_handlerOf (As := [.ref (o 10), .int (s_13.1 18 0), .int x1]) (rest := []) rfl rfl hl.1 rfl dX12_goesThrough_116 (fun H locs hC => ?_)
          refine lv_istore (lv' := [(4, .int v_14), (0, .ref (o 0)), (1, .int x1), (2, .int v_1)]) hx hb dX12_goesThrough_119 hl (by decide) rfl (fun ls hl => ?_)
          refine lv_iload_n hx hb dX12_goesThrough_121 rfl (lv_at hl 3 rfl) ?_
          obtain ⟨v_15, hc_15, hf⟩ := calp_inv hf
          refine cc_Si (r_X12_canThrow (D := D) (y := y) (w := WM y o s_13) (ad := ad) (av := av) hc_15 l) hx hb hml hta hown hK hN hV hA hC hRc hRs (by omega) (by omega) wq_1094 wq_1095 wq_1012 wq_1074 hd_X12_canThrow (As := [.int v_1]) (rest := []) rfl rfl hl.1 rfl dX12_goesThrough_122 (fun H locs hC => ?_)
          obtain ⟨k_158, hk_158, hf⟩ := jn_inv1 hf
          have hj_158 : ∀ (s_16 : Sto) (H : Heap) (locs : List Loc) (ls : Array Slot), k_158 s_16 = some (v, σ2) → CZ D A s H locs (WM y o s_16) → lv_has ls 5 [] → W p l e R s m args below meth c H locs 0 0 Q (F0 m 158 ls []) := by
            intro s_16 H locs ls hf hC hl
            have hf := hk_158 _ hf
            refine lv_iconst (v := 0) hx hb dX12_goesThrough_158 (by decide) ?_
            exact hret _ _ _ _ _ _ (rv_inv hf).1 (congrArg (WM y o) (rv_inv hf).2) rfl dX12_goesThrough_159 hC
          refine lv_if_eq (tgt := 158) hx hb dX12_goesThrough_125 (by decide) (fun c_17 => ?_) (fun c_17 => ?_)
          · have hf := it_t c_17 hf
            exact hj_158 _ _ _ _ hf hC (lv_sub hl [] rfl)
          · have hf := it_f c_17 hf
            refine lv_iload hx hb dX12_goesThrough_128 (lv_at hl 0 rfl) ?_
            refine lv_iconst (v := (-1)) hx hb dX12_goesThrough_130 (by decide) ?_
            refine lv_icmp_eq (tgt := 158) hx hb dX12_goesThrough_131 (by decide) (fun c_18 => ?_) (fun c_18 => ?_)
            · have hf := it_t c_18 hf
              exact hj_158 _ _ _ _ hf hC (lv_sub hl [] rfl)
            · have hf := it_f c_18 hf
              refine lv_aload_n hx hb dX12_goesThrough_134 rfl (lv_at hl 1 rfl) ?_
              refine lv_aload_n hx hb dX12_goesThrough_135 rfl (lv_at hl 1 rfl) ?_
              refine gt_X12_38_m hx hb hta hown hK hC dX12_goesThrough_136 ?_
              refine lv_iconst (v := 3) hx hb dX12_goesThrough_139 (by decide) ?_
              refine lv_iload hx hb dX12_goesThrough_140 (lv_at hl 0 rfl) ?_
              refine lv_imul hx hb dX12_goesThrough_142 ?_
              refine lv_iconst (v := 2) hx hb dX12_goesThrough_143 (by decide) ?_
              refine lv_iadd hx hb dX12_goesThrough_144 ?_
              obtain ⟨hi_19, hf⟩ := ix_inv hf
              obtain ⟨v_19, e_19, hf⟩ := lt_inv hf
              refine al_M_10 hx hb hK hC hi_19 e_19 dX12_goesThrough_145 ?_
              refine lv_iconst (v := 1) hx hb dX12_goesThrough_146 (by decide) ?_
              obtain ⟨v_20, s_20, hc_20, hf⟩ := calv_inv hf
              refine cc_Vi (r_X12_comes (D := D) (y := y) (o := o) (ad := ad) (av := av) hc_20 l) hx hb hml hta hown hK hN hV hA hC hRc hRs (by omega) (by omega) wq_1087 (q := 0) (ci := 12) rfl rfl wq_1088 wq_1089 wq_1012 wq_1078 hd_X12_comes (As := [.int v_19, .int 1]) (rest := []) rfl rfl hl.1 rfl dX12_goesThrough_147 (fun H locs hC => ?_)
              refine lv_if_ne (tgt := 158) hx hb dX12_goesThrough_150 (by decide) (fun c_21 => ?_) (fun c_21 => ?_)
              · have hf := it_f c_21 hf
                exact hj_158 _ _ _ _ hf hC (lv_sub hl [] rfl)
              · have hf := it_t c_21 hf
                refine lv_bipush (v := (-6)) hx hb dX12_goesThrough_153 (by decide) ?_
                refine lv_goto (tgt := 159) hx hb dX12_goesThrough_155 (by decide) ?_
                exact hret _ _ _ _ _ _ (rv_inv hf).1 (congrArg (WM y o) (rv_inv hf).2) rfl dX12_goesThrough_159 hC
        refine lv_if_eq (tgt := 107) hx hb dX12_goesThrough_87 (by decide) (fun c_22 => ?_) (fun c_22 => ?_)
        · have hf := it_t c_22 hf
          exact hj_107 _ _ _ _ hf hC (lv_sub hl [0, 1, 2] rfl)
        · have hf := it_f c_22 hf
          refine lv_aload_n hx hb dX12_goesThrough_90 rfl (lv_at hl 0 rfl) ?_
          refine lv_aload_n hx hb dX12_goesThrough_91 rfl (lv_at hl 0 rfl) ?_
          refine gt_X12_35_m hx hb hta hown hK hC dX12_goesThrough_92 ?_
          refine lv_iload_n hx hb dX12_goesThrough_95 rfl (lv_at hl 1 rfl) ?_
          obtain ⟨hi_23, hf⟩ := ix_inv hf
          obtain ⟨v_23, e_23, hf⟩ := lt_inv hf
          refine al_M_9 hx hb hK hC hi_23 e_23 dX12_goesThrough_96 ?_
          refine lv_iload_n hx hb dX12_goesThrough_97 rfl (lv_at hl 3 rfl) ?_
          obtain ⟨v_24, s_24, hc_24, hf⟩ := calv_inv hf
          refine cc_Vi (r_X12_comes (D := D) (y := y) (o := o) (ad := ad) (av := av) hc_24 l) hx hb hml hta hown hK hN hV hA hC hRc hRs (by omega) (by omega) wq_1087 (q := 0) (ci := 12) rfl rfl wq_1088 wq_1089 wq_1012 wq_1078 hd_X12_comes (As := [.int v_23, .int x3_8]) (rest := []) rfl rfl hl.1 rfl dX12_goesThrough_98 (fun H locs hC => ?_)
          refine lv_if_ne (tgt := 107) hx hb dX12_goesThrough_101 (by decide) (fun c_25 => ?_) (fun c_25 => ?_)
          · have hf := it_f c_25 hf
            exact hj_107 _ _ _ _ hf hC (lv_sub hl [0, 1, 2] rfl)
          · have hf := it_t c_25 hf
            refine lv_bipush (v := (-6)) hx hb dX12_goesThrough_104 (by decide) ?_
            exact hret _ _ _ _ _ _ (rv_inv hf).1 (congrArg (WM y o) (rv_inv hf).2) rfl dX12_goesThrough_106 hC
      refine lv_if_eq (tgt := 83) hx hb dX12_goesThrough_53 (by decide) (fun c_26 => ?_) (fun c_26 => ?_)
      · have hf := it_t c_26 hf
        exact hj_83 _ _ _ _ hf hC (lv_sub hl [2, 3, 1, 0] rfl)
      · have hf := it_f c_26 hf
        refine lv_iload_n hx hb dX12_goesThrough_56 rfl (lv_at hl 3 rfl) ?_
        refine lv_iconst (v := 1) hx hb dX12_goesThrough_57 (by decide) ?_
        refine lv_iadd hx hb dX12_goesThrough_58 ?_
        refine lv_aload_n hx hb dX12_goesThrough_59 rfl (lv_at hl 2 rfl) ?_
        refine gt_X12_254_m hx hb hta hown hK hC dX12_goesThrough_60 ?_
        refine lv_icmp_ne (tgt := 69) hx hb dX12_goesThrough_63 (by decide) (fun c_27 => ?_) (fun c_27 => ?_)
        · have hf := it_f c_27 hf
          refine lv_aload_n hx hb dX12_goesThrough_69 rfl (lv_at hl 2 rfl) ?_
          refine lv_iload_n hx hb dX12_goesThrough_70 rfl (lv_at hl 3 rfl) ?_
          refine lv_iconst (v := 1) hx hb dX12_goesThrough_71 (by decide) ?_
          refine lv_iadd hx hb dX12_goesThrough_72 ?_
          refine lv_iload_n hx hb dX12_goesThrough_73 rfl (lv_at hl 0 rfl) ?_
          obtain ⟨v_28, s_28, hc_28, hf⟩ := calv_inv hf
          refine cc_Vi (r_X12_comes (D := D) (y := y) (o := o) (ad := ad) (av := av) hc_28 l) hx hb hml hta hown hK hN hV hA hC hRc hRs (by omega) (by omega) wq_1087 (q := 0) (ci := 12) rfl rfl wq_1088 wq_1089 wq_1012 wq_1078 hd_X12_comes (As := [.int (x1 + 1), .int x3_8]) (rest := []) rfl rfl hl.1 rfl dX12_goesThrough_74 (fun H locs hC => ?_)
          refine lv_if_ne (tgt := 83) hx hb dX12_goesThrough_77 (by decide) (fun c_29 => ?_) (fun c_29 => ?_)
          · have hf := it_f c_29 hf
            exact hj_83 _ _ _ _ hf hC (lv_sub hl [2, 3, 1, 0] rfl)
          · have hf := it_t c_29 hf
            refine lv_bipush (v := (-6)) hx hb dX12_goesThrough_80 (by decide) ?_
            exact hret _ _ _ _ _ _ (rv_inv hf).1 (congrArg (WM y o) (rv_inv hf).2) rfl dX12_goesThrough_82 hC
        · have hf := it_t c_27 hf
          refine lv_bipush (v := (-3)) hx hb dX12_goesThrough_66 (by decide) ?_
          exact hret _ _ _ _ _ _ (rv_inv hf).1 (congrArg (WM y o) (rv_inv hf).2) rfl dX12_goesThrough_68 hC
    · have hf := it_f c_9 hf
      refine lv_bipush (v := (-5)) hx hb dX12_goesThrough_46 (by decide) ?_
      exact hret _ _ _ _ _ _ (rv_inv hf).1 (congrArg (WM y o) (rv_inv hf).2) rfl dX12_goesThrough_48 hC
  · have hf := it_f c_4 hf
    refine lv_bipush (v := (-4)) hx hb dX12_goesThrough_20 (by decide) ?_
    exact hret _ _ _ _ _ _ (rv_inv hf).1 (congrArg (WM y o) (rv_inv hf).2) rfl dX12_goesThrough_22 hC

set_option maxHeartbeats 8000000 in
set_option maxRecDepth 100000 in
theorem r_X12_has {D : va_G} {y : Nat → ClassId} {ad av : Nat → Nat} {w : va_W} {x1 : Int64} {x2 : Int32} {v : Int32} (hf : f_X12_has x1 x2 = some v) (l : Launch) (sz : Nat) : Met l yX12_has (Cond.code yX12_has cX12_has 3 (some .boolean) :: ALW) { frames := 0, cells := 0, slots := 0, locals := 0 } (va_Pc [.long x1, .int x2] (PZ D y ad av (w) sz)) (QZi D (w) v (w) sz) 0 0 (va_A (w) sz) := by
  refine met_i (by decide) (Nat.le_of_ble_eq_true rfl) ?_
  intro p e R s m args below meth c Q A ls hx hb hml hta hown hRc hRs hRf hRl hN hK hV hA hret hC hl
  have hl : lv_has ls 3 [(0, .long x1), (2, .int x2)] := hl
  unfold f_X12_has at hf
  refine lv_lload_n hx hb dX12_has_0 rfl (lv_at hl 0 rfl) ?_
  refine lv_iload_n hx hb dX12_has_1 rfl (lv_at hl 1 rfl) ?_
  refine lv_lshr hx hb dX12_has_2 rfl ?_
  refine lv_lconst (v := 1) hx hb dX12_has_3 rfl ?_
  refine lv_land hx hb dX12_has_4 ?_
  refine lv_lconst (v := 1) hx hb dX12_has_5 rfl ?_
  refine W.lcmp hx hb dX12_has_6 ?_
  refine lv_if_ne (tgt := 14) hx hb dX12_has_7 (by decide) (fun c_1 => ?_) (fun c_1 => ?_)
  · have hf := it_f c_1 hf
    refine lv_iconst (v := 0) hx hb dX12_has_14 (by decide) ?_
    exact hret _ _ _ _ _ _ (Option.some.inj hf) rfl rfl dX12_has_15 hC
  · have hf := it_t c_1 hf
    refine lv_iconst (v := 1) hx hb dX12_has_10 (by decide) ?_
    refine lv_goto (tgt := 15) hx hb dX12_has_11 (by decide) ?_
    exact hret _ _ _ _ _ _ (Option.some.inj hf) rfl rfl dX12_has_15 hC

set_option maxHeartbeats 8000000 in
set_option maxRecDepth 100000 in
theorem r_X12_wrong {D : va_G} {y : Nat → ClassId} {o : Nat → Nat} {ad av : Nat → Nat} {σ : Sto} {σ2 : Sto} {v : Int32} (hf : f_X12_wrong σ = some (v, σ2)) (l : Launch) (sz : Nat) : Met l yX12_wrong (Cond.code yX12_wrong cX12_wrong 5 (some .int) :: ALW) { frames := 11, cells := 0, slots := 0, locals := 266 } (va_Pc [.ref (o 0)] (PZ D y ad av (WM y o σ) sz)) (QZi D (WM y o σ) v (WM y o σ2) sz) 0 0 (va_A (WM y o σ) sz) := by
  refine met_i (by decide) (Nat.le_of_ble_eq_true rfl) ?_
  intro p e R s m args below meth c Q A ls hx hb hml hta hown hRc hRs hRf hRl hN hK hV hA hret hC hl
  have hl : lv_has ls 5 [(0, .ref (o 0))] := hl
  unfold f_X12_wrong at hf
  refine lv_iconst (v := 0) hx hb dX12_wrong_0 (by decide) ?_
  refine lv_istore_n (lv' := [(1, .int 0), (0, .ref (o 0))]) hx hb dX12_wrong_1 rfl hl (by decide) rfl (fun ls hl => ?_)
  refine itr_inv1 (P := fun (x1_1 : Int32) => ∀ (H : Heap) (locs : List Loc) (ls : Array Slot), CZ D A s H locs (WM y o σ) → lv_has ls 5 [(0, .ref (o 0)), (1, .int x1_1)] → W p l e R s m args below meth c H locs 0 0 Q (F0 m 2 ls [])) hf ?_ _ _ _ hC (lv_sub hl [1, 0] rfl)
  intro a_2 x1_1 ha_2 hf H locs ls hC hl
  refine lv_iload_n hx hb dX12_wrong_2 rfl (lv_at hl 1 rfl) ?_
  refine lv_aload_n hx hb dX12_wrong_3 rfl (lv_at hl 0 rfl) ?_
  refine gt_X12_254_m hx hb hta hown hK hC dX12_wrong_4 ?_
  refine lv_icmp_ge (tgt := 44) hx hb dX12_wrong_7 (by decide) (fun c_2 => ?_) (fun c_2 => ?_)
  · have hf := it_t c_2 hf
    refine lv_iconst (v := 0) hx hb dX12_wrong_44 (by decide) ?_
    refine lv_istore_n (lv' := [(1, .int 0), (0, .ref (o 0))]) hx hb dX12_wrong_45 rfl hl (by decide) rfl (fun ls hl => ?_)
    refine itr_inv1 (P := fun (x1_3 : Int32) => ∀ (H : Heap) (locs : List Loc) (ls : Array Slot), CZ D A s H locs (WM y o σ) → lv_has ls 5 [(0, .ref (o 0)), (1, .int x1_3)] → W p l e R s m args below meth c H locs 0 0 Q (F0 m 46 ls [])) hf ?_ _ _ _ hC (lv_sub hl [1, 0] rfl)
    intro a_46 x1_3 ha_46 hf H locs ls hC hl
    refine lv_iload_n hx hb dX12_wrong_46 rfl (lv_at hl 1 rfl) ?_
    refine lv_aload_n hx hb dX12_wrong_47 rfl (lv_at hl 0 rfl) ?_
    refine gt_X12_260_m hx hb hta hown hK hC dX12_wrong_48 ?_
    refine lv_icmp_ge (tgt := 118) hx hb dX12_wrong_51 (by decide) (fun c_4 => ?_) (fun c_4 => ?_)
    · have hf := it_t c_4 hf
      refine lv_iconst (v := 0) hx hb dX12_wrong_118 (by decide) ?_
      refine lv_istore_n (lv' := [(1, .int 0), (0, .ref (o 0))]) hx hb dX12_wrong_119 rfl hl (by decide) rfl (fun ls hl => ?_)
      refine itr_inv2 (P := fun (x1_5 : Int32) (s_5 : Sto) => ∀ (H : Heap) (locs : List Loc) (ls : Array Slot), CZ D A s H locs (WM y o s_5) → lv_has ls 5 [(0, .ref (o 0)), (1, .int x1_5)] → W p l e R s m args below meth c H locs 0 0 Q (F0 m 120 ls [])) hf ?_ _ _ _ hC (lv_sub hl [1, 0] rfl)
      intro a_120 x1_5 s_5 ha_120 hf H locs ls hC hl
      refine lv_iload_n hx hb dX12_wrong_120 rfl (lv_at hl 1 rfl) ?_
      refine lv_bipush (v := 40) hx hb dX12_wrong_121 (by decide) ?_
      refine lv_icmp_ge (tgt := 139) hx hb dX12_wrong_123 (by decide) (fun c_6 => ?_) (fun c_6 => ?_)
      · have hf := it_t c_6 hf
        refine lv_aload_n hx hb dX12_wrong_139 rfl (lv_at hl 0 rfl) ?_
        refine gt_X12_41_m hx hb hta hown hK hC dX12_wrong_140 ?_
        refine lv_iconst (v := 0) hx hb dX12_wrong_143 (by decide) ?_
        refine lv_iconst (v := 0) hx hb dX12_wrong_144 (by decide) ?_
        obtain ⟨hi_7, hf⟩ := ix_inv hf
        obtain ⟨s_7, e_7, hf⟩ := lt_inv hf
        refine as_M_11 hx hb hK hC hi_7 e_7 dX12_wrong_145 (fun H locs hC => ?_)
        refine lv_lconst (v := 0) hx hb dX12_wrong_146 rfl ?_
        refine lv_lstore_n (lv' := [(1, .long 0), (0, .ref (o 0))]) hx hb dX12_wrong_147 rfl hl (by decide) rfl (fun ls hl => ?_)
        refine itr_inv2 (P := fun (x1_8 : Int64) (s_8 : Sto) => ∀ (H : Heap) (locs : List Loc) (ls : Array Slot), CZ D A s H locs (WM y o s_8) → lv_has ls 5 [(0, .ref (o 0)), (1, .long x1_8)] → W p l e R s m args below meth c H locs 0 0 Q (F0 m 148 ls [])) hf ?_ _ _ _ hC (lv_sub hl [1, 0] rfl)
        intro a_148 x1_8 s_8 ha_148 hf H locs ls hC hl
        refine lv_iconst (v := 0) hx hb dX12_wrong_148 (by decide) ?_
        refine lv_istore_n (lv' := [(3, .int 0), (0, .ref (o 0)), (1, .long x1_8)]) hx hb dX12_wrong_149 rfl hl (by decide) rfl (fun ls hl => ?_)
        refine itr_inv1 (P := fun (x3_9 : Int32) => ∀ (H : Heap) (locs : List Loc) (ls : Array Slot), CZ D A s H locs (WM y o s_8) → lv_has ls 5 [(0, .ref (o 0)), (1, .long x1_8), (3, .int x3_9)] → W p l e R s m args below meth c H locs 0 0 Q (F0 m 150 ls [])) hf ?_ _ _ _ hC (lv_sub hl [1, 2, 0] rfl)
        intro a_150 x3_9 ha_150 hf H locs ls hC hl
        refine lv_iload_n hx hb dX12_wrong_150 rfl (lv_at hl 2 rfl) ?_
        refine lv_aload_n hx hb dX12_wrong_151 rfl (lv_at hl 0 rfl) ?_
        refine gt_X12_254_m hx hb hta hown hK hC dX12_wrong_152 ?_
        obtain ⟨k_182, hk_182, hf⟩ := jn_inv0 hf
        have hj_182 : ∀  (H : Heap) (locs : List Loc) (ls : Array Slot), k_182 = some (v, σ2) → CZ D A s H locs (WM y o s_8) → lv_has ls 5 [(0, .ref (o 0)), (1, .long x1_8), (3, .int x3_9)] → W p l e R s m args below meth c H locs 0 0 Q (F0 m 182 ls []) := by
          intro H locs ls hf hC hl
          have hf := hk_182 hf
          refine lv_iload_n hx hb dX12_wrong_182 rfl (lv_at hl 2 rfl) ?_
          refine lv_aload_n hx hb dX12_wrong_183 rfl (lv_at hl 0 rfl) ?_
          refine gt_X12_254_m hx hb hta hown hK hC dX12_wrong_184 ?_
          refine lv_icmp_ne (tgt := 192) hx hb dX12_wrong_187 (by decide) (fun c_11 => ?_) (fun c_11 => ?_)
          · have hf := it_f c_11 hf
            refine lv_lload_n hx hb dX12_wrong_192 rfl (lv_at hl 1 rfl) ?_
            refine lv_lconst (v := 1) hx hb dX12_wrong_193 rfl ?_
            refine lv_iload_n hx hb dX12_wrong_194 rfl (lv_at hl 2 rfl) ?_
            refine lv_lshl hx hb dX12_wrong_195 rfl ?_
            refine lv_lor hx hb dX12_wrong_196 ?_
            obtain ⟨x1_12, e_12, hf⟩ := lt_inv hf
            refine nml e_12 ?_
            refine lv_lstore_n (lv' := [(1, .long x1_12), (0, .ref (o 0)), (3, .int x3_9)]) hx hb dX12_wrong_197 rfl hl (by decide) rfl (fun ls hl => ?_)
            refine lv_aload_n hx hb dX12_wrong_198 rfl (lv_at hl 1 rfl) ?_
            refine lv_iload_n hx hb dX12_wrong_199 rfl (lv_at hl 2 rfl) ?_
            obtain ⟨v_13, s_13, hc_13, hf⟩ := calv_inv hf
            refine cc_Vi (r_X12_goesThrough (D := D) (y := y) (o := o) (ad := ad) (av := av) hc_13 l) hx hb hml hta hown hK hN hV hA hC hRc hRs (by omega) (by omega) wq_1097 (q := 0) (ci := 12) rfl rfl wq_1098 wq_1099 wq_1012 wq_1096 hd_X12_goesThrough (As := [.int x3_9]) (rest := []) rfl rfl hl.1 rfl dX12_wrong_200 (fun H locs hC => ?_)
            refine lv_istore (lv' := [(4, .int v_13), (1, .long x1_12), (0, .ref (o 0)), (3, .int x3_9)]) hx hb dX12_wrong_203 hl (by decide) rfl (fun ls hl => ?_)
            refine lv_iload hx hb dX12_wrong_205 (lv_at hl 0 rfl) ?_
            refine lv_if_ge (tgt := 213) hx hb dX12_wrong_207 (by decide) (fun c_14 => ?_) (fun c_14 => ?_)
            · have hf := it_t c_14 hf
              refine lv_goto (tgt := 148) hx hb dX12_wrong_213 (by decide) ?_
              exact ha_148 _ _ hf _ _ _ hC (lv_sub hl [2, 1] rfl)
            · have hf := it_f c_14 hf
              refine lv_iload hx hb dX12_wrong_210 (lv_at hl 0 rfl) ?_
              exact hret _ _ _ _ _ _ (rv_inv hf).1 (congrArg (WM y o) (rv_inv hf).2) rfl dX12_wrong_212 hC
          · have hf := it_t c_11 hf
            refine lv_iconst (v := 0) hx hb dX12_wrong_190 (by decide) ?_
            exact hret _ _ _ _ _ _ (rv_inv hf).1 (congrArg (WM y o) (rv_inv hf).2) rfl dX12_wrong_191 hC
        refine lv_icmp_ge (tgt := 182) hx hb dX12_wrong_155 (by decide) (fun c_15 => ?_) (fun c_15 => ?_)
        · have hf := it_t c_15 hf
          exact hj_182 _ _ _ hf hC hl
        · have hf := it_f c_15 hf
          refine lv_aload_n hx hb dX12_wrong_158 rfl (lv_at hl 0 rfl) ?_
          refine gt_X12_41_m hx hb hta hown hK hC dX12_wrong_159 ?_
          refine lv_iload_n hx hb dX12_wrong_162 rfl (lv_at hl 2 rfl) ?_
          obtain ⟨hi_16, hf⟩ := ix_inv hf
          obtain ⟨v_16, e_16, hf⟩ := lt_inv hf
          refine al_M_11 hx hb hK hC hi_16 e_16 dX12_wrong_163 ?_
          refine lv_iconst (v := (-1)) hx hb dX12_wrong_164 (by decide) ?_
          obtain ⟨k_176, hk_176, hf⟩ := jn_inv0 hf
          have hj_176 : ∀  (H : Heap) (locs : List Loc) (ls : Array Slot), k_176 = some (v, σ2) → CZ D A s H locs (WM y o s_8) → lv_has ls 5 [(0, .ref (o 0)), (1, .long x1_8), (3, .int x3_9)] → W p l e R s m args below meth c H locs 0 0 Q (F0 m 176 ls []) := by
            intro H locs ls hf hC hl
            have hf := hk_176 hf
            obtain ⟨x3_18, e_18, hf⟩ := lt_inv hf
            refine lv_iinc (v := x3_18) (lv' := [(3, .int x3_18), (0, .ref (o 0)), (1, .long x1_8)]) hx hb dX12_wrong_176 hl (k := 2) rfl e_18.symm (by decide) rfl (fun ls hl => ?_)
            refine lv_goto (tgt := 150) hx hb dX12_wrong_179 (by decide) ?_
            exact ha_150 _ hf _ _ _ hC (lv_sub hl [1, 2, 0] rfl)
          refine lv_icmp_eq (tgt := 176) hx hb dX12_wrong_165 (by decide) (fun c_19 => ?_) (fun c_19 => ?_)
          · have hf := it_t c_19 hf
            exact hj_176 _ _ _ hf hC hl
          · have hf := it_f c_19 hf
            refine lv_lload_n hx hb dX12_wrong_168 rfl (lv_at hl 1 rfl) ?_
            refine lv_iload_n hx hb dX12_wrong_169 rfl (lv_at hl 2 rfl) ?_
            obtain ⟨v_20, hc_20, hf⟩ := calp_inv hf
            refine cc_Si (r_X12_has (D := D) (y := y) (w := WM y o s_8) (ad := ad) (av := av) hc_20 l) hx hb hml hta hown hK hN hV hA hC hRc hRs (by omega) (by omega) wq_1010 wq_1011 wq_1012 wq_1008 hd_X12_has (As := [.long x1_8, .int x3_9]) (rest := []) rfl rfl hl.1 rfl dX12_wrong_170 (fun H locs hC => ?_)
            refine lv_if_eq (tgt := 182) hx hb dX12_wrong_173 (by decide) (fun c_21 => ?_) (fun c_21 => ?_)
            · have hf := it_t c_21 hf
              exact hj_182 _ _ _ hf hC hl
            · have hf := it_f c_21 hf
              exact hj_176 _ _ _ hf hC hl
      · have hf := it_f c_6 hf
        refine lv_aload_n hx hb dX12_wrong_126 rfl (lv_at hl 0 rfl) ?_
        refine gt_X12_41_m hx hb hta hown hK hC dX12_wrong_127 ?_
        refine lv_iload_n hx hb dX12_wrong_130 rfl (lv_at hl 1 rfl) ?_
        refine lv_iconst (v := (-1)) hx hb dX12_wrong_131 (by decide) ?_
        obtain ⟨hi_22, hf⟩ := ix_inv hf
        obtain ⟨s_22, e_22, hf⟩ := lt_inv hf
        refine as_M_11 hx hb hK hC hi_22 e_22 dX12_wrong_132 (fun H locs hC => ?_)
        obtain ⟨x1_23, e_23, hf⟩ := lt_inv hf
        refine lv_iinc (v := x1_23) (lv' := [(1, .int x1_23), (0, .ref (o 0))]) hx hb dX12_wrong_133 hl (k := 1) rfl e_23.symm (by decide) rfl (fun ls hl => ?_)
        refine lv_goto (tgt := 120) hx hb dX12_wrong_136 (by decide) ?_
        exact ha_120 _ _ hf _ _ _ hC (lv_sub hl [1, 0] rfl)
    · have hf := it_f c_4 hf
      refine lv_aload_n hx hb dX12_wrong_54 rfl (lv_at hl 0 rfl) ?_
      refine gt_X12_38_m hx hb hta hown hK hC dX12_wrong_55 ?_
      refine lv_iconst (v := 3) hx hb dX12_wrong_58 (by decide) ?_
      refine lv_iload_n hx hb dX12_wrong_59 rfl (lv_at hl 1 rfl) ?_
      refine lv_imul hx hb dX12_wrong_60 ?_
      obtain ⟨hi_24, hf⟩ := ix_inv hf
      obtain ⟨v_24, e_24, hf⟩ := lt_inv hf
      refine al_M_10 hx hb hK hC hi_24 e_24 dX12_wrong_61 ?_
      refine lv_aload_n hx hb dX12_wrong_62 rfl (lv_at hl 0 rfl) ?_
      refine gt_X12_38_m hx hb hta hown hK hC dX12_wrong_63 ?_
      refine lv_iconst (v := 3) hx hb dX12_wrong_66 (by decide) ?_
      refine lv_iload_n hx hb dX12_wrong_67 rfl (lv_at hl 1 rfl) ?_
      refine lv_imul hx hb dX12_wrong_68 ?_
      refine lv_iconst (v := 1) hx hb dX12_wrong_69 (by decide) ?_
      refine lv_iadd hx hb dX12_wrong_70 ?_
      obtain ⟨hi_25, hf⟩ := ix_inv hf
      obtain ⟨v_25, e_25, hf⟩ := lt_inv hf
      refine al_M_10 hx hb hK hC hi_25 e_25 dX12_wrong_71 ?_
      refine lv_icmp_ge (tgt := 109) hx hb dX12_wrong_72 (by decide) (fun c_26 => ?_) (fun c_26 => ?_)
      · have hf := it_t c_26 hf
        refine lv_bipush (v := (-2)) hx hb dX12_wrong_109 (by decide) ?_
        exact hret _ _ _ _ _ _ (rv_inv hf).1 (congrArg (WM y o) (rv_inv hf).2) rfl dX12_wrong_111 hC
      · have hf := it_f c_26 hf
        refine lv_aload_n hx hb dX12_wrong_75 rfl (lv_at hl 0 rfl) ?_
        refine gt_X12_38_m hx hb hta hown hK hC dX12_wrong_76 ?_
        refine lv_iconst (v := 3) hx hb dX12_wrong_79 (by decide) ?_
        refine lv_iload_n hx hb dX12_wrong_80 rfl (lv_at hl 1 rfl) ?_
        refine lv_imul hx hb dX12_wrong_81 ?_
        refine lv_iconst (v := 1) hx hb dX12_wrong_82 (by decide) ?_
        refine lv_iadd hx hb dX12_wrong_83 ?_
        obtain ⟨hi_27, hf⟩ := ix_inv hf
        obtain ⟨v_27, e_27, hf⟩ := lt_inv hf
        refine al_M_10 hx hb hK hC hi_27 e_27 dX12_wrong_84 ?_
        refine lv_aload_n hx hb dX12_wrong_85 rfl (lv_at hl 0 rfl) ?_
        refine gt_X12_254_m hx hb hta hown hK hC dX12_wrong_86 ?_
        refine lv_icmp_gt (tgt := 109) hx hb dX12_wrong_89 (by decide) (fun c_28 => ?_) (fun c_28 => ?_)
        · have hf := it_t c_28 hf
          refine lv_bipush (v := (-2)) hx hb dX12_wrong_109 (by decide) ?_
          exact hret _ _ _ _ _ _ (rv_inv hf).1 (congrArg (WM y o) (rv_inv hf).2) rfl dX12_wrong_111 hC
        · have hf := it_f c_28 hf
          refine lv_aload_n hx hb dX12_wrong_92 rfl (lv_at hl 0 rfl) ?_
          refine gt_X12_38_m hx hb hta hown hK hC dX12_wrong_93 ?_
          refine lv_iconst (v := 3) hx hb dX12_wrong_96 (by decide) ?_
          refine lv_iload_n hx hb dX12_wrong_97 rfl (lv_at hl 1 rfl) ?_
          refine lv_imul hx hb dX12_wrong_98 ?_
          refine lv_iconst (v := 2) hx hb dX12_wrong_99 (by decide) ?_
          refine lv_iadd hx hb dX12_wrong_100 ?_
          obtain ⟨hi_29, hf⟩ := ix_inv hf
          obtain ⟨v_29, e_29, hf⟩ := lt_inv hf
          refine al_M_10 hx hb hK hC hi_29 e_29 dX12_wrong_101 ?_
          refine lv_aload_n hx hb dX12_wrong_102 rfl (lv_at hl 0 rfl) ?_
          refine gt_X12_254_m hx hb hta hown hK hC dX12_wrong_103 ?_
          refine lv_icmp_lt (tgt := 112) hx hb dX12_wrong_106 (by decide) (fun c_30 => ?_) (fun c_30 => ?_)
          · have hf := it_t c_30 hf
            obtain ⟨x1_31, e_31, hf⟩ := lt_inv hf
            refine lv_iinc (v := x1_31) (lv' := [(1, .int x1_31), (0, .ref (o 0))]) hx hb dX12_wrong_112 hl (k := 1) rfl e_31.symm (by decide) rfl (fun ls hl => ?_)
            refine lv_goto (tgt := 46) hx hb dX12_wrong_115 (by decide) ?_
            exact ha_46 _ hf _ _ _ hC (lv_sub hl [1, 0] rfl)
          · have hf := it_f c_30 hf
            refine lv_bipush (v := (-2)) hx hb dX12_wrong_109 (by decide) ?_
            exact hret _ _ _ _ _ _ (rv_inv hf).1 (congrArg (WM y o) (rv_inv hf).2) rfl dX12_wrong_111 hC
  · have hf := it_f c_2 hf
    refine lv_aload_n hx hb dX12_wrong_10 rfl (lv_at hl 0 rfl) ?_
    refine gt_X12_32_m hx hb hta hown hK hC dX12_wrong_11 ?_
    refine lv_iload_n hx hb dX12_wrong_14 rfl (lv_at hl 1 rfl) ?_
    obtain ⟨hi_32, hf⟩ := ix_inv hf
    obtain ⟨v_32, e_32, hf⟩ := lt_inv hf
    refine al_M_8 hx hb hK hC hi_32 e_32 dX12_wrong_15 ?_
    obtain ⟨v_33, hc_33, hf⟩ := calp_inv hf
    refine cc_Si (r_X12_goesTo (D := D) (y := y) (w := WM y o σ) (ad := ad) (av := av) hc_33 l) hx hb hml hta hown hK hN hV hA hC hRc hRs (by omega) (by omega) wq_1090 wq_1091 wq_1012 wq_1076 hd_X12_goesTo (As := [.int v_32]) (rest := []) rfl rfl hl.1 rfl dX12_wrong_16 (fun H locs hC => ?_)
    obtain ⟨k_38, hk_38, hf⟩ := jn_inv0 hf
    have hj_38 : ∀  (H : Heap) (locs : List Loc) (ls : Array Slot), k_38 = some (v, σ2) → CZ D A s H locs (WM y o σ) → lv_has ls 5 [(0, .ref (o 0)), (1, .int x1_1)] → W p l e R s m args below meth c H locs 0 0 Q (F0 m 38 ls []) := by
      intro H locs ls hf hC hl
      have hf := hk_38 hf
      obtain ⟨x1_35, e_35, hf⟩ := lt_inv hf
      refine lv_iinc (v := x1_35) (lv' := [(1, .int x1_35), (0, .ref (o 0))]) hx hb dX12_wrong_38 hl (k := 1) rfl e_35.symm (by decide) rfl (fun ls hl => ?_)
      refine lv_goto (tgt := 2) hx hb dX12_wrong_41 (by decide) ?_
      exact ha_2 _ hf _ _ _ hC (lv_sub hl [1, 0] rfl)
    refine lv_if_eq (tgt := 38) hx hb dX12_wrong_19 (by decide) (fun c_36 => ?_) (fun c_36 => ?_)
    · have hf := it_t c_36 hf
      exact hj_38 _ _ _ hf hC hl
    · have hf := it_f c_36 hf
      refine lv_aload_n hx hb dX12_wrong_22 rfl (lv_at hl 0 rfl) ?_
      refine gt_X12_35_m hx hb hta hown hK hC dX12_wrong_23 ?_
      refine lv_iload_n hx hb dX12_wrong_26 rfl (lv_at hl 1 rfl) ?_
      obtain ⟨hi_37, hf⟩ := ix_inv hf
      obtain ⟨v_37, e_37, hf⟩ := lt_inv hf
      refine al_M_9 hx hb hK hC hi_37 e_37 dX12_wrong_27 ?_
      refine lv_aload_n hx hb dX12_wrong_28 rfl (lv_at hl 0 rfl) ?_
      refine gt_X12_254_m hx hb hta hown hK hC dX12_wrong_29 ?_
      refine lv_icmp_lt (tgt := 38) hx hb dX12_wrong_32 (by decide) (fun c_38 => ?_) (fun c_38 => ?_)
      · have hf := it_t c_38 hf
        exact hj_38 _ _ _ hf hC hl
      · have hf := it_f c_38 hf
        refine lv_bipush (v := (-2)) hx hb dX12_wrong_35 (by decide) ?_
        exact hret _ _ _ _ _ _ (rv_inv hf).1 (congrArg (WM y o) (rv_inv hf).2) rfl dX12_wrong_37 hC

set_option maxHeartbeats 8000000 in
set_option maxRecDepth 100000 in
theorem r_X12_isCome {D : va_G} {y : Nat → ClassId} {o : Nat → Nat} {ad av : Nat → Nat} {x1 : Int32} {σ : Sto} {v : Int32} (hf : f_X12_isCome x1 σ = some v) (l : Launch) (sz : Nat) : Met l yX12_isCome (Cond.code yX12_isCome cX12_isCome 2 (some .boolean) :: ALW) { frames := 0, cells := 0, slots := 0, locals := 0 } (va_Pc [.ref (o 0), .int x1] (PZ D y ad av (WM y o σ) sz)) (QZi D (WM y o σ) v (WM y o σ) sz) 0 0 (va_A (WM y o σ) sz) := by
  refine met_i (by decide) (Nat.le_of_ble_eq_true rfl) ?_
  intro p e R s m args below meth c Q A ls hx hb hml hta hown hRc hRs hRf hRl hN hK hV hA hret hC hl
  have hl : lv_has ls 2 [(0, .ref (o 0)), (1, .int x1)] := hl
  unfold f_X12_isCome at hf
  refine lv_aload_n hx hb dX12_isCome_0 rfl (lv_at hl 0 rfl) ?_
  refine gt_X12_44_m hx hb hta hown hK hC dX12_isCome_1 ?_
  refine lv_iload_n hx hb dX12_isCome_4 rfl (lv_at hl 1 rfl) ?_
  obtain ⟨hi_1, hf⟩ := ix_inv hf
  obtain ⟨v_1, e_1, hf⟩ := lt_inv hf
  refine al_M_12 hx hb hK hC hi_1 e_1 dX12_isCome_5 ?_
  refine lv_iconst (v := (-1)) hx hb dX12_isCome_6 (by decide) ?_
  refine lv_icmp_eq (tgt := 14) hx hb dX12_isCome_7 (by decide) (fun c_2 => ?_) (fun c_2 => ?_)
  · have hf := it_t c_2 hf
    refine lv_iconst (v := 0) hx hb dX12_isCome_14 (by decide) ?_
    exact hret _ _ _ _ _ _ (Option.some.inj hf) rfl rfl dX12_isCome_15 hC
  · have hf := it_f c_2 hf
    refine lv_iconst (v := 1) hx hb dX12_isCome_10 (by decide) ?_
    refine lv_goto (tgt := 15) hx hb dX12_isCome_11 (by decide) ?_
    exact hret _ _ _ _ _ _ (Option.some.inj hf) rfl rfl dX12_isCome_15 hC

set_option maxHeartbeats 8000000 in
set_option maxRecDepth 100000 in
theorem r_X12_isOneOf_s107 {D : va_G} {y : Nat → ClassId} {ad av : Nat → Nat} {w : va_W} {x1 : Int32} {v : Int32} (hf : f_X12_isOneOf_s107 x1 = some v) (l : Launch) (sz : Nat) : Met l yX12_isOneOf (Cond.code yX12_isOneOf cX12_isOneOf 3 (some .boolean) :: ALW) { frames := 8, cells := 0, slots := 0, locals := 200 } (va_Pc [.int x1, .ref (ad 107)] (PZ D y ad av (w) sz)) (QZi D (w) v (w) sz) 0 0 (va_A (w) sz) := by
  refine met_i (by decide) (Nat.le_of_ble_eq_true rfl) ?_
  intro p e R s m args below meth c Q A ls hx hb hml hta hown hRc hRs hRf hRl hN hK hV hA hret hC hl
  have hl : lv_has ls 3 [(0, .int x1), (1, .ref (ad 107))] := hl
  unfold f_X12_isOneOf_s107 at hf
  refine lv_iconst (v := 0) hx hb dX12_isOneOf_0 (by decide) ?_
  refine lv_istore_n (lv' := [(2, .int 0), (0, .int x1), (1, .ref (ad 107))]) hx hb dX12_isOneOf_1 rfl hl (by decide) rfl (fun ls hl => ?_)
  refine itr_inv1 (P := fun (x2_1 : Int32) => ∀ (H : Heap) (locs : List Loc) (ls : Array Slot), CZ D A s H locs w → lv_has ls 3 [(0, .int x1), (1, .ref (ad 107)), (2, .int x2_1)] → W p l e R s m args below meth c H locs 0 0 Q (F0 m 2 ls [])) hf ?_ _ _ _ hC (lv_sub hl [1, 2, 0] rfl)
  intro a_2 x2_1 ha_2 hf H locs ls hC hl
  refine lv_iload_n hx hb dX12_isOneOf_2 rfl (lv_at hl 2 rfl) ?_
  refine lv_aload_n hx hb dX12_isOneOf_3 rfl (lv_at hl 1 rfl) ?_
  refine cc_length hx hb hml hta hown hK hN hV hA hC hRc hRs (by omega) (by omega) wq_1039 (i := 107) (n := 4) (by decide) (by decide) (by decide) hl.1 rfl dX12_isOneOf_4 (fun H locs hC => ?_)
  refine lv_icmp_ge (tgt := 27) hx hb dX12_isOneOf_7 (by decide) (fun c_2 => ?_) (fun c_2 => ?_)
  · have hf := it_t c_2 hf
    refine lv_iconst (v := 0) hx hb dX12_isOneOf_27 (by decide) ?_
    exact hret _ _ _ _ _ _ (Option.some.inj hf) rfl rfl dX12_isOneOf_28 hC
  · have hf := it_f c_2 hf
    refine lv_aload_n hx hb dX12_isOneOf_10 rfl (lv_at hl 1 rfl) ?_
    refine lv_iload_n hx hb dX12_isOneOf_11 rfl (lv_at hl 2 rfl) ?_
    obtain ⟨hi_3, hf⟩ := ix_inv hf
    obtain ⟨v_3, e_3, hf⟩ := lt_inv hf
    refine cc_charAt hx hb hml hta hown hK hN hV hA hC hRc hRs (by omega) (by omega) wq_1040 (i := 107) (n := 4) (by decide) (by decide) (by decide) hi_3 e_3 hl.1 rfl dX12_isOneOf_12 (fun H locs hC => ?_)
    refine lv_iload_n hx hb dX12_isOneOf_15 rfl (lv_at hl 0 rfl) ?_
    refine lv_icmp_ne (tgt := 21) hx hb dX12_isOneOf_16 (by decide) (fun c_4 => ?_) (fun c_4 => ?_)
    · have hf := it_f c_4 hf
      obtain ⟨x2_5, e_5, hf⟩ := lt_inv hf
      refine lv_iinc (v := x2_5) (lv' := [(2, .int x2_5), (0, .int x1), (1, .ref (ad 107))]) hx hb dX12_isOneOf_21 hl (k := 2) rfl e_5.symm (by decide) rfl (fun ls hl => ?_)
      refine lv_goto (tgt := 2) hx hb dX12_isOneOf_24 (by decide) ?_
      exact ha_2 _ hf _ _ _ hC (lv_sub hl [1, 2, 0] rfl)
    · have hf := it_t c_4 hf
      refine lv_iconst (v := 1) hx hb dX12_isOneOf_19 (by decide) ?_
      exact hret _ _ _ _ _ _ (Option.some.inj hf) rfl rfl dX12_isOneOf_20 hC

set_option maxHeartbeats 8000000 in
set_option maxRecDepth 100000 in
theorem r_X12_isCutAhead {D : va_G} {y : Nat → ClassId} {o : Nat → Nat} {ad av : Nat → Nat} {x1 : Int32} {σ : Sto} {v : Int32} (hf : f_X12_isCutAhead x1 σ = some v) (l : Launch) (sz : Nat) : Met l yX12_isCutAhead (Cond.code yX12_isCutAhead cX12_isCutAhead 3 (some .boolean) :: ALW) { frames := 9, cells := 0, slots := 0, locals := 222 } (va_Pc [.ref (o 0), .int x1] (PZ D y ad av (WM y o σ) sz)) (QZi D (WM y o σ) v (WM y o σ) sz) 0 0 (va_A (WM y o σ) sz) := by
  refine met_i (by decide) (Nat.le_of_ble_eq_true rfl) ?_
  intro p e R s m args below meth c Q A ls hx hb hml hta hown hRc hRs hRf hRl hN hK hV hA hret hC hl
  have hl : lv_has ls 3 [(0, .ref (o 0)), (1, .int x1)] := hl
  unfold f_X12_isCutAhead at hf
  refine lv_iload_n hx hb dX12_isCutAhead_0 rfl (lv_at hl 1 rfl) ?_
  obtain ⟨k_33, hk_33, hf⟩ := jn_inv0 hf
  have hj_33 : ∀  (H : Heap) (locs : List Loc) (ls : Array Slot), k_33 = some v → CZ D A s H locs (WM y o σ) → lv_has ls 3 [(0, .ref (o 0)), (1, .int x1)] → W p l e R s m args below meth c H locs 0 0 Q (F0 m 33 ls []) := by
    intro H locs ls hf hC hl
    have hf := hk_33 hf
    refine lv_iconst (v := 0) hx hb dX12_isCutAhead_33 (by decide) ?_
    refine lv_istore_n (lv' := [(2, .int 0), (0, .ref (o 0)), (1, .int x1)]) hx hb dX12_isCutAhead_34 rfl hl (by decide) rfl (fun ls hl => ?_)
    refine itr_inv1 (P := fun (x2_2 : Int32) => ∀ (H : Heap) (locs : List Loc) (ls : Array Slot), CZ D A s H locs (WM y o σ) → lv_has ls 3 [(0, .ref (o 0)), (1, .int x1), (2, .int x2_2)] → W p l e R s m args below meth c H locs 0 0 Q (F0 m 35 ls [])) hf ?_ _ _ _ hC (lv_sub hl [1, 2, 0] rfl)
    intro a_35 x2_2 ha_35 hf H locs ls hC hl
    refine lv_iload_n hx hb dX12_isCutAhead_35 rfl (lv_at hl 2 rfl) ?_
    refine lv_aload_n hx hb dX12_isCutAhead_36 rfl (lv_at hl 0 rfl) ?_
    refine gt_X12_286_m hx hb hta hown hK hC dX12_isCutAhead_37 ?_
    refine lv_icmp_ge (tgt := 81) hx hb dX12_isCutAhead_40 (by decide) (fun c_3 => ?_) (fun c_3 => ?_)
    · have hf := it_t c_3 hf
      refine lv_iconst (v := 0) hx hb dX12_isCutAhead_81 (by decide) ?_
      refine lv_istore_n (lv' := [(2, .int 0), (0, .ref (o 0)), (1, .int x1)]) hx hb dX12_isCutAhead_82 rfl hl (by decide) rfl (fun ls hl => ?_)
      refine itr_inv1 (P := fun (x2_4 : Int32) => ∀ (H : Heap) (locs : List Loc) (ls : Array Slot), CZ D A s H locs (WM y o σ) → lv_has ls 3 [(0, .ref (o 0)), (1, .int x1), (2, .int x2_4)] → W p l e R s m args below meth c H locs 0 0 Q (F0 m 83 ls [])) hf ?_ _ _ _ hC (lv_sub hl [1, 2, 0] rfl)
      intro a_83 x2_4 ha_83 hf H locs ls hC hl
      refine lv_iload_n hx hb dX12_isCutAhead_83 rfl (lv_at hl 2 rfl) ?_
      refine lv_iconst (v := 3) hx hb dX12_isCutAhead_84 (by decide) ?_
      refine lv_aload_n hx hb dX12_isCutAhead_85 rfl (lv_at hl 0 rfl) ?_
      refine gt_X12_289_m hx hb hta hown hK hC dX12_isCutAhead_86 ?_
      refine lv_imul hx hb dX12_isCutAhead_89 ?_
      refine lv_icmp_ge (tgt := 111) hx hb dX12_isCutAhead_90 (by decide) (fun c_5 => ?_) (fun c_5 => ?_)
      · have hf := it_t c_5 hf
        refine lv_iload_n hx hb dX12_isCutAhead_111 rfl (lv_at hl 1 rfl) ?_
        refine lv_if_ne (tgt := 119) hx hb dX12_isCutAhead_112 (by decide) (fun c_6 => ?_) (fun c_6 => ?_)
        · have hf := it_f c_6 hf
          refine lv_iconst (v := 0) hx hb dX12_isCutAhead_119 (by decide) ?_
          exact hret _ _ _ _ _ _ (Option.some.inj hf) rfl rfl dX12_isCutAhead_120 hC
        · have hf := it_t c_6 hf
          refine lv_iconst (v := 1) hx hb dX12_isCutAhead_115 (by decide) ?_
          refine lv_goto (tgt := 120) hx hb dX12_isCutAhead_116 (by decide) ?_
          exact hret _ _ _ _ _ _ (Option.some.inj hf) rfl rfl dX12_isCutAhead_120 hC
      · have hf := it_f c_5 hf
        refine lv_aload_n hx hb dX12_isCutAhead_93 rfl (lv_at hl 0 rfl) ?_
        refine gt_X12_29_m hx hb hta hown hK hC dX12_isCutAhead_94 ?_
        refine lv_iload_n hx hb dX12_isCutAhead_97 rfl (lv_at hl 2 rfl) ?_
        obtain ⟨hi_7, hf⟩ := ix_inv hf
        obtain ⟨v_7, e_7, hf⟩ := lt_inv hf
        refine al_M_7 hx hb hK hC hi_7 e_7 dX12_isCutAhead_98 ?_
        refine lv_iload_n hx hb dX12_isCutAhead_99 rfl (lv_at hl 1 rfl) ?_
        refine lv_icmp_ne (tgt := 105) hx hb dX12_isCutAhead_100 (by decide) (fun c_8 => ?_) (fun c_8 => ?_)
        · have hf := it_f c_8 hf
          obtain ⟨x2_9, e_9, hf⟩ := lt_inv hf
          refine lv_iinc (v := x2_9) (lv' := [(2, .int x2_9), (0, .ref (o 0)), (1, .int x1)]) hx hb dX12_isCutAhead_105 hl (k := 2) rfl e_9.symm (by decide) rfl (fun ls hl => ?_)
          refine lv_goto (tgt := 83) hx hb dX12_isCutAhead_108 (by decide) ?_
          exact ha_83 _ hf _ _ _ hC (lv_sub hl [1, 2, 0] rfl)
        · have hf := it_t c_8 hf
          refine lv_iconst (v := 1) hx hb dX12_isCutAhead_103 (by decide) ?_
          exact hret _ _ _ _ _ _ (Option.some.inj hf) rfl rfl dX12_isCutAhead_104 hC
    · have hf := it_f c_3 hf
      refine lv_aload_n hx hb dX12_isCutAhead_43 rfl (lv_at hl 0 rfl) ?_
      refine lv_iload_n hx hb dX12_isCutAhead_44 rfl (lv_at hl 2 rfl) ?_
      obtain ⟨v_10, hc_10, hf⟩ := calp_inv hf
      refine cc_Vi (r_X12_isCome (D := D) (y := y) (o := o) (ad := ad) (av := av) hc_10 l) hx hb hml hta hown hK hN hV hA hC hRc hRs (by omega) (by omega) wq_1105 (q := 0) (ci := 12) rfl rfl wq_1106 wq_1107 wq_1012 wq_1102 hd_X12_isCome (As := [.int x2_2]) (rest := []) rfl rfl hl.1 rfl dX12_isCutAhead_45 (fun H locs hC => ?_)
      obtain ⟨k_75, hk_75, hf⟩ := jn_inv0 hf
      have hj_75 : ∀  (H : Heap) (locs : List Loc) (ls : Array Slot), k_75 = some v → CZ D A s H locs (WM y o σ) → lv_has ls 3 [(0, .ref (o 0)), (1, .int x1), (2, .int x2_2)] → W p l e R s m args below meth c H locs 0 0 Q (F0 m 75 ls []) := by
        intro H locs ls hf hC hl
        have hf := hk_75 hf
        obtain ⟨x2_12, e_12, hf⟩ := lt_inv hf
        refine lv_iinc (v := x2_12) (lv' := [(2, .int x2_12), (0, .ref (o 0)), (1, .int x1)]) hx hb dX12_isCutAhead_75 hl (k := 2) rfl e_12.symm (by decide) rfl (fun ls hl => ?_)
        refine lv_goto (tgt := 35) hx hb dX12_isCutAhead_78 (by decide) ?_
        exact ha_35 _ hf _ _ _ hC (lv_sub hl [1, 2, 0] rfl)
      refine lv_if_eq (tgt := 75) hx hb dX12_isCutAhead_48 (by decide) (fun c_13 => ?_) (fun c_13 => ?_)
      · have hf := it_t c_13 hf
        exact hj_75 _ _ _ hf hC hl
      · have hf := it_f c_13 hf
        refine lv_aload_n hx hb dX12_isCutAhead_51 rfl (lv_at hl 0 rfl) ?_
        refine gt_X12_23_m hx hb hta hown hK hC dX12_isCutAhead_52 ?_
        refine lv_iload_n hx hb dX12_isCutAhead_55 rfl (lv_at hl 2 rfl) ?_
        obtain ⟨hi_14, hf⟩ := ix_inv hf
        obtain ⟨v_14, e_14, hf⟩ := lt_inv hf
        refine al_M_5 hx hb hK hC hi_14 e_14 dX12_isCutAhead_56 ?_
        obtain ⟨v_15, hc_15, hf⟩ := calp_inv hf
        refine cc_Si (r_X12_goesTo (D := D) (y := y) (w := WM y o σ) (ad := ad) (av := av) hc_15 l) hx hb hml hta hown hK hN hV hA hC hRc hRs (by omega) (by omega) wq_1090 wq_1091 wq_1012 wq_1076 hd_X12_goesTo (As := [.int v_14]) (rest := []) rfl rfl hl.1 rfl dX12_isCutAhead_57 (fun H locs hC => ?_)
        refine lv_if_eq (tgt := 75) hx hb dX12_isCutAhead_60 (by decide) (fun c_16 => ?_) (fun c_16 => ?_)
        · have hf := it_t c_16 hf
          exact hj_75 _ _ _ hf hC hl
        · have hf := it_f c_16 hf
          refine lv_aload_n hx hb dX12_isCutAhead_63 rfl (lv_at hl 0 rfl) ?_
          refine gt_X12_26_m hx hb hta hown hK hC dX12_isCutAhead_64 ?_
          refine lv_iload_n hx hb dX12_isCutAhead_67 rfl (lv_at hl 2 rfl) ?_
          obtain ⟨hi_17, hf⟩ := ix_inv hf
          obtain ⟨v_17, e_17, hf⟩ := lt_inv hf
          refine al_M_6 hx hb hK hC hi_17 e_17 dX12_isCutAhead_68 ?_
          refine lv_iload_n hx hb dX12_isCutAhead_69 rfl (lv_at hl 1 rfl) ?_
          refine lv_icmp_ne (tgt := 75) hx hb dX12_isCutAhead_70 (by decide) (fun c_18 => ?_) (fun c_18 => ?_)
          · have hf := it_f c_18 hf
            exact hj_75 _ _ _ hf hC hl
          · have hf := it_t c_18 hf
            refine lv_iconst (v := 1) hx hb dX12_isCutAhead_73 (by decide) ?_
            exact hret _ _ _ _ _ _ (Option.some.inj hf) rfl rfl dX12_isCutAhead_74 hC
  refine lv_if_le (tgt := 33) hx hb dX12_isCutAhead_1 (by decide) (fun c_19 => ?_) (fun c_19 => ?_)
  · have hf := it_t c_19 hf
    exact hj_33 _ _ _ hf hC hl
  · have hf := it_f c_19 hf
    refine lv_aload_n hx hb dX12_isCutAhead_4 rfl (lv_at hl 0 rfl) ?_
    refine gt_X12_23_m hx hb hta hown hK hC dX12_isCutAhead_5 ?_
    refine lv_iload_n hx hb dX12_isCutAhead_8 rfl (lv_at hl 1 rfl) ?_
    refine lv_iconst (v := 1) hx hb dX12_isCutAhead_9 (by decide) ?_
    refine lv_isub hx hb dX12_isCutAhead_10 ?_
    obtain ⟨hi_20, hf⟩ := ix_inv hf
    obtain ⟨v_20, e_20, hf⟩ := lt_inv hf
    refine al_M_5 hx hb hK hC hi_20 e_20 dX12_isCutAhead_11 ?_
    refine va_ldcSw hx hb hown (ss_Rm hV 7 rfl) dX12_isCutAhead_12 ?_
    obtain ⟨v_21, hc_21, hf⟩ := calp_inv hf
    refine cc_Si (r_X12_isOneOf_s107 (D := D) (y := y) (w := WM y o σ) (ad := ad) (av := av) hc_21 l) hx hb hml hta hown hK hN hV hA hC hRc hRs (by omega) (by omega) wq_1042 wq_1043 wq_1012 wq_1041 hd_X12_isOneOf (As := [.int v_20, .ref (ad 107)]) (rest := []) rfl rfl hl.1 rfl dX12_isCutAhead_15 (fun H locs hC => ?_)
    refine lv_if_ne (tgt := 31) hx hb dX12_isCutAhead_18 (by decide) (fun c_22 => ?_) (fun c_22 => ?_)
    · have hf := it_f c_22 hf
      refine lv_iconst (v := 1) hx hb dX12_isCutAhead_31 (by decide) ?_
      exact hret _ _ _ _ _ _ (Option.some.inj hf) rfl rfl dX12_isCutAhead_32 hC
    · have hf := it_t c_22 hf
      refine lv_aload_n hx hb dX12_isCutAhead_21 rfl (lv_at hl 0 rfl) ?_
      refine lv_iload_n hx hb dX12_isCutAhead_22 rfl (lv_at hl 1 rfl) ?_
      refine lv_iconst (v := 1) hx hb dX12_isCutAhead_23 (by decide) ?_
      refine lv_isub hx hb dX12_isCutAhead_24 ?_
      obtain ⟨v_23, hc_23, hf⟩ := calp_inv hf
      refine cc_Vi (r_X12_isCome (D := D) (y := y) (o := o) (ad := ad) (av := av) hc_23 l) hx hb hml hta hown hK hN hV hA hC hRc hRs (by omega) (by omega) wq_1105 (q := 0) (ci := 12) rfl rfl wq_1106 wq_1107 wq_1012 wq_1102 hd_X12_isCome (As := [.int (x1 - 1)]) (rest := []) rfl rfl hl.1 rfl dX12_isCutAhead_25 (fun H locs hC => ?_)
      refine lv_if_ne (tgt := 33) hx hb dX12_isCutAhead_28 (by decide) (fun c_24 => ?_) (fun c_24 => ?_)
      · have hf := it_f c_24 hf
        exact hj_33 _ _ _ hf hC hl
      · have hf := it_t c_24 hf
        refine lv_iconst (v := 1) hx hb dX12_isCutAhead_31 (by decide) ?_
        exact hret _ _ _ _ _ _ (Option.some.inj hf) rfl rfl dX12_isCutAhead_32 hC

set_option maxHeartbeats 8000000 in
set_option maxRecDepth 100000 in
theorem r_X12_laysBlocks {D : va_G} {y : Nat → ClassId} {o : Nat → Nat} {ad av : Nat → Nat} {σ : Sto} {σ2 : Sto} (hf : f_X12_laysBlocks σ = some σ2) (l : Launch) (sz : Nat) : Met l yX12_laysBlocks (Cond.code yX12_laysBlocks cX12_laysBlocks 2 none :: ALW) { frames := 10, cells := 0, slots := 0, locals := 244 } (va_Pc [.ref (o 0)] (PZ D y ad av (WM y o σ) sz)) (QZv D (WM y o σ) (WM y o σ2) sz) 0 0 (va_A (WM y o σ) sz) := by
  refine met_v (by decide) (Nat.le_of_ble_eq_true rfl) ?_
  intro p e R s m args below meth c Q A ls hx hb hml hta hown hRc hRs hRf hRl hN hK hV hA hret hC hl
  have hl : lv_has ls 2 [(0, .ref (o 0))] := hl
  unfold f_X12_laysBlocks at hf
  refine lv_aload_n hx hb dX12_laysBlocks_0 rfl (lv_at hl 0 rfl) ?_
  refine lv_iconst (v := 0) hx hb dX12_laysBlocks_1 (by decide) ?_
  obtain ⟨s_1, e_1, hf⟩ := lt_inv hf
  refine pt_X12_299_m hx hb hta hown hK hC e_1 dX12_laysBlocks_2 (fun H locs hC => ?_)
  refine lv_iconst (v := 0) hx hb dX12_laysBlocks_5 (by decide) ?_
  refine lv_istore_n (lv' := [(1, .int 0), (0, .ref (o 0))]) hx hb dX12_laysBlocks_6 rfl hl (by decide) rfl (fun ls hl => ?_)
  refine itr_inv2 (P := fun (x1_2 : Int32) (s_2 : Sto) => ∀ (H : Heap) (locs : List Loc) (ls : Array Slot), CZ D A s H locs (WM y o s_2) → lv_has ls 2 [(0, .ref (o 0)), (1, .int x1_2)] → W p l e R s m args below meth c H locs 0 0 Q (F0 m 7 ls [])) hf ?_ _ _ _ hC (lv_sub hl [1, 0] rfl)
  intro a_7 x1_2 s_2 ha_7 hf H locs ls hC hl
  refine lv_iload_n hx hb dX12_laysBlocks_7 rfl (lv_at hl 1 rfl) ?_
  refine lv_aload_n hx hb dX12_laysBlocks_8 rfl (lv_at hl 0 rfl) ?_
  refine gt_X12_286_m hx hb hta hown hK hC dX12_laysBlocks_9 ?_
  refine lv_icmp_ge (tgt := 91) hx hb dX12_laysBlocks_12 (by decide) (fun c_3 => ?_) (fun c_3 => ?_)
  · have hf := it_t c_3 hf
    exact hret _ _ _ _ _ (congrArg (WM y o) (Option.some.inj hf)) dX12_laysBlocks_91 hC
  · have hf := it_f c_3 hf
    refine lv_aload_n hx hb dX12_laysBlocks_15 rfl (lv_at hl 0 rfl) ?_
    refine gt_X12_53_m hx hb hta hown hK hC dX12_laysBlocks_16 ?_
    refine lv_iload_n hx hb dX12_laysBlocks_19 rfl (lv_at hl 1 rfl) ?_
    refine lv_iconst (v := (-1)) hx hb dX12_laysBlocks_20 (by decide) ?_
    obtain ⟨hi_4, hf⟩ := ix_inv hf
    obtain ⟨s_4, e_4, hf⟩ := lt_inv hf
    refine as_M_15 hx hb hK hC hi_4 e_4 dX12_laysBlocks_21 (fun H locs hC => ?_)
    refine lv_aload_n hx hb dX12_laysBlocks_22 rfl (lv_at hl 0 rfl) ?_
    refine lv_iload_n hx hb dX12_laysBlocks_23 rfl (lv_at hl 1 rfl) ?_
    obtain ⟨v_5, hc_5, hf⟩ := calp_inv hf
    refine cc_Vi (r_X12_isCome (D := D) (y := y) (o := o) (ad := ad) (av := av) hc_5 l) hx hb hml hta hown hK hN hV hA hC hRc hRs (by omega) (by omega) wq_1105 (q := 0) (ci := 12) rfl rfl wq_1106 wq_1107 wq_1012 wq_1102 hd_X12_isCome (As := [.int x1_2]) (rest := []) rfl rfl hl.1 rfl dX12_laysBlocks_24 (fun H locs hC => ?_)
    obtain ⟨k_85, hk_85, hf⟩ := jn_inv1 hf
    have hj_85 : ∀ (s_6 : Sto) (H : Heap) (locs : List Loc) (ls : Array Slot), k_85 s_6 = some σ2 → CZ D A s H locs (WM y o s_6) → lv_has ls 2 [(0, .ref (o 0)), (1, .int x1_2)] → W p l e R s m args below meth c H locs 0 0 Q (F0 m 85 ls []) := by
      intro s_6 H locs ls hf hC hl
      have hf := hk_85 _ hf
      obtain ⟨x1_7, e_7, hf⟩ := lt_inv hf
      refine lv_iinc (v := x1_7) (lv' := [(1, .int x1_7), (0, .ref (o 0))]) hx hb dX12_laysBlocks_85 hl (k := 1) rfl e_7.symm (by decide) rfl (fun ls hl => ?_)
      refine lv_goto (tgt := 7) hx hb dX12_laysBlocks_88 (by decide) ?_
      exact ha_7 _ _ hf _ _ _ hC (lv_sub hl [1, 0] rfl)
    refine lv_if_ne (tgt := 33) hx hb dX12_laysBlocks_27 (by decide) (fun c_8 => ?_) (fun c_8 => ?_)
    · have hf := it_f c_8 hf
      refine lv_aload_n hx hb dX12_laysBlocks_33 rfl (lv_at hl 0 rfl) ?_
      refine lv_iload_n hx hb dX12_laysBlocks_34 rfl (lv_at hl 1 rfl) ?_
      obtain ⟨v_9, hc_9, hf⟩ := calp_inv hf
      refine cc_Vi (r_X12_isCutAhead (D := D) (y := y) (o := o) (ad := ad) (av := av) hc_9 l) hx hb hml hta hown hK hN hV hA hC hRc hRs (by omega) (by omega) wq_1110 (q := 0) (ci := 12) rfl rfl wq_1111 wq_1112 wq_1012 wq_1108 hd_X12_isCutAhead (As := [.int x1_2]) (rest := []) rfl rfl hl.1 rfl dX12_laysBlocks_35 (fun H locs hC => ?_)
      obtain ⟨k_61, hk_61, hf⟩ := jn_inv1 hf
      have hj_61 : ∀ (s_10 : Sto) (H : Heap) (locs : List Loc) (ls : Array Slot), k_61 s_10 = some σ2 → CZ D A s H locs (WM y o s_10) → lv_has ls 2 [(0, .ref (o 0)), (1, .int x1_2)] → W p l e R s m args below meth c H locs 0 0 Q (F0 m 61 ls []) := by
        intro s_10 H locs ls hf hC hl
        have hf := hk_61 _ hf
        refine lv_aload_n hx hb dX12_laysBlocks_61 rfl (lv_at hl 0 rfl) ?_
        refine gt_X12_53_m hx hb hta hown hK hC dX12_laysBlocks_62 ?_
        refine lv_iload_n hx hb dX12_laysBlocks_65 rfl (lv_at hl 1 rfl) ?_
        refine lv_aload_n hx hb dX12_laysBlocks_66 rfl (lv_at hl 0 rfl) ?_
        refine gt_X12_299_m hx hb hta hown hK hC dX12_laysBlocks_67 ?_
        refine lv_iconst (v := 1) hx hb dX12_laysBlocks_70 (by decide) ?_
        refine lv_isub hx hb dX12_laysBlocks_71 ?_
        obtain ⟨hi_11, hf⟩ := ix_inv hf
        obtain ⟨s_11, e_11, hf⟩ := lt_inv hf
        refine as_M_15 hx hb hK hC hi_11 e_11 dX12_laysBlocks_72 (fun H locs hC => ?_)
        refine lv_aload_n hx hb dX12_laysBlocks_73 rfl (lv_at hl 0 rfl) ?_
        refine gt_X12_50_m hx hb hta hown hK hC dX12_laysBlocks_74 ?_
        refine lv_aload_n hx hb dX12_laysBlocks_77 rfl (lv_at hl 0 rfl) ?_
        refine gt_X12_299_m hx hb hta hown hK hC dX12_laysBlocks_78 ?_
        refine lv_iconst (v := 1) hx hb dX12_laysBlocks_81 (by decide) ?_
        refine lv_isub hx hb dX12_laysBlocks_82 ?_
        refine lv_iload_n hx hb dX12_laysBlocks_83 rfl (lv_at hl 1 rfl) ?_
        obtain ⟨hi_12, hf⟩ := ix_inv hf
        obtain ⟨s_12, e_12, hf⟩ := lt_inv hf
        refine as_M_14 hx hb hK hC hi_12 e_12 dX12_laysBlocks_84 (fun H locs hC => ?_)
        exact hj_85 _ _ _ _ hf hC hl
      refine lv_if_eq (tgt := 61) hx hb dX12_laysBlocks_38 (by decide) (fun c_13 => ?_) (fun c_13 => ?_)
      · have hf := it_t c_13 hf
        exact hj_61 _ _ _ _ hf hC hl
      · have hf := it_f c_13 hf
        refine lv_aload_n hx hb dX12_laysBlocks_41 rfl (lv_at hl 0 rfl) ?_
        refine gt_X12_47_m hx hb hta hown hK hC dX12_laysBlocks_42 ?_
        refine lv_aload_n hx hb dX12_laysBlocks_45 rfl (lv_at hl 0 rfl) ?_
        refine gt_X12_299_m hx hb hta hown hK hC dX12_laysBlocks_46 ?_
        refine lv_iload_n hx hb dX12_laysBlocks_49 rfl (lv_at hl 1 rfl) ?_
        obtain ⟨hi_14, hf⟩ := ix_inv hf
        obtain ⟨s_14, e_14, hf⟩ := lt_inv hf
        refine as_M_13 hx hb hK hC hi_14 e_14 dX12_laysBlocks_50 (fun H locs hC => ?_)
        refine lv_aload_n hx hb dX12_laysBlocks_51 rfl (lv_at hl 0 rfl) ?_
        refine lv_dup hx hb dX12_laysBlocks_52 rfl ?_
        refine gt_X12_299_m hx hb hta hown hK hC dX12_laysBlocks_53 ?_
        refine lv_iconst (v := 1) hx hb dX12_laysBlocks_56 (by decide) ?_
        refine lv_iadd hx hb dX12_laysBlocks_57 ?_
        obtain ⟨s_15, e_15, hf⟩ := lt_inv hf
        refine pt_X12_299_m hx hb hta hown hK hC e_15 dX12_laysBlocks_58 (fun H locs hC => ?_)
        exact hj_61 _ _ _ _ hf hC hl
    · have hf := it_t c_8 hf
      refine lv_goto (tgt := 85) hx hb dX12_laysBlocks_30 (by decide) ?_
      exact hj_85 _ _ _ _ hf hC hl

set_option maxHeartbeats 8000000 in
set_option maxRecDepth 100000 in
theorem r_X12_laysEdge {D : va_G} {y : Nat → ClassId} {o : Nat → Nat} {ad av : Nat → Nat} {x1 : Int32} {x2 : Int32} {x3 : Int32} {σ : Sto} {σ2 : Sto} (hf : f_X12_laysEdge x1 x2 x3 σ = some σ2) (l : Launch) (sz : Nat) : Met l yX12_laysEdge (Cond.code yX12_laysEdge cX12_laysEdge 5 none :: ALW) { frames := 0, cells := 0, slots := 0, locals := 0 } (va_Pc [.ref (o 0), .int x1, .int x2, .int x3] (PZ D y ad av (WM y o σ) sz)) (QZv D (WM y o σ) (WM y o σ2) sz) 0 0 (va_A (WM y o σ) sz) := by
  refine met_v (by decide) (Nat.le_of_ble_eq_true rfl) ?_
  intro p e R s m args below meth c Q A ls hx hb hml hta hown hRc hRs hRf hRl hN hK hV hA hret hC hl
  have hl : lv_has ls 5 [(0, .ref (o 0)), (1, .int x1), (2, .int x2), (3, .int x3)] := hl
  unfold f_X12_laysEdge at hf
  refine lv_iconst (v := 0) hx hb dX12_laysEdge_0 (by decide) ?_
  refine lv_istore (lv' := [(4, .int 0), (0, .ref (o 0)), (1, .int x1), (2, .int x2), (3, .int x3)]) hx hb dX12_laysEdge_1 hl (by decide) rfl (fun ls hl => ?_)
  refine itr_inv1 (P := fun (x4_1 : Int32) => ∀ (H : Heap) (locs : List Loc) (ls : Array Slot), CZ D A s H locs (WM y o σ) → lv_has ls 5 [(0, .ref (o 0)), (1, .int x1), (2, .int x2), (3, .int x3), (4, .int x4_1)] → W p l e R s m args below meth c H locs 0 0 Q (F0 m 3 ls [])) hf ?_ _ _ _ hC (lv_sub hl [1, 2, 3, 4, 0] rfl)
  intro a_3 x4_1 ha_3 hf H locs ls hC hl
  refine lv_iload hx hb dX12_laysEdge_3 (lv_at hl 4 rfl) ?_
  refine lv_aload_n hx hb dX12_laysEdge_5 rfl (lv_at hl 0 rfl) ?_
  refine gt_X12_327_m hx hb hta hown hK hC dX12_laysEdge_6 ?_
  refine lv_icmp_ge (tgt := 70) hx hb dX12_laysEdge_9 (by decide) (fun c_2 => ?_) (fun c_2 => ?_)
  · have hf := it_t c_2 hf
    refine lv_aload_n hx hb dX12_laysEdge_70 rfl (lv_at hl 0 rfl) ?_
    refine gt_X12_59_m hx hb hta hown hK hC dX12_laysEdge_71 ?_
    refine lv_aload_n hx hb dX12_laysEdge_74 rfl (lv_at hl 0 rfl) ?_
    refine gt_X12_327_m hx hb hta hown hK hC dX12_laysEdge_75 ?_
    refine lv_iload_n hx hb dX12_laysEdge_78 rfl (lv_at hl 1 rfl) ?_
    obtain ⟨hi_3, hf⟩ := ix_inv hf
    obtain ⟨s_3, e_3, hf⟩ := lt_inv hf
    refine as_M_17 hx hb hK hC hi_3 e_3 dX12_laysEdge_79 (fun H locs hC => ?_)
    refine lv_aload_n hx hb dX12_laysEdge_80 rfl (lv_at hl 0 rfl) ?_
    refine gt_X12_62_m hx hb hta hown hK hC dX12_laysEdge_81 ?_
    refine lv_aload_n hx hb dX12_laysEdge_84 rfl (lv_at hl 0 rfl) ?_
    refine gt_X12_327_m hx hb hta hown hK hC dX12_laysEdge_85 ?_
    refine lv_iload_n hx hb dX12_laysEdge_88 rfl (lv_at hl 2 rfl) ?_
    obtain ⟨hi_4, hf⟩ := ix_inv hf
    obtain ⟨s_4, e_4, hf⟩ := lt_inv hf
    refine as_M_18 hx hb hK hC hi_4 e_4 dX12_laysEdge_89 (fun H locs hC => ?_)
    refine lv_aload_n hx hb dX12_laysEdge_90 rfl (lv_at hl 0 rfl) ?_
    refine gt_X12_65_m hx hb hta hown hK hC dX12_laysEdge_91 ?_
    refine lv_aload_n hx hb dX12_laysEdge_94 rfl (lv_at hl 0 rfl) ?_
    refine gt_X12_327_m hx hb hta hown hK hC dX12_laysEdge_95 ?_
    refine lv_iload_n hx hb dX12_laysEdge_98 rfl (lv_at hl 3 rfl) ?_
    obtain ⟨hb_6, hf⟩ := bz_inv hf
    obtain ⟨hi_5, hf⟩ := ix_inv hf
    obtain ⟨s_5, e_5, hf⟩ := lt_inv hf
    refine as_M_19 hx hb hK hC hi_5 hb_6 e_5 dX12_laysEdge_99 (fun H locs hC => ?_)
    refine lv_aload_n hx hb dX12_laysEdge_100 rfl (lv_at hl 0 rfl) ?_
    refine lv_dup hx hb dX12_laysEdge_101 rfl ?_
    refine gt_X12_327_m hx hb hta hown hK hC dX12_laysEdge_102 ?_
    refine lv_iconst (v := 1) hx hb dX12_laysEdge_105 (by decide) ?_
    refine lv_iadd hx hb dX12_laysEdge_106 ?_
    obtain ⟨s_7, e_7, hf⟩ := lt_inv hf
    refine pt_X12_327_m hx hb hta hown hK hC e_7 dX12_laysEdge_107 (fun H locs hC => ?_)
    exact hret _ _ _ _ _ (congrArg (WM y o) (Option.some.inj hf)) dX12_laysEdge_110 hC
  · have hf := it_f c_2 hf
    refine lv_aload_n hx hb dX12_laysEdge_12 rfl (lv_at hl 0 rfl) ?_
    refine gt_X12_59_m hx hb hta hown hK hC dX12_laysEdge_13 ?_
    refine lv_iload hx hb dX12_laysEdge_16 (lv_at hl 4 rfl) ?_
    obtain ⟨hi_8, hf⟩ := ix_inv hf
    obtain ⟨v_8, e_8, hf⟩ := lt_inv hf
    refine al_M_17 hx hb hK hC hi_8 e_8 dX12_laysEdge_18 ?_
    refine lv_iload_n hx hb dX12_laysEdge_19 rfl (lv_at hl 1 rfl) ?_
    obtain ⟨k_64, hk_64, hf⟩ := jn_inv0 hf
    have hj_64 : ∀  (H : Heap) (locs : List Loc) (ls : Array Slot), k_64 = some σ2 → CZ D A s H locs (WM y o σ) → lv_has ls 5 [(0, .ref (o 0)), (1, .int x1), (2, .int x2), (3, .int x3), (4, .int x4_1)] → W p l e R s m args below meth c H locs 0 0 Q (F0 m 64 ls []) := by
      intro H locs ls hf hC hl
      have hf := hk_64 hf
      obtain ⟨x4_10, e_10, hf⟩ := lt_inv hf
      refine lv_iinc (v := x4_10) (lv' := [(4, .int x4_10), (0, .ref (o 0)), (1, .int x1), (2, .int x2), (3, .int x3)]) hx hb dX12_laysEdge_64 hl (k := 4) rfl e_10.symm (by decide) rfl (fun ls hl => ?_)
      refine lv_goto (tgt := 3) hx hb dX12_laysEdge_67 (by decide) ?_
      exact ha_3 _ hf _ _ _ hC (lv_sub hl [1, 2, 3, 4, 0] rfl)
    refine lv_icmp_ne (tgt := 64) hx hb dX12_laysEdge_20 (by decide) (fun c_11 => ?_) (fun c_11 => ?_)
    · have hf := it_f c_11 hf
      exact hj_64 _ _ _ hf hC hl
    · have hf := it_t c_11 hf
      refine lv_aload_n hx hb dX12_laysEdge_23 rfl (lv_at hl 0 rfl) ?_
      refine gt_X12_62_m hx hb hta hown hK hC dX12_laysEdge_24 ?_
      refine lv_iload hx hb dX12_laysEdge_27 (lv_at hl 4 rfl) ?_
      obtain ⟨hi_12, hf⟩ := ix_inv hf
      obtain ⟨v_12, e_12, hf⟩ := lt_inv hf
      refine al_M_18 hx hb hK hC hi_12 e_12 dX12_laysEdge_29 ?_
      refine lv_iload_n hx hb dX12_laysEdge_30 rfl (lv_at hl 2 rfl) ?_
      refine lv_icmp_eq (tgt := 37) hx hb dX12_laysEdge_31 (by decide) (fun c_13 => ?_) (fun c_13 => ?_)
      · have hf := it_t c_13 hf
        refine lv_aload_n hx hb dX12_laysEdge_37 rfl (lv_at hl 0 rfl) ?_
        refine gt_X12_65_m hx hb hta hown hK hC dX12_laysEdge_38 ?_
        refine lv_iload hx hb dX12_laysEdge_41 (lv_at hl 4 rfl) ?_
        refine lv_aload_n hx hb dX12_laysEdge_43 rfl (lv_at hl 0 rfl) ?_
        refine gt_X12_65_m hx hb hta hown hK hC dX12_laysEdge_44 ?_
        refine lv_iload hx hb dX12_laysEdge_47 (lv_at hl 4 rfl) ?_
        obtain ⟨hi_14, hf⟩ := ix_inv hf
        obtain ⟨v_14, e_14, hf⟩ := lt_inv hf
        refine al_M_19 hx hb hK hC hi_14 e_14 dX12_laysEdge_49 ?_
        obtain ⟨k_57, hk_57, hf⟩ := jn_inv0 hf
        have hj_57 : ∀  (H : Heap) (locs : List Loc) (ls : Array Slot), k_57 = some σ2 → CZ D A s H locs (WM y o σ) → lv_has ls 5 [] → W p l e R s m args below meth c H locs 0 0 Q (F0 m 57 ls [.int x4_1, .ref (o 19)]) := by
          intro H locs ls hf hC hl
          have hf := hk_57 hf
          refine lv_iconst (v := 1) hx hb dX12_laysEdge_57 (by decide) ?_
          refine lv_goto (tgt := 62) hx hb dX12_laysEdge_58 (by decide) ?_
          obtain ⟨hi_16, hf⟩ := ix_inv hf
          obtain ⟨s_16, e_16, hf⟩ := lt_inv hf
          refine as_M_19 hx hb hK hC hi_16 (Or.inr rfl) e_16 dX12_laysEdge_62 (fun H locs hC => ?_)
          exact hret _ _ _ _ _ (congrArg (WM y o) (Option.some.inj hf)) dX12_laysEdge_63 hC
        refine lv_if_ne (tgt := 57) hx hb dX12_laysEdge_50 (by decide) (fun c_17 => ?_) (fun c_17 => ?_)
        · have hf := it_f c_17 hf
          exact hj_57 _ _ _ hf hC (lv_sub hl [] rfl)
        · have hf := it_t c_17 hf
          refine lv_iload_n hx hb dX12_laysEdge_53 rfl (lv_at hl 3 rfl) ?_
          refine lv_if_eq (tgt := 61) hx hb dX12_laysEdge_54 (by decide) (fun c_18 => ?_) (fun c_18 => ?_)
          · have hf := it_t c_18 hf
            refine lv_iconst (v := 0) hx hb dX12_laysEdge_61 (by decide) ?_
            obtain ⟨hi_19, hf⟩ := ix_inv hf
            obtain ⟨s_19, e_19, hf⟩ := lt_inv hf
            refine as_M_19 hx hb hK hC hi_19 (Or.inl rfl) e_19 dX12_laysEdge_62 (fun H locs hC => ?_)
            exact hret _ _ _ _ _ (congrArg (WM y o) (Option.some.inj hf)) dX12_laysEdge_63 hC
          · have hf := it_f c_18 hf
            exact hj_57 _ _ _ hf hC (lv_sub hl [] rfl)
      · have hf := it_f c_13 hf
        refine lv_goto (tgt := 64) hx hb dX12_laysEdge_34 (by decide) ?_
        exact hj_64 _ _ _ hf hC hl

set_option maxHeartbeats 8000000 in
set_option maxRecDepth 100000 in
theorem r_X12_handlerOf_handler {D : va_G} {y : Nat → ClassId} {o : Nat → Nat} {ad av : Nat → Nat} {x2 : Int32} {x3 : Int32} {σ : Sto} {v : Int32} (hf : f_X12_handlerOf_handler x2 x3 σ = some v) (l : Launch) (sz : Nat) : Met l yX12_handlerOf (Cond.code yX12_handlerOf cX12_handlerOf 4 (some .int) :: ALW) { frames := 0, cells := 0, slots := 0, locals := 0 } (va_Pc [.ref (o 7), .int x2, .int x3] (PZ D y ad av (WM y o σ) sz)) (QZi D (WM y o σ) v (WM y o σ) sz) 0 0 (va_A (WM y o σ) sz) := by
  refine met_i (by decide) (Nat.le_of_ble_eq_true rfl) ?_
  intro p e R s m args below meth c Q A ls hx hb hml hta hown hRc hRs hRf hRl hN hK hV hA hret hC hl
  have hl : lv_has ls 4 [(0, .ref (o 7)), (1, .int x2), (2, .int x3)] := hl
  unfold f_X12_handlerOf_handler at hf
  refine lv_iconst (v := 0) hx hb dX12_handlerOf_0 (by decide) ?_
  refine lv_istore_n (lv' := [(3, .int 0), (0, .ref (o 7)), (1, .int x2), (2, .int x3)]) hx hb dX12_handlerOf_1 rfl hl (by decide) rfl (fun ls hl => ?_)
  refine itr_inv1 (P := fun (x3_1 : Int32) => ∀ (H : Heap) (locs : List Loc) (ls : Array Slot), CZ D A s H locs (WM y o σ) → lv_has ls 4 [(0, .ref (o 7)), (1, .int x2), (2, .int x3), (3, .int x3_1)] → W p l e R s m args below meth c H locs 0 0 Q (F0 m 2 ls [])) hf ?_ _ _ _ hC (lv_sub hl [1, 2, 3, 0] rfl)
  intro a_2 x3_1 ha_2 hf H locs ls hC hl
  refine lv_iload_n hx hb dX12_handlerOf_2 rfl (lv_at hl 3 rfl) ?_
  refine lv_iload_n hx hb dX12_handlerOf_3 rfl (lv_at hl 1 rfl) ?_
  refine lv_icmp_ge (tgt := 35) hx hb dX12_handlerOf_4 (by decide) (fun c_2 => ?_) (fun c_2 => ?_)
  · have hf := it_t c_2 hf
    refine lv_iconst (v := (-1)) hx hb dX12_handlerOf_35 (by decide) ?_
    exact hret _ _ _ _ _ _ (Option.some.inj hf) rfl rfl dX12_handlerOf_36 hC
  · have hf := it_f c_2 hf
    refine lv_iload_n hx hb dX12_handlerOf_7 rfl (lv_at hl 2 rfl) ?_
    refine lv_aload_n hx hb dX12_handlerOf_8 rfl (lv_at hl 0 rfl) ?_
    refine lv_iconst (v := 3) hx hb dX12_handlerOf_9 (by decide) ?_
    refine lv_iload_n hx hb dX12_handlerOf_10 rfl (lv_at hl 3 rfl) ?_
    refine lv_imul hx hb dX12_handlerOf_11 ?_
    obtain ⟨hi_3, hf⟩ := ix_inv hf
    obtain ⟨v_3, e_3, hf⟩ := lt_inv hf
    refine al_M_7 hx hb hK hC hi_3 e_3 dX12_handlerOf_12 ?_
    obtain ⟨k_29, hk_29, hf⟩ := jn_inv0 hf
    have hj_29 : ∀  (H : Heap) (locs : List Loc) (ls : Array Slot), k_29 = some v → CZ D A s H locs (WM y o σ) → lv_has ls 4 [(0, .ref (o 7)), (1, .int x2), (2, .int x3), (3, .int x3_1)] → W p l e R s m args below meth c H locs 0 0 Q (F0 m 29 ls []) := by
      intro H locs ls hf hC hl
      have hf := hk_29 hf
      obtain ⟨x3_5, e_5, hf⟩ := lt_inv hf
      refine lv_iinc (v := x3_5) (lv' := [(3, .int x3_5), (0, .ref (o 7)), (1, .int x2), (2, .int x3)]) hx hb dX12_handlerOf_29 hl (k := 3) rfl e_5.symm (by decide) rfl (fun ls hl => ?_)
      refine lv_goto (tgt := 2) hx hb dX12_handlerOf_32 (by decide) ?_
      exact ha_2 _ hf _ _ _ hC (lv_sub hl [1, 2, 3, 0] rfl)
    refine lv_icmp_lt (tgt := 29) hx hb dX12_handlerOf_13 (by decide) (fun c_6 => ?_) (fun c_6 => ?_)
    · have hf := it_t c_6 hf
      exact hj_29 _ _ _ hf hC hl
    · have hf := it_f c_6 hf
      refine lv_iload_n hx hb dX12_handlerOf_16 rfl (lv_at hl 2 rfl) ?_
      refine lv_aload_n hx hb dX12_handlerOf_17 rfl (lv_at hl 0 rfl) ?_
      refine lv_iconst (v := 3) hx hb dX12_handlerOf_18 (by decide) ?_
      refine lv_iload_n hx hb dX12_handlerOf_19 rfl (lv_at hl 3 rfl) ?_
      refine lv_imul hx hb dX12_handlerOf_20 ?_
      refine lv_iconst (v := 1) hx hb dX12_handlerOf_21 (by decide) ?_
      refine lv_iadd hx hb dX12_handlerOf_22 ?_
      obtain ⟨hi_7, hf⟩ := ix_inv hf
      obtain ⟨v_7, e_7, hf⟩ := lt_inv hf
      refine al_M_7 hx hb hK hC hi_7 e_7 dX12_handlerOf_23 ?_
      refine lv_icmp_ge (tgt := 29) hx hb dX12_handlerOf_24 (by decide) (fun c_8 => ?_) (fun c_8 => ?_)
      · have hf := it_t c_8 hf
        exact hj_29 _ _ _ hf hC hl
      · have hf := it_f c_8 hf
        refine lv_iload_n hx hb dX12_handlerOf_27 rfl (lv_at hl 3 rfl) ?_
        exact hret _ _ _ _ _ _ (Option.some.inj hf) rfl rfl dX12_handlerOf_28 hC

set_option maxHeartbeats 8000000 in
set_option maxRecDepth 100000 in
theorem r_X12_laysEdges {D : va_G} {y : Nat → ClassId} {o : Nat → Nat} {ad av : Nat → Nat} {σ : Sto} {σ2 : Sto} (hf : f_X12_laysEdges σ = some σ2) (l : Launch) (sz : Nat) : Met l yX12_laysEdges (Cond.code yX12_laysEdges cX12_laysEdges 5 none :: ALW) { frames := 10, cells := 0, slots := 0, locals := 242 } (va_Pc [.ref (o 0)] (PZ D y ad av (WM y o σ) sz)) (QZv D (WM y o σ) (WM y o σ2) sz) 0 0 (va_A (WM y o σ) sz) := by
  refine met_v (by decide) (Nat.le_of_ble_eq_true rfl) ?_
  intro p e R s m args below meth c Q A ls hx hb hml hta hown hRc hRs hRf hRl hN hK hV hA hret hC hl
  have hl : lv_has ls 5 [(0, .ref (o 0))] := hl
  unfold f_X12_laysEdges at hf
  refine lv_aload_n hx hb dX12_laysEdges_0 rfl (lv_at hl 0 rfl) ?_
  refine lv_iconst (v := 0) hx hb dX12_laysEdges_1 (by decide) ?_
  obtain ⟨s_1, e_1, hf⟩ := lt_inv hf
  refine pt_X12_327_m hx hb hta hown hK hC e_1 dX12_laysEdges_2 (fun H locs hC => ?_)
  refine lv_iconst (v := 0) hx hb dX12_laysEdges_5 (by decide) ?_
  refine lv_istore_n (lv' := [(1, .int 0), (0, .ref (o 0))]) hx hb dX12_laysEdges_6 rfl hl (by decide) rfl (fun ls hl => ?_)
  refine itr_inv2 (P := fun (x1_2 : Int32) (s_2 : Sto) => ∀ (H : Heap) (locs : List Loc) (ls : Array Slot), CZ D A s H locs (WM y o s_2) → lv_has ls 5 [(0, .ref (o 0)), (1, .int x1_2)] → W p l e R s m args below meth c H locs 0 0 Q (F0 m 7 ls [])) hf ?_ _ _ _ hC (lv_sub hl [1, 0] rfl)
  intro a_7 x1_2 s_2 ha_7 hf H locs ls hC hl
  refine lv_iload_n hx hb dX12_laysEdges_7 rfl (lv_at hl 1 rfl) ?_
  refine lv_aload_n hx hb dX12_laysEdges_8 rfl (lv_at hl 0 rfl) ?_
  refine gt_X12_299_m hx hb hta hown hK hC dX12_laysEdges_9 ?_
  refine lv_icmp_ge (tgt := 194) hx hb dX12_laysEdges_12 (by decide) (fun c_3 => ?_) (fun c_3 => ?_)
  · have hf := it_t c_3 hf
    exact hret _ _ _ _ _ (congrArg (WM y o) (Option.some.inj hf)) dX12_laysEdges_194 hC
  · have hf := it_f c_3 hf
    refine lv_aload_n hx hb dX12_laysEdges_15 rfl (lv_at hl 0 rfl) ?_
    refine gt_X12_23_m hx hb hta hown hK hC dX12_laysEdges_16 ?_
    refine lv_aload_n hx hb dX12_laysEdges_19 rfl (lv_at hl 0 rfl) ?_
    refine gt_X12_50_m hx hb hta hown hK hC dX12_laysEdges_20 ?_
    refine lv_iload_n hx hb dX12_laysEdges_23 rfl (lv_at hl 1 rfl) ?_
    obtain ⟨hi_4, hf⟩ := ix_inv hf
    obtain ⟨v_4, e_4, hf⟩ := lt_inv hf
    refine al_M_14 hx hb hK hC hi_4 e_4 dX12_laysEdges_24 ?_
    obtain ⟨hi_5, hf⟩ := ix_inv hf
    obtain ⟨v_5, e_5, hf⟩ := lt_inv hf
    refine al_M_5 hx hb hK hC hi_5 e_5 dX12_laysEdges_25 ?_
    refine lv_istore_n (lv' := [(2, .int v_5), (0, .ref (o 0)), (1, .int x1_2)]) hx hb dX12_laysEdges_26 rfl hl (by decide) rfl (fun ls hl => ?_)
    refine lv_iload_n hx hb dX12_laysEdges_27 rfl (lv_at hl 0 rfl) ?_
    obtain ⟨v_6, hc_6, hf⟩ := calp_inv hf
    refine cc_Si (r_X12_goesOn (D := D) (y := y) (w := WM y o s_2) (ad := ad) (av := av) hc_6 l) hx hb hml hta hown hK hN hV hA hC hRc hRs (by omega) (by omega) wq_1085 wq_1086 wq_1012 wq_1075 hd_X12_goesOn (As := [.int v_5]) (rest := []) rfl rfl hl.1 rfl dX12_laysEdges_28 (fun H locs hC => ?_)
    obtain ⟨k_53, hk_53, hf⟩ := jn_inv1 hf
    have hj_53 : ∀ (s_7 : Sto) (H : Heap) (locs : List Loc) (ls : Array Slot), k_53 s_7 = some σ2 → CZ D A s H locs (WM y o s_7) → lv_has ls 5 [(0, .ref (o 0)), (1, .int x1_2), (2, .int v_5)] → W p l e R s m args below meth c H locs 0 0 Q (F0 m 53 ls []) := by
      intro s_7 H locs ls hf hC hl
      have hf := hk_53 _ hf
      refine lv_iload_n hx hb dX12_laysEdges_53 rfl (lv_at hl 2 rfl) ?_
      obtain ⟨v_8, hc_8, hf⟩ := calp_inv hf
      refine cc_Si (r_X12_goesTo (D := D) (y := y) (w := WM y o s_7) (ad := ad) (av := av) hc_8 l) hx hb hml hta hown hK hN hV hA hC hRc hRs (by omega) (by omega) wq_1090 wq_1091 wq_1012 wq_1076 hd_X12_goesTo (As := [.int v_5]) (rest := []) rfl rfl hl.1 rfl dX12_laysEdges_54 (fun H locs hC => ?_)
      obtain ⟨k_82, hk_82, hf⟩ := jn_inv1 hf
      have hj_82 : ∀ (s_9 : Sto) (H : Heap) (locs : List Loc) (ls : Array Slot), k_82 s_9 = some σ2 → CZ D A s H locs (WM y o s_9) → lv_has ls 5 [(0, .ref (o 0)), (1, .int x1_2)] → W p l e R s m args below meth c H locs 0 0 Q (F0 m 82 ls []) := by
        intro s_9 H locs ls hf hC hl
        have hf := hk_82 _ hf
        refine lv_aload_n hx hb dX12_laysEdges_82 rfl (lv_at hl 0 rfl) ?_
        refine gt_X12_56_m hx hb hta hown hK hC dX12_laysEdges_83 ?_
        refine lv_iload_n hx hb dX12_laysEdges_86 rfl (lv_at hl 1 rfl) ?_
        refine lv_iconst (v := (-1)) hx hb dX12_laysEdges_87 (by decide) ?_
        obtain ⟨hi_10, hf⟩ := ix_inv hf
        obtain ⟨s_10, e_10, hf⟩ := lt_inv hf
        refine as_M_16 hx hb hK hC hi_10 e_10 dX12_laysEdges_88 (fun H locs hC => ?_)
        refine lv_aload_n hx hb dX12_laysEdges_89 rfl (lv_at hl 0 rfl) ?_
        refine gt_X12_47_m hx hb hta hown hK hC dX12_laysEdges_90 ?_
        refine lv_iload_n hx hb dX12_laysEdges_93 rfl (lv_at hl 1 rfl) ?_
        obtain ⟨hi_11, hf⟩ := ix_inv hf
        obtain ⟨v_11, e_11, hf⟩ := lt_inv hf
        refine al_M_13 hx hb hK hC hi_11 e_11 dX12_laysEdges_94 ?_
        refine lv_istore_n (lv' := [(3, .int v_11), (0, .ref (o 0)), (1, .int x1_2)]) hx hb dX12_laysEdges_95 rfl hl (by decide) rfl (fun ls hl => ?_)
        refine itr_inv2 (P := fun (x3_12 : Int32) (s_12 : Sto) => ∀ (H : Heap) (locs : List Loc) (ls : Array Slot), CZ D A s H locs (WM y o s_12) → lv_has ls 5 [(0, .ref (o 0)), (1, .int x1_2), (3, .int x3_12)] → W p l e R s m args below meth c H locs 0 0 Q (F0 m 96 ls [])) hf ?_ _ _ _ hC (lv_sub hl [1, 2, 0] rfl)
        intro a_96 x3_12 s_12 ha_96 hf H locs ls hC hl
        refine lv_iload_n hx hb dX12_laysEdges_96 rfl (lv_at hl 2 rfl) ?_
        refine lv_aload_n hx hb dX12_laysEdges_97 rfl (lv_at hl 0 rfl) ?_
        refine gt_X12_50_m hx hb hta hown hK hC dX12_laysEdges_98 ?_
        refine lv_iload_n hx hb dX12_laysEdges_101 rfl (lv_at hl 1 rfl) ?_
        obtain ⟨hi_13, hf⟩ := ix_inv hf
        obtain ⟨v_13, e_13, hf⟩ := lt_inv hf
        refine al_M_14 hx hb hK hC hi_13 e_13 dX12_laysEdges_102 ?_
        refine lv_icmp_gt (tgt := 166) hx hb dX12_laysEdges_103 (by decide) (fun c_14 => ?_) (fun c_14 => ?_)
        · have hf := it_t c_14 hf
          refine lv_aload_n hx hb dX12_laysEdges_166 rfl (lv_at hl 0 rfl) ?_
          refine gt_X12_56_m hx hb hta hown hK hC dX12_laysEdges_167 ?_
          refine lv_iload_n hx hb dX12_laysEdges_170 rfl (lv_at hl 1 rfl) ?_
          obtain ⟨hi_15, hf⟩ := ix_inv hf
          obtain ⟨v_15, e_15, hf⟩ := lt_inv hf
          refine al_M_16 hx hb hK hC hi_15 e_15 dX12_laysEdges_171 ?_
          refine lv_iconst (v := (-1)) hx hb dX12_laysEdges_172 (by decide) ?_
          obtain ⟨k_188, hk_188, hf⟩ := jn_inv1 hf
          have hj_188 : ∀ (s_16 : Sto) (H : Heap) (locs : List Loc) (ls : Array Slot), k_188 s_16 = some σ2 → CZ D A s H locs (WM y o s_16) → lv_has ls 5 [(0, .ref (o 0)), (1, .int x1_2)] → W p l e R s m args below meth c H locs 0 0 Q (F0 m 188 ls []) := by
            intro s_16 H locs ls hf hC hl
            have hf := hk_188 _ hf
            obtain ⟨x1_17, e_17, hf⟩ := lt_inv hf
            refine lv_iinc (v := x1_17) (lv' := [(1, .int x1_17), (0, .ref (o 0))]) hx hb dX12_laysEdges_188 hl (k := 1) rfl e_17.symm (by decide) rfl (fun ls hl => ?_)
            refine lv_goto (tgt := 7) hx hb dX12_laysEdges_191 (by decide) ?_
            exact ha_7 _ _ hf _ _ _ hC (lv_sub hl [1, 0] rfl)
          refine lv_icmp_eq (tgt := 188) hx hb dX12_laysEdges_173 (by decide) (fun c_18 => ?_) (fun c_18 => ?_)
          · have hf := it_t c_18 hf
            exact hj_188 _ _ _ _ hf hC (lv_sub hl [0, 1] rfl)
          · have hf := it_f c_18 hf
            refine lv_aload_n hx hb dX12_laysEdges_176 rfl (lv_at hl 0 rfl) ?_
            refine lv_iload_n hx hb dX12_laysEdges_177 rfl (lv_at hl 1 rfl) ?_
            refine lv_aload_n hx hb dX12_laysEdges_178 rfl (lv_at hl 0 rfl) ?_
            refine gt_X12_56_m hx hb hta hown hK hC dX12_laysEdges_179 ?_
            refine lv_iload_n hx hb dX12_laysEdges_182 rfl (lv_at hl 1 rfl) ?_
            obtain ⟨hi_19, hf⟩ := ix_inv hf
            obtain ⟨v_19, e_19, hf⟩ := lt_inv hf
            refine al_M_16 hx hb hK hC hi_19 e_19 dX12_laysEdges_183 ?_
            refine lv_iconst (v := 1) hx hb dX12_laysEdges_184 (by decide) ?_
            obtain ⟨s_20, hc_20, hf⟩ := cals_inv hf
            refine cc_Vv (r_X12_laysEdge (D := D) (y := y) (o := o) (ad := ad) (av := av) hc_20 l) hx hb hml hta hown hK hN hV hA hC hRc hRs (by omega) (by omega) wq_1116 (q := 0) (ci := 12) rfl rfl wq_1117 wq_1118 wq_1012 wq_1114 hd_X12_laysEdge (As := [.int x1_2, .int v_19, .int 1]) (rest := []) rfl rfl hl.1 rfl dX12_laysEdges_185 (fun H locs hC => ?_)
            exact hj_188 _ _ _ _ hf hC (lv_sub hl [0, 1] rfl)
        · have hf := it_f c_14 hf
          refine lv_aload_n hx hb dX12_laysEdges_106 rfl (lv_at hl 0 rfl) ?_
          refine gt_X12_29_m hx hb hta hown hK hC dX12_laysEdges_107 ?_
          refine lv_aload_n hx hb dX12_laysEdges_110 rfl (lv_at hl 0 rfl) ?_
          refine gt_X12_289_m hx hb hta hown hK hC dX12_laysEdges_111 ?_
          refine lv_iload_n hx hb dX12_laysEdges_114 rfl (lv_at hl 2 rfl) ?_
          obtain ⟨v_21, hc_21, hf⟩ := calp_inv hf
          refine cc_Si (r_X12_handlerOf_handler (D := D) (y := y) (o := o) (ad := ad) (av := av) hc_21 l) hx hb hml hta hown hK hN hV hA hC hRc hRs (by omega) (by omega) wq_1092 wq_1093 wq_1012 wq_1077 hd_X12_handlerOf (As := [.ref (o 7), .int (s_12.1 16 0), .int x3_12]) (rest := []) rfl rfl hl.1 rfl dX12_laysEdges_115 (fun H locs hC => ?_)
          refine lv_istore (lv' := [(4, .int v_21), (0, .ref (o 0)), (1, .int x1_2), (3, .int x3_12)]) hx hb dX12_laysEdges_118 hl (by decide) rfl (fun ls hl => ?_)
          refine lv_aload_n hx hb dX12_laysEdges_120 rfl (lv_at hl 1 rfl) ?_
          refine gt_X12_23_m hx hb hta hown hK hC dX12_laysEdges_121 ?_
          refine lv_iload_n hx hb dX12_laysEdges_124 rfl (lv_at hl 3 rfl) ?_
          obtain ⟨hi_22, hf⟩ := ix_inv hf
          obtain ⟨v_22, e_22, hf⟩ := lt_inv hf
          refine al_M_5 hx hb hK hC hi_22 e_22 dX12_laysEdges_125 ?_
          obtain ⟨v_23, hc_23, hf⟩ := calp_inv hf
          refine cc_Si (r_X12_canThrow (D := D) (y := y) (w := WM y o s_12) (ad := ad) (av := av) hc_23 l) hx hb hml hta hown hK hN hV hA hC hRc hRs (by omega) (by omega) wq_1094 wq_1095 wq_1012 wq_1074 hd_X12_canThrow (As := [.int v_22]) (rest := []) rfl rfl hl.1 rfl dX12_laysEdges_126 (fun H locs hC => ?_)
          obtain ⟨k_160, hk_160, hf⟩ := jn_inv1 hf
          have hj_160 : ∀ (s_24 : Sto) (H : Heap) (locs : List Loc) (ls : Array Slot), k_160 s_24 = some σ2 → CZ D A s H locs (WM y o s_24) → lv_has ls 5 [(0, .ref (o 0)), (1, .int x1_2), (3, .int x3_12)] → W p l e R s m args below meth c H locs 0 0 Q (F0 m 160 ls []) := by
            intro s_24 H locs ls hf hC hl
            have hf := hk_160 _ hf
            obtain ⟨x3_25, e_25, hf⟩ := lt_inv hf
            refine lv_iinc (v := x3_25) (lv' := [(3, .int x3_25), (0, .ref (o 0)), (1, .int x1_2)]) hx hb dX12_laysEdges_160 hl (k := 2) rfl e_25.symm (by decide) rfl (fun ls hl => ?_)
            refine lv_goto (tgt := 96) hx hb dX12_laysEdges_163 (by decide) ?_
            exact ha_96 _ _ hf _ _ _ hC (lv_sub hl [1, 2, 0] rfl)
          refine lv_if_eq (tgt := 160) hx hb dX12_laysEdges_129 (by decide) (fun c_26 => ?_) (fun c_26 => ?_)
          · have hf := it_t c_26 hf
            exact hj_160 _ _ _ _ hf hC (lv_sub hl [1, 2, 3] rfl)
          · have hf := it_f c_26 hf
            refine lv_iload hx hb dX12_laysEdges_132 (lv_at hl 0 rfl) ?_
            refine lv_iconst (v := (-1)) hx hb dX12_laysEdges_134 (by decide) ?_
            refine lv_icmp_eq (tgt := 160) hx hb dX12_laysEdges_135 (by decide) (fun c_27 => ?_) (fun c_27 => ?_)
            · have hf := it_t c_27 hf
              exact hj_160 _ _ _ _ hf hC (lv_sub hl [1, 2, 3] rfl)
            · have hf := it_f c_27 hf
              refine lv_aload_n hx hb dX12_laysEdges_138 rfl (lv_at hl 1 rfl) ?_
              refine gt_X12_56_m hx hb hta hown hK hC dX12_laysEdges_139 ?_
              refine lv_iload_n hx hb dX12_laysEdges_142 rfl (lv_at hl 2 rfl) ?_
              refine lv_aload_n hx hb dX12_laysEdges_143 rfl (lv_at hl 1 rfl) ?_
              refine gt_X12_53_m hx hb hta hown hK hC dX12_laysEdges_144 ?_
              refine lv_aload_n hx hb dX12_laysEdges_147 rfl (lv_at hl 1 rfl) ?_
              refine gt_X12_29_m hx hb hta hown hK hC dX12_laysEdges_148 ?_
              refine lv_iconst (v := 3) hx hb dX12_laysEdges_151 (by decide) ?_
              refine lv_iload hx hb dX12_laysEdges_152 (lv_at hl 0 rfl) ?_
              refine lv_imul hx hb dX12_laysEdges_154 ?_
              refine lv_iconst (v := 2) hx hb dX12_laysEdges_155 (by decide) ?_
              refine lv_iadd hx hb dX12_laysEdges_156 ?_
              obtain ⟨hi_28, hf⟩ := ix_inv hf
              obtain ⟨v_28, e_28, hf⟩ := lt_inv hf
              refine al_M_7 hx hb hK hC hi_28 e_28 dX12_laysEdges_157 ?_
              obtain ⟨hi_29, hf⟩ := ix_inv hf
              obtain ⟨v_29, e_29, hf⟩ := lt_inv hf
              refine al_M_15 hx hb hK hC hi_29 e_29 dX12_laysEdges_158 ?_
              obtain ⟨hi_30, hf⟩ := ix_inv hf
              obtain ⟨s_30, e_30, hf⟩ := lt_inv hf
              refine as_M_16 hx hb hK hC hi_30 e_30 dX12_laysEdges_159 (fun H locs hC => ?_)
              exact hj_160 _ _ _ _ hf hC (lv_sub hl [1, 2, 3] rfl)
      refine lv_if_eq (tgt := 82) hx hb dX12_laysEdges_57 (by decide) (fun c_31 => ?_) (fun c_31 => ?_)
      · have hf := it_t c_31 hf
        exact hj_82 _ _ _ _ hf hC (lv_sub hl [0, 1] rfl)
      · have hf := it_f c_31 hf
        refine lv_aload_n hx hb dX12_laysEdges_60 rfl (lv_at hl 0 rfl) ?_
        refine lv_iload_n hx hb dX12_laysEdges_61 rfl (lv_at hl 1 rfl) ?_
        refine lv_aload_n hx hb dX12_laysEdges_62 rfl (lv_at hl 0 rfl) ?_
        refine gt_X12_53_m hx hb hta hown hK hC dX12_laysEdges_63 ?_
        refine lv_aload_n hx hb dX12_laysEdges_66 rfl (lv_at hl 0 rfl) ?_
        refine gt_X12_26_m hx hb hta hown hK hC dX12_laysEdges_67 ?_
        refine lv_aload_n hx hb dX12_laysEdges_70 rfl (lv_at hl 0 rfl) ?_
        refine gt_X12_50_m hx hb hta hown hK hC dX12_laysEdges_71 ?_
        refine lv_iload_n hx hb dX12_laysEdges_74 rfl (lv_at hl 1 rfl) ?_
        obtain ⟨hi_32, hf⟩ := ix_inv hf
        obtain ⟨v_32, e_32, hf⟩ := lt_inv hf
        refine al_M_14 hx hb hK hC hi_32 e_32 dX12_laysEdges_75 ?_
        obtain ⟨hi_33, hf⟩ := ix_inv hf
        obtain ⟨v_33, e_33, hf⟩ := lt_inv hf
        refine al_M_6 hx hb hK hC hi_33 e_33 dX12_laysEdges_76 ?_
        obtain ⟨hi_34, hf⟩ := ix_inv hf
        obtain ⟨v_34, e_34, hf⟩ := lt_inv hf
        refine al_M_15 hx hb hK hC hi_34 e_34 dX12_laysEdges_77 ?_
        refine lv_iconst (v := 0) hx hb dX12_laysEdges_78 (by decide) ?_
        obtain ⟨s_35, hc_35, hf⟩ := cals_inv hf
        refine cc_Vv (r_X12_laysEdge (D := D) (y := y) (o := o) (ad := ad) (av := av) hc_35 l) hx hb hml hta hown hK hN hV hA hC hRc hRs (by omega) (by omega) wq_1116 (q := 0) (ci := 12) rfl rfl wq_1117 wq_1118 wq_1012 wq_1114 hd_X12_laysEdge (As := [.int x1_2, .int v_34, .int 0]) (rest := []) rfl rfl hl.1 rfl dX12_laysEdges_79 (fun H locs hC => ?_)
        exact hj_82 _ _ _ _ hf hC (lv_sub hl [0, 1] rfl)
    refine lv_if_eq (tgt := 53) hx hb dX12_laysEdges_31 (by decide) (fun c_36 => ?_) (fun c_36 => ?_)
    · have hf := it_t c_36 hf
      exact hj_53 _ _ _ _ hf hC (lv_sub hl [1, 2, 0] rfl)
    · have hf := it_f c_36 hf
      refine lv_aload_n hx hb dX12_laysEdges_34 rfl (lv_at hl 1 rfl) ?_
      refine lv_iload_n hx hb dX12_laysEdges_35 rfl (lv_at hl 2 rfl) ?_
      refine lv_aload_n hx hb dX12_laysEdges_36 rfl (lv_at hl 1 rfl) ?_
      refine gt_X12_53_m hx hb hta hown hK hC dX12_laysEdges_37 ?_
      refine lv_aload_n hx hb dX12_laysEdges_40 rfl (lv_at hl 1 rfl) ?_
      refine gt_X12_50_m hx hb hta hown hK hC dX12_laysEdges_41 ?_
      refine lv_iload_n hx hb dX12_laysEdges_44 rfl (lv_at hl 2 rfl) ?_
      obtain ⟨hi_37, hf⟩ := ix_inv hf
      obtain ⟨v_37, e_37, hf⟩ := lt_inv hf
      refine al_M_14 hx hb hK hC hi_37 e_37 dX12_laysEdges_45 ?_
      refine lv_iconst (v := 1) hx hb dX12_laysEdges_46 (by decide) ?_
      refine lv_iadd hx hb dX12_laysEdges_47 ?_
      obtain ⟨hi_38, hf⟩ := ix_inv hf
      obtain ⟨v_38, e_38, hf⟩ := lt_inv hf
      refine al_M_15 hx hb hK hC hi_38 e_38 dX12_laysEdges_48 ?_
      refine lv_iconst (v := 0) hx hb dX12_laysEdges_49 (by decide) ?_
      obtain ⟨s_39, hc_39, hf⟩ := cals_inv hf
      refine cc_Vv (r_X12_laysEdge (D := D) (y := y) (o := o) (ad := ad) (av := av) hc_39 l) hx hb hml hta hown hK hN hV hA hC hRc hRs (by omega) (by omega) wq_1116 (q := 0) (ci := 12) rfl rfl wq_1117 wq_1118 wq_1012 wq_1114 hd_X12_laysEdge (As := [.int x1_2, .int v_38, .int 0]) (rest := []) rfl rfl hl.1 rfl dX12_laysEdges_50 (fun H locs hC => ?_)
      exact hj_53 _ _ _ _ hf hC (lv_sub hl [1, 2, 0] rfl)

set_option maxHeartbeats 8000000 in
set_option maxRecDepth 100000 in
theorem r_X12_reached {D : va_G} {y : Nat → ClassId} {o : Nat → Nat} {ad av : Nat → Nat} {x1 : Int32} {x2 : Int64} {σ : Sto} {v : Int64} (hf : f_X12_reached x1 x2 σ = some v) (l : Launch) (sz : Nat) : Met l yX12_reached (Cond.code yX12_reached cX12_reached 8 (some .long) :: ALW) { frames := 1, cells := 0, slots := 0, locals := 22 } (va_Pc [.ref (o 0), .int x1, .long x2] (PZ D y ad av (WM y o σ) sz)) (QZl D (WM y o σ) v (WM y o σ) sz) 0 0 (va_A (WM y o σ) sz) := by
  refine met_l (by decide) (Nat.le_of_ble_eq_true rfl) ?_
  intro p e R s m args below meth c Q A ls hx hb hml hta hown hRc hRs hRf hRl hN hK hV hA hret hC hl
  have hl : lv_has ls 8 [(0, .ref (o 0)), (1, .int x1), (2, .long x2)] := hl
  unfold f_X12_reached at hf
  refine lv_lconst (v := 1) hx hb dX12_reached_0 rfl ?_
  refine lv_iload_n hx hb dX12_reached_1 rfl (lv_at hl 1 rfl) ?_
  refine lv_lshl hx hb dX12_reached_2 rfl ?_
  obtain ⟨x4_1, e_1, hf⟩ := lt_inv hf
  refine nml e_1 ?_
  refine lv_lstore (lv' := [(4, .long x4_1), (0, .ref (o 0)), (1, .int x1), (2, .long x2)]) hx hb dX12_reached_3 hl (by decide) rfl (fun ls hl => ?_)
  refine lv_iconst (v := 1) hx hb dX12_reached_5 (by decide) ?_
  refine lv_istore (lv' := [(6, .int 1), (4, .long x4_1), (0, .ref (o 0)), (1, .int x1), (2, .long x2)]) hx hb dX12_reached_6 hl (by decide) rfl (fun ls hl => ?_)
  refine itr_inv2 (P := fun (x4_2 : Int64) (x6_2 : Int32) => ∀ (H : Heap) (locs : List Loc) (ls : Array Slot), CZ D A s H locs (WM y o σ) → lv_has ls 8 [(0, .ref (o 0)), (2, .long x2), (4, .long x4_2), (6, .int x6_2)] → W p l e R s m args below meth c H locs 0 0 Q (F0 m 8 ls [])) hf ?_ _ _ _ hC (lv_sub hl [2, 4, 1, 0] rfl)
  intro a_8 x4_2 x6_2 ha_8 hf H locs ls hC hl
  refine lv_iload hx hb dX12_reached_8 (lv_at hl 3 rfl) ?_
  refine lv_if_eq (tgt := 111) hx hb dX12_reached_10 (by decide) (fun c_3 => ?_) (fun c_3 => ?_)
  · have hf := it_t c_3 hf
    refine lv_lload hx hb dX12_reached_111 (lv_at hl 2 rfl) ?_
    exact hret _ _ _ _ _ _ (Option.some.inj hf) rfl dX12_reached_113 hC
  · have hf := it_f c_3 hf
    refine lv_iconst (v := 0) hx hb dX12_reached_13 (by decide) ?_
    refine lv_istore (lv' := [(6, .int 0), (0, .ref (o 0)), (2, .long x2), (4, .long x4_2)]) hx hb dX12_reached_14 hl (by decide) rfl (fun ls hl => ?_)
    refine lv_iconst (v := 0) hx hb dX12_reached_16 (by decide) ?_
    refine lv_istore (lv' := [(7, .int 0), (6, .int 0), (0, .ref (o 0)), (2, .long x2), (4, .long x4_2)]) hx hb dX12_reached_17 hl (by decide) rfl (fun ls hl => ?_)
    refine itr_inv3 (P := fun (x4_4 : Int64) (x6_4 : Int32) (x7_4 : Int32) => ∀ (H : Heap) (locs : List Loc) (ls : Array Slot), CZ D A s H locs (WM y o σ) → lv_has ls 8 [(0, .ref (o 0)), (2, .long x2), (4, .long x4_4), (6, .int x6_4), (7, .int x7_4)] → W p l e R s m args below meth c H locs 0 0 Q (F0 m 19 ls [])) hf ?_ _ _ _ hC (lv_sub hl [2, 3, 4, 1, 0] rfl)
    intro a_19 x4_4 x6_4 x7_4 ha_19 hf H locs ls hC hl
    refine lv_iload hx hb dX12_reached_19 (lv_at hl 4 rfl) ?_
    refine lv_aload_n hx hb dX12_reached_21 rfl (lv_at hl 0 rfl) ?_
    refine gt_X12_327_m hx hb hta hown hK hC dX12_reached_22 ?_
    refine lv_icmp_ge (tgt := 108) hx hb dX12_reached_25 (by decide) (fun c_5 => ?_) (fun c_5 => ?_)
    · have hf := it_t c_5 hf
      refine lv_goto (tgt := 8) hx hb dX12_reached_108 (by decide) ?_
      exact ha_8 _ _ hf _ _ _ hC (lv_sub hl [0, 1, 2, 3] rfl)
    · have hf := it_f c_5 hf
      refine lv_aload_n hx hb dX12_reached_28 rfl (lv_at hl 0 rfl) ?_
      refine gt_X12_69_m hx hb hta hown hK hC dX12_reached_29 ?_
      refine lv_iload hx hb dX12_reached_32 (lv_at hl 4 rfl) ?_
      obtain ⟨hi_6, hf⟩ := ix_inv hf
      obtain ⟨v_6, e_6, hf⟩ := lt_inv hf
      refine al_M_20 hx hb hK hC hi_6 e_6 dX12_reached_34 ?_
      obtain ⟨k_102, hk_102, hf⟩ := jn_inv2 hf
      have hj_102 : ∀ (x4_7 : Int64) (x6_7 : Int32) (H : Heap) (locs : List Loc) (ls : Array Slot), k_102 x4_7 x6_7 = some v → CZ D A s H locs (WM y o σ) → lv_has ls 8 [(0, .ref (o 0)), (2, .long x2), (4, .long x4_7), (6, .int x6_7), (7, .int x7_4)] → W p l e R s m args below meth c H locs 0 0 Q (F0 m 102 ls []) := by
        intro x4_7 x6_7 H locs ls hf hC hl
        have hf := hk_102 _ _ hf
        obtain ⟨x7_8, e_8, hf⟩ := lt_inv hf
        refine lv_iinc (v := x7_8) (lv' := [(7, .int x7_8), (0, .ref (o 0)), (2, .long x2), (4, .long x4_7), (6, .int x6_7)]) hx hb dX12_reached_102 hl (k := 4) rfl e_8.symm (by decide) rfl (fun ls hl => ?_)
        refine lv_goto (tgt := 19) hx hb dX12_reached_105 (by decide) ?_
        exact ha_19 _ _ _ hf _ _ _ hC (lv_sub hl [1, 2, 3, 4, 0] rfl)
      refine lv_if_ne (tgt := 102) hx hb dX12_reached_35 (by decide) (fun c_9 => ?_) (fun c_9 => ?_)
      · have hf := it_f c_9 hf
        exact hj_102 _ _ _ _ _ hf hC hl
      · have hf := it_t c_9 hf
        refine lv_lload hx hb dX12_reached_38 (lv_at hl 2 rfl) ?_
        refine lv_aload_n hx hb dX12_reached_40 rfl (lv_at hl 0 rfl) ?_
        refine gt_X12_59_m hx hb hta hown hK hC dX12_reached_41 ?_
        refine lv_iload hx hb dX12_reached_44 (lv_at hl 4 rfl) ?_
        obtain ⟨hi_10, hf⟩ := ix_inv hf
        obtain ⟨v_10, e_10, hf⟩ := lt_inv hf
        refine al_M_17 hx hb hK hC hi_10 e_10 dX12_reached_46 ?_
        obtain ⟨v_11, hc_11, hf⟩ := calp_inv hf
        refine cc_Si (r_X12_has (D := D) (y := y) (w := WM y o σ) (ad := ad) (av := av) hc_11 l) hx hb hml hta hown hK hN hV hA hC hRc hRs (by omega) (by omega) wq_1010 wq_1011 wq_1012 wq_1008 hd_X12_has (As := [.long x4_4, .int v_10]) (rest := []) rfl rfl hl.1 rfl dX12_reached_47 (fun H locs hC => ?_)
        refine lv_if_eq (tgt := 102) hx hb dX12_reached_50 (by decide) (fun c_12 => ?_) (fun c_12 => ?_)
        · have hf := it_t c_12 hf
          exact hj_102 _ _ _ _ _ hf hC hl
        · have hf := it_f c_12 hf
          refine lv_lload hx hb dX12_reached_53 (lv_at hl 2 rfl) ?_
          refine lv_aload_n hx hb dX12_reached_55 rfl (lv_at hl 0 rfl) ?_
          refine gt_X12_62_m hx hb hta hown hK hC dX12_reached_56 ?_
          refine lv_iload hx hb dX12_reached_59 (lv_at hl 4 rfl) ?_
          obtain ⟨hi_13, hf⟩ := ix_inv hf
          obtain ⟨v_13, e_13, hf⟩ := lt_inv hf
          refine al_M_18 hx hb hK hC hi_13 e_13 dX12_reached_61 ?_
          obtain ⟨v_14, hc_14, hf⟩ := calp_inv hf
          refine cc_Si (r_X12_has (D := D) (y := y) (w := WM y o σ) (ad := ad) (av := av) hc_14 l) hx hb hml hta hown hK hN hV hA hC hRc hRs (by omega) (by omega) wq_1010 wq_1011 wq_1012 wq_1008 hd_X12_has (As := [.long x4_4, .int v_13]) (rest := []) rfl rfl hl.1 rfl dX12_reached_62 (fun H locs hC => ?_)
          refine lv_if_ne (tgt := 102) hx hb dX12_reached_65 (by decide) (fun c_15 => ?_) (fun c_15 => ?_)
          · have hf := it_f c_15 hf
            exact hj_102 _ _ _ _ _ hf hC hl
          · have hf := it_t c_15 hf
            refine lv_lload_n hx hb dX12_reached_68 rfl (lv_at hl 1 rfl) ?_
            refine lv_aload_n hx hb dX12_reached_69 rfl (lv_at hl 0 rfl) ?_
            refine gt_X12_62_m hx hb hta hown hK hC dX12_reached_70 ?_
            refine lv_iload hx hb dX12_reached_73 (lv_at hl 4 rfl) ?_
            obtain ⟨hi_16, hf⟩ := ix_inv hf
            obtain ⟨v_16, e_16, hf⟩ := lt_inv hf
            refine al_M_18 hx hb hK hC hi_16 e_16 dX12_reached_75 ?_
            obtain ⟨v_17, hc_17, hf⟩ := calp_inv hf
            refine cc_Si (r_X12_has (D := D) (y := y) (w := WM y o σ) (ad := ad) (av := av) hc_17 l) hx hb hml hta hown hK hN hV hA hC hRc hRs (by omega) (by omega) wq_1010 wq_1011 wq_1012 wq_1008 hd_X12_has (As := [.long x2, .int v_16]) (rest := []) rfl rfl hl.1 rfl dX12_reached_76 (fun H locs hC => ?_)
            refine lv_if_eq (tgt := 85) hx hb dX12_reached_79 (by decide) (fun c_18 => ?_) (fun c_18 => ?_)
            · have hf := it_t c_18 hf
              refine lv_lload hx hb dX12_reached_85 (lv_at hl 2 rfl) ?_
              refine lv_lconst (v := 1) hx hb dX12_reached_87 rfl ?_
              refine lv_aload_n hx hb dX12_reached_88 rfl (lv_at hl 0 rfl) ?_
              refine gt_X12_62_m hx hb hta hown hK hC dX12_reached_89 ?_
              refine lv_iload hx hb dX12_reached_92 (lv_at hl 4 rfl) ?_
              obtain ⟨hi_19, hf⟩ := ix_inv hf
              obtain ⟨v_19, e_19, hf⟩ := lt_inv hf
              refine al_M_18 hx hb hK hC hi_19 e_19 dX12_reached_94 ?_
              refine lv_lshl hx hb dX12_reached_95 rfl ?_
              refine lv_lor hx hb dX12_reached_96 ?_
              obtain ⟨x4_20, e_20, hf⟩ := lt_inv hf
              refine nml e_20 ?_
              refine lv_lstore (lv' := [(4, .long x4_20), (0, .ref (o 0)), (2, .long x2), (6, .int x6_4), (7, .int x7_4)]) hx hb dX12_reached_97 hl (by decide) rfl (fun ls hl => ?_)
              refine lv_iconst (v := 1) hx hb dX12_reached_99 (by decide) ?_
              refine lv_istore (lv' := [(6, .int 1), (4, .long x4_20), (0, .ref (o 0)), (2, .long x2), (7, .int x7_4)]) hx hb dX12_reached_100 hl (by decide) rfl (fun ls hl => ?_)
              exact hj_102 _ _ _ _ _ hf hC (lv_sub hl [2, 3, 1, 0, 4] rfl)
            · have hf := it_f c_18 hf
              refine lv_goto (tgt := 102) hx hb dX12_reached_82 (by decide) ?_
              exact hj_102 _ _ _ _ _ hf hC hl

set_option maxHeartbeats 8000000 in
set_option maxRecDepth 100000 in
theorem r_X12_all {D : va_G} {y : Nat → ClassId} {o : Nat → Nat} {ad av : Nat → Nat} {σ : Sto} {v : Int64} (hf : f_X12_all σ = some v) (l : Launch) (sz : Nat) : Met l yX12_all (Cond.code yX12_all cX12_all 1 (some .long) :: ALW) { frames := 0, cells := 0, slots := 0, locals := 0 } (va_Pc [.ref (o 0)] (PZ D y ad av (WM y o σ) sz)) (QZl D (WM y o σ) v (WM y o σ) sz) 0 0 (va_A (WM y o σ) sz) := by
  refine met_l (by decide) (Nat.le_of_ble_eq_true rfl) ?_
  intro p e R s m args below meth c Q A ls hx hb hml hta hown hRc hRs hRf hRl hN hK hV hA hret hC hl
  have hl : lv_has ls 1 [(0, .ref (o 0))] := hl
  unfold f_X12_all at hf
  refine lv_lconst (v := 1) hx hb dX12_all_0 rfl ?_
  refine lv_aload_n hx hb dX12_all_1 rfl (lv_at hl 0 rfl) ?_
  refine gt_X12_299_m hx hb hta hown hK hC dX12_all_2 ?_
  refine lv_lshl hx hb dX12_all_5 rfl ?_
  refine lv_lconst (v := 1) hx hb dX12_all_6 rfl ?_
  refine lv_lsub hx hb dX12_all_7 ?_
  exact hret _ _ _ _ _ _ (Option.some.inj hf) rfl dX12_all_8 hC

set_option maxHeartbeats 8000000 in
set_option maxRecDepth 100000 in
theorem r_X12_laysDominators {D : va_G} {y : Nat → ClassId} {o : Nat → Nat} {ad av : Nat → Nat} {σ : Sto} {σ2 : Sto} (hf : f_X12_laysDominators σ = some σ2) (l : Launch) (sz : Nat) : Met l yX12_laysDominators (Cond.code yX12_laysDominators cX12_laysDominators 5 none :: ALW) { frames := 2, cells := 0, slots := 0, locals := 49 } (va_Pc [.ref (o 0)] (PZ D y ad av (WM y o σ) sz)) (QZv D (WM y o σ) (WM y o σ2) sz) 0 0 (va_A (WM y o σ) sz) := by
  refine met_v (by decide) (Nat.le_of_ble_eq_true rfl) ?_
  intro p e R s m args below meth c Q A ls hx hb hml hta hown hRc hRs hRf hRl hN hK hV hA hret hC hl
  have hl : lv_has ls 5 [(0, .ref (o 0))] := hl
  unfold f_X12_laysDominators at hf
  refine lv_iconst (v := 0) hx hb dX12_laysDominators_0 (by decide) ?_
  refine lv_istore_n (lv' := [(1, .int 0), (0, .ref (o 0))]) hx hb dX12_laysDominators_1 rfl hl (by decide) rfl (fun ls hl => ?_)
  refine itr_inv2 (P := fun (x1_1 : Int32) (s_1 : Sto) => ∀ (H : Heap) (locs : List Loc) (ls : Array Slot), CZ D A s H locs (WM y o s_1) → lv_has ls 5 [(0, .ref (o 0)), (1, .int x1_1)] → W p l e R s m args below meth c H locs 0 0 Q (F0 m 2 ls [])) hf ?_ _ _ _ hC (lv_sub hl [1, 0] rfl)
  intro a_2 x1_1 s_1 ha_2 hf H locs ls hC hl
  refine lv_iload_n hx hb dX12_laysDominators_2 rfl (lv_at hl 1 rfl) ?_
  refine lv_aload_n hx hb dX12_laysDominators_3 rfl (lv_at hl 0 rfl) ?_
  refine gt_X12_299_m hx hb hta hown hK hC dX12_laysDominators_4 ?_
  refine lv_icmp_ge (tgt := 23) hx hb dX12_laysDominators_7 (by decide) (fun c_2 => ?_) (fun c_2 => ?_)
  · have hf := it_t c_2 hf
    refine lv_iconst (v := 0) hx hb dX12_laysDominators_23 (by decide) ?_
    refine lv_istore_n (lv' := [(1, .int 0), (0, .ref (o 0))]) hx hb dX12_laysDominators_24 rfl hl (by decide) rfl (fun ls hl => ?_)
    refine itr_inv2 (P := fun (x1_3 : Int32) (s_3 : Sto) => ∀ (H : Heap) (locs : List Loc) (ls : Array Slot), CZ D A s H locs (WM y o s_3) → lv_has ls 5 [(0, .ref (o 0)), (1, .int x1_3)] → W p l e R s m args below meth c H locs 0 0 Q (F0 m 25 ls [])) hf ?_ _ _ _ hC (lv_sub hl [1, 0] rfl)
    intro a_25 x1_3 s_3 ha_25 hf H locs ls hC hl
    refine lv_iload_n hx hb dX12_laysDominators_25 rfl (lv_at hl 1 rfl) ?_
    refine lv_aload_n hx hb dX12_laysDominators_26 rfl (lv_at hl 0 rfl) ?_
    refine gt_X12_299_m hx hb hta hown hK hC dX12_laysDominators_27 ?_
    refine lv_icmp_ge (tgt := 96) hx hb dX12_laysDominators_30 (by decide) (fun c_4 => ?_) (fun c_4 => ?_)
    · have hf := it_t c_4 hf
      refine lv_iconst (v := 0) hx hb dX12_laysDominators_96 (by decide) ?_
      refine lv_istore_n (lv' := [(1, .int 0), (0, .ref (o 0))]) hx hb dX12_laysDominators_97 rfl hl (by decide) rfl (fun ls hl => ?_)
      refine itr_inv2 (P := fun (x1_5 : Int32) (s_5 : Sto) => ∀ (H : Heap) (locs : List Loc) (ls : Array Slot), CZ D A s H locs (WM y o s_5) → lv_has ls 5 [(0, .ref (o 0)), (1, .int x1_5)] → W p l e R s m args below meth c H locs 0 0 Q (F0 m 98 ls [])) hf ?_ _ _ _ hC (lv_sub hl [1, 0] rfl)
      intro a_98 x1_5 s_5 ha_98 hf H locs ls hC hl
      refine lv_iload_n hx hb dX12_laysDominators_98 rfl (lv_at hl 1 rfl) ?_
      refine lv_aload_n hx hb dX12_laysDominators_99 rfl (lv_at hl 0 rfl) ?_
      refine gt_X12_327_m hx hb hta hown hK hC dX12_laysDominators_100 ?_
      refine lv_icmp_ge (tgt := 155) hx hb dX12_laysDominators_103 (by decide) (fun c_6 => ?_) (fun c_6 => ?_)
      · have hf := it_t c_6 hf
        exact hret _ _ _ _ _ (congrArg (WM y o) (Option.some.inj hf)) dX12_laysDominators_155 hC
      · have hf := it_f c_6 hf
        refine lv_aload_n hx hb dX12_laysDominators_106 rfl (lv_at hl 0 rfl) ?_
        refine gt_X12_72_m hx hb hta hown hK hC dX12_laysDominators_107 ?_
        refine lv_iload_n hx hb dX12_laysDominators_110 rfl (lv_at hl 1 rfl) ?_
        refine lv_aload_n hx hb dX12_laysDominators_111 rfl (lv_at hl 0 rfl) ?_
        refine gt_X12_69_m hx hb hta hown hK hC dX12_laysDominators_112 ?_
        refine lv_iload_n hx hb dX12_laysDominators_115 rfl (lv_at hl 1 rfl) ?_
        obtain ⟨hi_7, hf⟩ := ix_inv hf
        obtain ⟨v_7, e_7, hf⟩ := lt_inv hf
        refine al_M_20 hx hb hK hC hi_7 e_7 dX12_laysDominators_116 ?_
        obtain ⟨k_148, hk_148, hf⟩ := jn_inv1 hf
        have hj_148 : ∀ (t0_8 : Int32) (H : Heap) (locs : List Loc) (ls : Array Slot), k_148 t0_8 = some σ2 → CZ D A s H locs (WM y o s_5) → lv_has ls 5 [(0, .ref (o 0)), (1, .int x1_5)] → W p l e R s m args below meth c H locs 0 0 Q (F0 m 148 ls [.int t0_8, .int x1_5, .ref (o 21)]) := by
          intro t0_8 H locs ls hf hC hl
          have hf := hk_148 _ hf
          obtain ⟨hb_10, hf⟩ := bz_inv hf
          obtain ⟨hi_9, hf⟩ := ix_inv hf
          obtain ⟨s_9, e_9, hf⟩ := lt_inv hf
          refine as_M_21 hx hb hK hC hi_9 hb_10 e_9 dX12_laysDominators_148 (fun H locs hC => ?_)
          obtain ⟨x1_11, e_11, hf⟩ := lt_inv hf
          refine lv_iinc (v := x1_11) (lv' := [(1, .int x1_11), (0, .ref (o 0))]) hx hb dX12_laysDominators_149 hl (k := 1) rfl e_11.symm (by decide) rfl (fun ls hl => ?_)
          refine lv_goto (tgt := 98) hx hb dX12_laysDominators_152 (by decide) ?_
          exact ha_98 _ _ hf _ _ _ hC (lv_sub hl [1, 0] rfl)
        obtain ⟨k_147, hk_147, hf⟩ := jn_inv0 hf
        have hj_147 : ∀  (H : Heap) (locs : List Loc) (ls : Array Slot), k_147 = some σ2 → CZ D A s H locs (WM y o s_5) → lv_has ls 5 [(0, .ref (o 0)), (1, .int x1_5)] → W p l e R s m args below meth c H locs 0 0 Q (F0 m 147 ls [.int x1_5, .ref (o 21)]) := by
          intro H locs ls hf hC hl
          have hf := hk_147 hf
          refine lv_iconst (v := 0) hx hb dX12_laysDominators_147 (by decide) ?_
          exact hj_148 _ _ _ _ hf hC hl
        refine lv_if_ne (tgt := 147) hx hb dX12_laysDominators_117 (by decide) (fun c_13 => ?_) (fun c_13 => ?_)
        · have hf := it_f c_13 hf
          exact hj_147 _ _ _ hf hC hl
        · have hf := it_t c_13 hf
          refine lv_aload_n hx hb dX12_laysDominators_120 rfl (lv_at hl 0 rfl) ?_
          refine gt_X12_75_m hx hb hta hown hK hC dX12_laysDominators_121 ?_
          refine lv_aload_n hx hb dX12_laysDominators_124 rfl (lv_at hl 0 rfl) ?_
          refine gt_X12_59_m hx hb hta hown hK hC dX12_laysDominators_125 ?_
          refine lv_iload_n hx hb dX12_laysDominators_128 rfl (lv_at hl 1 rfl) ?_
          obtain ⟨hi_14, hf⟩ := ix_inv hf
          obtain ⟨v_14, e_14, hf⟩ := lt_inv hf
          refine al_M_17 hx hb hK hC hi_14 e_14 dX12_laysDominators_129 ?_
          obtain ⟨hi_15, hf⟩ := ix_inv hf
          obtain ⟨v_15, e_15, hf⟩ := lt_inv hf
          refine al_M_22 hx hb hK hC hi_15 e_15 dX12_laysDominators_130 ?_
          refine lv_aload_n hx hb dX12_laysDominators_131 rfl (lv_at hl 0 rfl) ?_
          refine gt_X12_62_m hx hb hta hown hK hC dX12_laysDominators_132 ?_
          refine lv_iload_n hx hb dX12_laysDominators_135 rfl (lv_at hl 1 rfl) ?_
          obtain ⟨hi_16, hf⟩ := ix_inv hf
          obtain ⟨v_16, e_16, hf⟩ := lt_inv hf
          refine al_M_18 hx hb hK hC hi_16 e_16 dX12_laysDominators_136 ?_
          obtain ⟨v_17, hc_17, hf⟩ := calp_inv hf
          refine cc_Si (r_X12_has (D := D) (y := y) (w := WM y o s_5) (ad := ad) (av := av) hc_17 l) hx hb hml hta hown hK hN hV hA hC hRc hRs (by omega) (by omega) wq_1010 wq_1011 wq_1012 wq_1008 hd_X12_has (As := [.long v_15, .int v_16]) (rest := [.int x1_5, .ref (o 21)]) rfl rfl hl.1 rfl dX12_laysDominators_137 (fun H locs hC => ?_)
          refine lv_if_eq (tgt := 147) hx hb dX12_laysDominators_140 (by decide) (fun c_18 => ?_) (fun c_18 => ?_)
          · have hf := it_t c_18 hf
            exact hj_147 _ _ _ hf hC hl
          · have hf := it_f c_18 hf
            refine lv_iconst (v := 1) hx hb dX12_laysDominators_143 (by decide) ?_
            refine lv_goto (tgt := 148) hx hb dX12_laysDominators_144 (by decide) ?_
            exact hj_148 _ _ _ _ hf hC hl
    · have hf := it_f c_4 hf
      refine lv_iload_n hx hb dX12_laysDominators_33 rfl (lv_at hl 1 rfl) ?_
      obtain ⟨k_49, hk_49, hf⟩ := jn_inv1 hf
      have hj_49 : ∀ (t0_19 : Int64) (H : Heap) (locs : List Loc) (ls : Array Slot), k_49 t0_19 = some σ2 → CZ D A s H locs (WM y o s_3) → lv_has ls 5 [(0, .ref (o 0)), (1, .int x1_3)] → W p l e R s m args below meth c H locs 0 0 Q (F0 m 49 ls [.long t0_19]) := by
        intro t0_19 H locs ls hf hC hl
        have hf := hk_49 _ hf
        refine lv_lstore_n (lv' := [(2, .long t0_19), (0, .ref (o 0)), (1, .int x1_3)]) hx hb dX12_laysDominators_49 rfl hl (by decide) rfl (fun ls hl => ?_)
        refine lv_iconst (v := 0) hx hb dX12_laysDominators_50 (by decide) ?_
        refine lv_istore (lv' := [(4, .int 0), (2, .long t0_19), (0, .ref (o 0)), (1, .int x1_3)]) hx hb dX12_laysDominators_51 hl (by decide) rfl (fun ls hl => ?_)
        refine itr_inv2 (P := fun (x4_20 : Int32) (s_20 : Sto) => ∀ (H : Heap) (locs : List Loc) (ls : Array Slot), CZ D A s H locs (WM y o s_20) → lv_has ls 5 [(0, .ref (o 0)), (1, .int x1_3), (2, .long t0_19), (4, .int x4_20)] → W p l e R s m args below meth c H locs 0 0 Q (F0 m 53 ls [])) hf ?_ _ _ _ hC (lv_sub hl [2, 3, 1, 0] rfl)
        intro a_53 x4_20 s_20 ha_53 hf H locs ls hC hl
        refine lv_iload hx hb dX12_laysDominators_53 (lv_at hl 3 rfl) ?_
        refine lv_aload_n hx hb dX12_laysDominators_55 rfl (lv_at hl 0 rfl) ?_
        refine gt_X12_299_m hx hb hta hown hK hC dX12_laysDominators_56 ?_
        refine lv_icmp_ge (tgt := 90) hx hb dX12_laysDominators_59 (by decide) (fun c_21 => ?_) (fun c_21 => ?_)
        · have hf := it_t c_21 hf
          obtain ⟨x1_22, e_22, hf⟩ := lt_inv hf
          refine lv_iinc (v := x1_22) (lv' := [(1, .int x1_22), (0, .ref (o 0)), (2, .long t0_19), (4, .int x4_20)]) hx hb dX12_laysDominators_90 hl (k := 1) rfl e_22.symm (by decide) rfl (fun ls hl => ?_)
          refine lv_goto (tgt := 25) hx hb dX12_laysDominators_93 (by decide) ?_
          exact ha_25 _ _ hf _ _ _ hC (lv_sub hl [1, 0] rfl)
        · have hf := it_f c_21 hf
          refine lv_lload_n hx hb dX12_laysDominators_62 rfl (lv_at hl 2 rfl) ?_
          refine lv_iload hx hb dX12_laysDominators_63 (lv_at hl 3 rfl) ?_
          obtain ⟨v_23, hc_23, hf⟩ := calp_inv hf
          refine cc_Si (r_X12_has (D := D) (y := y) (w := WM y o s_20) (ad := ad) (av := av) hc_23 l) hx hb hml hta hown hK hN hV hA hC hRc hRs (by omega) (by omega) wq_1010 wq_1011 wq_1012 wq_1008 hd_X12_has (As := [.long t0_19, .int x4_20]) (rest := []) rfl rfl hl.1 rfl dX12_laysDominators_65 (fun H locs hC => ?_)
          obtain ⟨k_84, hk_84, hf⟩ := jn_inv1 hf
          have hj_84 : ∀ (s_24 : Sto) (H : Heap) (locs : List Loc) (ls : Array Slot), k_84 s_24 = some σ2 → CZ D A s H locs (WM y o s_24) → lv_has ls 5 [(0, .ref (o 0)), (1, .int x1_3), (2, .long t0_19), (4, .int x4_20)] → W p l e R s m args below meth c H locs 0 0 Q (F0 m 84 ls []) := by
            intro s_24 H locs ls hf hC hl
            have hf := hk_84 _ hf
            obtain ⟨x4_25, e_25, hf⟩ := lt_inv hf
            refine lv_iinc (v := x4_25) (lv' := [(4, .int x4_25), (0, .ref (o 0)), (1, .int x1_3), (2, .long t0_19)]) hx hb dX12_laysDominators_84 hl (k := 3) rfl e_25.symm (by decide) rfl (fun ls hl => ?_)
            refine lv_goto (tgt := 53) hx hb dX12_laysDominators_87 (by decide) ?_
            exact ha_53 _ _ hf _ _ _ hC (lv_sub hl [1, 2, 3, 0] rfl)
          refine lv_if_ne (tgt := 84) hx hb dX12_laysDominators_68 (by decide) (fun c_26 => ?_) (fun c_26 => ?_)
          · have hf := it_f c_26 hf
            exact hj_84 _ _ _ _ hf hC hl
          · have hf := it_t c_26 hf
            refine lv_aload_n hx hb dX12_laysDominators_71 rfl (lv_at hl 0 rfl) ?_
            refine gt_X12_75_m hx hb hta hown hK hC dX12_laysDominators_72 ?_
            refine lv_iload hx hb dX12_laysDominators_75 (lv_at hl 3 rfl) ?_
            refine lv_dup2_11 hx hb dX12_laysDominators_77 rfl rfl ?_
            obtain ⟨hi_27, hf⟩ := ix_inv hf
            obtain ⟨v_27, e_27, hf⟩ := lt_inv hf
            refine al_M_22 hx hb hK hC hi_27 e_27 dX12_laysDominators_78 ?_
            refine lv_lconst (v := 1) hx hb dX12_laysDominators_79 rfl ?_
            refine lv_iload_n hx hb dX12_laysDominators_80 rfl (lv_at hl 1 rfl) ?_
            refine lv_lshl hx hb dX12_laysDominators_81 rfl ?_
            refine lv_lor hx hb dX12_laysDominators_82 ?_
            obtain ⟨hi_28, hf⟩ := ix_inv hf
            obtain ⟨s_28, e_28, hf⟩ := lt_inv hf
            refine as_M_22 hx hb hK hC hi_28 e_28 dX12_laysDominators_83 (fun H locs hC => ?_)
            exact hj_84 _ _ _ _ hf hC hl
      refine lv_if_ne (tgt := 41) hx hb dX12_laysDominators_34 (by decide) (fun c_29 => ?_) (fun c_29 => ?_)
      · have hf := it_f c_29 hf
        refine lv_aload_n hx hb dX12_laysDominators_41 rfl (lv_at hl 0 rfl) ?_
        refine lv_iconst (v := 0) hx hb dX12_laysDominators_42 (by decide) ?_
        refine lv_lconst (v := 1) hx hb dX12_laysDominators_43 rfl ?_
        refine lv_iload_n hx hb dX12_laysDominators_44 rfl (lv_at hl 1 rfl) ?_
        refine lv_lshl hx hb dX12_laysDominators_45 rfl ?_
        obtain ⟨v_30, hc_30, hf⟩ := calp_inv hf
        refine cc_Vl (r_X12_reached (D := D) (y := y) (o := o) (ad := ad) (av := av) hc_30 l) hx hb hml hta hown hK hN hV hA hC hRc hRs (by omega) (by omega) wq_1123 (q := 0) (ci := 12) rfl rfl wq_1124 wq_1125 wq_1012 wq_1120 hd_X12_reached (As := [.int 0, .long ((1 : Int64) <<< (x1_3.toInt64 &&& 63))]) (rest := []) rfl rfl hl.1 rfl dX12_laysDominators_46 (fun H locs hC => ?_)
        exact hj_49 _ _ _ _ hf hC hl
      · have hf := it_t c_29 hf
        refine lv_lconst (v := 0) hx hb dX12_laysDominators_37 rfl ?_
        refine lv_goto (tgt := 49) hx hb dX12_laysDominators_38 (by decide) ?_
        exact hj_49 _ _ _ _ hf hC hl
  · have hf := it_f c_2 hf
    refine lv_aload_n hx hb dX12_laysDominators_10 rfl (lv_at hl 0 rfl) ?_
    refine gt_X12_75_m hx hb hta hown hK hC dX12_laysDominators_11 ?_
    refine lv_iload_n hx hb dX12_laysDominators_14 rfl (lv_at hl 1 rfl) ?_
    refine lv_lconst (v := 0) hx hb dX12_laysDominators_15 rfl ?_
    obtain ⟨hi_31, hf⟩ := ix_inv hf
    obtain ⟨s_31, e_31, hf⟩ := lt_inv hf
    refine as_M_22 hx hb hK hC hi_31 e_31 dX12_laysDominators_16 (fun H locs hC => ?_)
    obtain ⟨x1_32, e_32, hf⟩ := lt_inv hf
    refine lv_iinc (v := x1_32) (lv' := [(1, .int x1_32), (0, .ref (o 0))]) hx hb dX12_laysDominators_17 hl (k := 1) rfl e_32.symm (by decide) rfl (fun ls hl => ?_)
    refine lv_goto (tgt := 2) hx hb dX12_laysDominators_20 (by decide) ?_
    exact ha_2 _ _ hf _ _ _ hC (lv_sub hl [1, 0] rfl)

set_option maxHeartbeats 8000000 in
set_option maxRecDepth 100000 in
theorem r_X12_isEntry {D : va_G} {y : Nat → ClassId} {o : Nat → Nat} {ad av : Nat → Nat} {x1 : Int32} {x2 : Int64} {σ : Sto} {v : Int32} (hf : f_X12_isEntry x1 x2 σ = some v) (l : Launch) (sz : Nat) : Met l yX12_isEntry (Cond.code yX12_isEntry cX12_isEntry 5 (some .boolean) :: ALW) { frames := 1, cells := 0, slots := 0, locals := 22 } (va_Pc [.ref (o 0), .int x1, .long x2] (PZ D y ad av (WM y o σ) sz)) (QZi D (WM y o σ) v (WM y o σ) sz) 0 0 (va_A (WM y o σ) sz) := by
  refine met_i (by decide) (Nat.le_of_ble_eq_true rfl) ?_
  intro p e R s m args below meth c Q A ls hx hb hml hta hown hRc hRs hRf hRl hN hK hV hA hret hC hl
  have hl : lv_has ls 5 [(0, .ref (o 0)), (1, .int x1), (2, .long x2)] := hl
  unfold f_X12_isEntry at hf
  refine lv_iconst (v := 0) hx hb dX12_isEntry_0 (by decide) ?_
  refine lv_istore (lv' := [(4, .int 0), (0, .ref (o 0)), (1, .int x1), (2, .long x2)]) hx hb dX12_isEntry_1 hl (by decide) rfl (fun ls hl => ?_)
  refine itr_inv1 (P := fun (x4_1 : Int32) => ∀ (H : Heap) (locs : List Loc) (ls : Array Slot), CZ D A s H locs (WM y o σ) → lv_has ls 5 [(0, .ref (o 0)), (1, .int x1), (2, .long x2), (4, .int x4_1)] → W p l e R s m args below meth c H locs 0 0 Q (F0 m 3 ls [])) hf ?_ _ _ _ hC (lv_sub hl [1, 2, 3, 0] rfl)
  intro a_3 x4_1 ha_3 hf H locs ls hC hl
  refine lv_iload hx hb dX12_isEntry_3 (lv_at hl 3 rfl) ?_
  refine lv_aload_n hx hb dX12_isEntry_5 rfl (lv_at hl 0 rfl) ?_
  refine gt_X12_327_m hx hb hta hown hK hC dX12_isEntry_6 ?_
  refine lv_icmp_ge (tgt := 65) hx hb dX12_isEntry_9 (by decide) (fun c_2 => ?_) (fun c_2 => ?_)
  · have hf := it_t c_2 hf
    refine lv_iconst (v := 1) hx hb dX12_isEntry_65 (by decide) ?_
    exact hret _ _ _ _ _ _ (Option.some.inj hf) rfl rfl dX12_isEntry_66 hC
  · have hf := it_f c_2 hf
    refine lv_aload_n hx hb dX12_isEntry_12 rfl (lv_at hl 0 rfl) ?_
    refine gt_X12_62_m hx hb hta hown hK hC dX12_isEntry_13 ?_
    refine lv_iload hx hb dX12_isEntry_16 (lv_at hl 3 rfl) ?_
    obtain ⟨hi_3, hf⟩ := ix_inv hf
    obtain ⟨v_3, e_3, hf⟩ := lt_inv hf
    refine al_M_18 hx hb hK hC hi_3 e_3 dX12_isEntry_18 ?_
    refine lv_iload_n hx hb dX12_isEntry_19 rfl (lv_at hl 1 rfl) ?_
    obtain ⟨k_59, hk_59, hf⟩ := jn_inv0 hf
    have hj_59 : ∀  (H : Heap) (locs : List Loc) (ls : Array Slot), k_59 = some v → CZ D A s H locs (WM y o σ) → lv_has ls 5 [(0, .ref (o 0)), (1, .int x1), (2, .long x2), (4, .int x4_1)] → W p l e R s m args below meth c H locs 0 0 Q (F0 m 59 ls []) := by
      intro H locs ls hf hC hl
      have hf := hk_59 hf
      obtain ⟨x4_5, e_5, hf⟩ := lt_inv hf
      refine lv_iinc (v := x4_5) (lv' := [(4, .int x4_5), (0, .ref (o 0)), (1, .int x1), (2, .long x2)]) hx hb dX12_isEntry_59 hl (k := 3) rfl e_5.symm (by decide) rfl (fun ls hl => ?_)
      refine lv_goto (tgt := 3) hx hb dX12_isEntry_62 (by decide) ?_
      exact ha_3 _ hf _ _ _ hC (lv_sub hl [1, 2, 3, 0] rfl)
    refine lv_icmp_ne (tgt := 59) hx hb dX12_isEntry_20 (by decide) (fun c_6 => ?_) (fun c_6 => ?_)
    · have hf := it_f c_6 hf
      exact hj_59 _ _ _ hf hC hl
    · have hf := it_t c_6 hf
      refine lv_aload_n hx hb dX12_isEntry_23 rfl (lv_at hl 0 rfl) ?_
      refine gt_X12_69_m hx hb hta hown hK hC dX12_isEntry_24 ?_
      refine lv_iload hx hb dX12_isEntry_27 (lv_at hl 3 rfl) ?_
      obtain ⟨hi_7, hf⟩ := ix_inv hf
      obtain ⟨v_7, e_7, hf⟩ := lt_inv hf
      refine al_M_20 hx hb hK hC hi_7 e_7 dX12_isEntry_29 ?_
      refine lv_if_ne (tgt := 59) hx hb dX12_isEntry_30 (by decide) (fun c_8 => ?_) (fun c_8 => ?_)
      · have hf := it_f c_8 hf
        exact hj_59 _ _ _ hf hC hl
      · have hf := it_t c_8 hf
        refine lv_aload_n hx hb dX12_isEntry_33 rfl (lv_at hl 0 rfl) ?_
        refine gt_X12_72_m hx hb hta hown hK hC dX12_isEntry_34 ?_
        refine lv_iload hx hb dX12_isEntry_37 (lv_at hl 3 rfl) ?_
        obtain ⟨hi_9, hf⟩ := ix_inv hf
        obtain ⟨v_9, e_9, hf⟩ := lt_inv hf
        refine al_M_21 hx hb hK hC hi_9 e_9 dX12_isEntry_39 ?_
        refine lv_if_ne (tgt := 59) hx hb dX12_isEntry_40 (by decide) (fun c_10 => ?_) (fun c_10 => ?_)
        · have hf := it_f c_10 hf
          exact hj_59 _ _ _ hf hC hl
        · have hf := it_t c_10 hf
          refine lv_lload_n hx hb dX12_isEntry_43 rfl (lv_at hl 2 rfl) ?_
          refine lv_aload_n hx hb dX12_isEntry_44 rfl (lv_at hl 0 rfl) ?_
          refine gt_X12_59_m hx hb hta hown hK hC dX12_isEntry_45 ?_
          refine lv_iload hx hb dX12_isEntry_48 (lv_at hl 3 rfl) ?_
          obtain ⟨hi_11, hf⟩ := ix_inv hf
          obtain ⟨v_11, e_11, hf⟩ := lt_inv hf
          refine al_M_17 hx hb hK hC hi_11 e_11 dX12_isEntry_50 ?_
          obtain ⟨v_12, hc_12, hf⟩ := calp_inv hf
          refine cc_Si (r_X12_has (D := D) (y := y) (w := WM y o σ) (ad := ad) (av := av) hc_12 l) hx hb hml hta hown hK hN hV hA hC hRc hRs (by omega) (by omega) wq_1010 wq_1011 wq_1012 wq_1008 hd_X12_has (As := [.long x2, .int v_11]) (rest := []) rfl rfl hl.1 rfl dX12_isEntry_51 (fun H locs hC => ?_)
          refine lv_if_ne (tgt := 59) hx hb dX12_isEntry_54 (by decide) (fun c_13 => ?_) (fun c_13 => ?_)
          · have hf := it_f c_13 hf
            exact hj_59 _ _ _ hf hC hl
          · have hf := it_t c_13 hf
            refine lv_iconst (v := 0) hx hb dX12_isEntry_57 (by decide) ?_
            exact hret _ _ _ _ _ _ (Option.some.inj hf) rfl rfl dX12_isEntry_58 hC

set_option maxHeartbeats 8000000 in
set_option maxRecDepth 100000 in
theorem r_X12_isReduced {D : va_G} {y : Nat → ClassId} {o : Nat → Nat} {ad av : Nat → Nat} {σ : Sto} {v : Int32} (hf : f_X12_isReduced σ = some v) (l : Launch) (sz : Nat) : Met l yX12_isReduced (Cond.code yX12_isReduced cX12_isReduced 5 (some .boolean) :: ALW) { frames := 2, cells := 0, slots := 0, locals := 46 } (va_Pc [.ref (o 0)] (PZ D y ad av (WM y o σ) sz)) (QZi D (WM y o σ) v (WM y o σ) sz) 0 0 (va_A (WM y o σ) sz) := by
  refine met_i (by decide) (Nat.le_of_ble_eq_true rfl) ?_
  intro p e R s m args below meth c Q A ls hx hb hml hta hown hRc hRs hRf hRl hN hK hV hA hret hC hl
  have hl : lv_has ls 5 [(0, .ref (o 0))] := hl
  unfold f_X12_isReduced at hf
  refine lv_lconst (v := 0) hx hb dX12_isReduced_0 rfl ?_
  refine lv_lstore_n (lv' := [(1, .long 0), (0, .ref (o 0))]) hx hb dX12_isReduced_1 rfl hl (by decide) rfl (fun ls hl => ?_)
  refine lv_iconst (v := 1) hx hb dX12_isReduced_2 (by decide) ?_
  refine lv_istore_n (lv' := [(3, .int 1), (1, .long 0), (0, .ref (o 0))]) hx hb dX12_isReduced_3 rfl hl (by decide) rfl (fun ls hl => ?_)
  refine itr_inv2 (P := fun (x1_1 : Int64) (x3_1 : Int32) => ∀ (H : Heap) (locs : List Loc) (ls : Array Slot), CZ D A s H locs (WM y o σ) → lv_has ls 5 [(0, .ref (o 0)), (1, .long x1_1), (3, .int x3_1)] → W p l e R s m args below meth c H locs 0 0 Q (F0 m 4 ls [])) hf ?_ _ _ _ hC (lv_sub hl [2, 1, 0] rfl)
  intro a_4 x1_1 x3_1 ha_4 hf H locs ls hC hl
  refine lv_iload_n hx hb dX12_isReduced_4 rfl (lv_at hl 2 rfl) ?_
  refine lv_if_eq (tgt := 62) hx hb dX12_isReduced_5 (by decide) (fun c_2 => ?_) (fun c_2 => ?_)
  · have hf := it_t c_2 hf
    refine lv_lload_n hx hb dX12_isReduced_62 rfl (lv_at hl 1 rfl) ?_
    refine lv_aload_n hx hb dX12_isReduced_63 rfl (lv_at hl 0 rfl) ?_
    obtain ⟨v_3, hc_3, hf⟩ := calp_inv hf
    refine cc_Vl (r_X12_all (D := D) (y := y) (o := o) (ad := ad) (av := av) hc_3 l) hx hb hml hta hown hK hN hV hA hC hRc hRs (by omega) (by omega) wq_1131 (q := 0) (ci := 12) rfl rfl wq_1132 wq_1133 wq_1012 wq_1121 hd_X12_all (As := []) (rest := [.long x1_1]) rfl rfl hl.1 rfl dX12_isReduced_64 (fun H locs hC => ?_)
    refine W.lcmp hx hb dX12_isReduced_67 ?_
    refine lv_if_ne (tgt := 75) hx hb dX12_isReduced_68 (by decide) (fun c_4 => ?_) (fun c_4 => ?_)
    · have hf := it_f c_4 hf
      refine lv_iconst (v := 0) hx hb dX12_isReduced_75 (by decide) ?_
      exact hret _ _ _ _ _ _ (Option.some.inj hf) rfl rfl dX12_isReduced_76 hC
    · have hf := it_t c_4 hf
      refine lv_iconst (v := 1) hx hb dX12_isReduced_71 (by decide) ?_
      refine lv_goto (tgt := 76) hx hb dX12_isReduced_72 (by decide) ?_
      exact hret _ _ _ _ _ _ (Option.some.inj hf) rfl rfl dX12_isReduced_76 hC
  · have hf := it_f c_2 hf
    refine lv_iconst (v := 0) hx hb dX12_isReduced_8 (by decide) ?_
    refine lv_istore_n (lv' := [(3, .int 0), (0, .ref (o 0)), (1, .long x1_1)]) hx hb dX12_isReduced_9 rfl hl (by decide) rfl (fun ls hl => ?_)
    refine lv_iconst (v := 0) hx hb dX12_isReduced_10 (by decide) ?_
    refine lv_istore (lv' := [(4, .int 0), (3, .int 0), (0, .ref (o 0)), (1, .long x1_1)]) hx hb dX12_isReduced_11 hl (by decide) rfl (fun ls hl => ?_)
    refine itr_inv3 (P := fun (x1_5 : Int64) (x3_5 : Int32) (x4_5 : Int32) => ∀ (H : Heap) (locs : List Loc) (ls : Array Slot), CZ D A s H locs (WM y o σ) → lv_has ls 5 [(0, .ref (o 0)), (1, .long x1_5), (3, .int x3_5), (4, .int x4_5)] → W p l e R s m args below meth c H locs 0 0 Q (F0 m 13 ls [])) hf ?_ _ _ _ hC (lv_sub hl [2, 3, 1, 0] rfl)
    intro a_13 x1_5 x3_5 x4_5 ha_13 hf H locs ls hC hl
    refine lv_iload hx hb dX12_isReduced_13 (lv_at hl 3 rfl) ?_
    refine lv_aload_n hx hb dX12_isReduced_15 rfl (lv_at hl 0 rfl) ?_
    refine gt_X12_299_m hx hb hta hown hK hC dX12_isReduced_16 ?_
    refine lv_icmp_ge (tgt := 59) hx hb dX12_isReduced_19 (by decide) (fun c_6 => ?_) (fun c_6 => ?_)
    · have hf := it_t c_6 hf
      refine lv_goto (tgt := 4) hx hb dX12_isReduced_59 (by decide) ?_
      exact ha_4 _ _ hf _ _ _ hC (lv_sub hl [0, 1, 2] rfl)
    · have hf := it_f c_6 hf
      refine lv_lload_n hx hb dX12_isReduced_22 rfl (lv_at hl 1 rfl) ?_
      refine lv_iload hx hb dX12_isReduced_23 (lv_at hl 3 rfl) ?_
      obtain ⟨v_7, hc_7, hf⟩ := calp_inv hf
      refine cc_Si (r_X12_has (D := D) (y := y) (w := WM y o σ) (ad := ad) (av := av) hc_7 l) hx hb hml hta hown hK hN hV hA hC hRc hRs (by omega) (by omega) wq_1010 wq_1011 wq_1012 wq_1008 hd_X12_has (As := [.long x1_5, .int x4_5]) (rest := []) rfl rfl hl.1 rfl dX12_isReduced_25 (fun H locs hC => ?_)
      obtain ⟨k_53, hk_53, hf⟩ := jn_inv2 hf
      have hj_53 : ∀ (x1_8 : Int64) (x3_8 : Int32) (H : Heap) (locs : List Loc) (ls : Array Slot), k_53 x1_8 x3_8 = some v → CZ D A s H locs (WM y o σ) → lv_has ls 5 [(0, .ref (o 0)), (1, .long x1_8), (3, .int x3_8), (4, .int x4_5)] → W p l e R s m args below meth c H locs 0 0 Q (F0 m 53 ls []) := by
        intro x1_8 x3_8 H locs ls hf hC hl
        have hf := hk_53 _ _ hf
        obtain ⟨x4_9, e_9, hf⟩ := lt_inv hf
        refine lv_iinc (v := x4_9) (lv' := [(4, .int x4_9), (0, .ref (o 0)), (1, .long x1_8), (3, .int x3_8)]) hx hb dX12_isReduced_53 hl (k := 3) rfl e_9.symm (by decide) rfl (fun ls hl => ?_)
        refine lv_goto (tgt := 13) hx hb dX12_isReduced_56 (by decide) ?_
        exact ha_13 _ _ _ hf _ _ _ hC (lv_sub hl [1, 2, 3, 0] rfl)
      refine lv_if_ne (tgt := 53) hx hb dX12_isReduced_28 (by decide) (fun c_10 => ?_) (fun c_10 => ?_)
      · have hf := it_f c_10 hf
        exact hj_53 _ _ _ _ _ hf hC hl
      · have hf := it_t c_10 hf
        refine lv_aload_n hx hb dX12_isReduced_31 rfl (lv_at hl 0 rfl) ?_
        refine lv_iload hx hb dX12_isReduced_32 (lv_at hl 3 rfl) ?_
        refine lv_lload_n hx hb dX12_isReduced_34 rfl (lv_at hl 1 rfl) ?_
        obtain ⟨v_11, hc_11, hf⟩ := calp_inv hf
        refine cc_Vi (r_X12_isEntry (D := D) (y := y) (o := o) (ad := ad) (av := av) hc_11 l) hx hb hml hta hown hK hN hV hA hC hRc hRs (by omega) (by omega) wq_1128 (q := 0) (ci := 12) rfl rfl wq_1129 wq_1130 wq_1012 wq_1126 hd_X12_isEntry (As := [.int x4_5, .long x1_5]) (rest := []) rfl rfl hl.1 rfl dX12_isReduced_35 (fun H locs hC => ?_)
        refine lv_if_ne (tgt := 44) hx hb dX12_isReduced_38 (by decide) (fun c_12 => ?_) (fun c_12 => ?_)
        · have hf := it_f c_12 hf
          refine lv_lload_n hx hb dX12_isReduced_44 rfl (lv_at hl 1 rfl) ?_
          refine lv_lconst (v := 1) hx hb dX12_isReduced_45 rfl ?_
          refine lv_iload hx hb dX12_isReduced_46 (lv_at hl 3 rfl) ?_
          refine lv_lshl hx hb dX12_isReduced_48 rfl ?_
          refine lv_lor hx hb dX12_isReduced_49 ?_
          obtain ⟨x1_13, e_13, hf⟩ := lt_inv hf
          refine nml e_13 ?_
          refine lv_lstore_n (lv' := [(1, .long x1_13), (0, .ref (o 0)), (3, .int x3_5), (4, .int x4_5)]) hx hb dX12_isReduced_50 rfl hl (by decide) rfl (fun ls hl => ?_)
          refine lv_iconst (v := 1) hx hb dX12_isReduced_51 (by decide) ?_
          refine lv_istore_n (lv' := [(3, .int 1), (1, .long x1_13), (0, .ref (o 0)), (4, .int x4_5)]) hx hb dX12_isReduced_52 rfl hl (by decide) rfl (fun ls hl => ?_)
          exact hj_53 _ _ _ _ _ hf hC (lv_sub hl [2, 1, 0, 3] rfl)
        · have hf := it_t c_12 hf
          refine lv_goto (tgt := 53) hx hb dX12_isReduced_41 (by decide) ?_
          exact hj_53 _ _ _ _ _ hf hC hl

set_option maxHeartbeats 8000000 in
set_option maxRecDepth 100000 in
theorem r_X12_isGoodSo {D : va_G} {y : Nat → ClassId} {o : Nat → Nat} {ad av : Nat → Nat} {σ : Sto} {σ2 : Sto} {v : Int32} (hf : f_X12_isGoodSo σ = some (v, σ2)) (l : Launch) (sz : Nat) : Met l yX12_isGoodSo (Cond.code yX12_isGoodSo cX12_isGoodSo 1 (some .boolean) :: ALW) { frames := 3, cells := 0, slots := 0, locals := 73 } (va_Pc [.ref (o 0)] (PZ D y ad av (WM y o σ) sz)) (QZi D (WM y o σ) v (WM y o σ2) sz) 0 0 (va_A (WM y o σ) sz) := by
  refine met_i (by decide) (Nat.le_of_ble_eq_true rfl) ?_
  intro p e R s m args below meth c Q A ls hx hb hml hta hown hRc hRs hRf hRl hN hK hV hA hret hC hl
  have hl : lv_has ls 1 [(0, .ref (o 0))] := hl
  unfold f_X12_isGoodSo at hf
  refine lv_aload_n hx hb dX12_isGoodSo_0 rfl (lv_at hl 0 rfl) ?_
  refine lv_iconst (v := 0) hx hb dX12_isGoodSo_1 (by decide) ?_
  refine lv_lconst (v := 0) hx hb dX12_isGoodSo_2 rfl ?_
  obtain ⟨v_1, hc_1, hf⟩ := calp_inv hf
  refine cc_Vl (r_X12_reached (D := D) (y := y) (o := o) (ad := ad) (av := av) hc_1 l) hx hb hml hta hown hK hN hV hA hC hRc hRs (by omega) (by omega) wq_1123 (q := 0) (ci := 12) rfl rfl wq_1124 wq_1125 wq_1012 wq_1120 hd_X12_reached (As := [.int 0, .long 0]) (rest := []) rfl rfl hl.1 rfl dX12_isGoodSo_3 (fun H locs hC => ?_)
  refine lv_aload_n hx hb dX12_isGoodSo_6 rfl (lv_at hl 0 rfl) ?_
  obtain ⟨v_2, hc_2, hf⟩ := calp_inv hf
  refine cc_Vl (r_X12_all (D := D) (y := y) (o := o) (ad := ad) (av := av) hc_2 l) hx hb hml hta hown hK hN hV hA hC hRc hRs (by omega) (by omega) wq_1131 (q := 0) (ci := 12) rfl rfl wq_1132 wq_1133 wq_1012 wq_1121 hd_X12_all (As := []) (rest := [.long v_1]) rfl rfl hl.1 rfl dX12_isGoodSo_7 (fun H locs hC => ?_)
  refine W.lcmp hx hb dX12_isGoodSo_10 ?_
  refine lv_if_eq (tgt := 16) hx hb dX12_isGoodSo_11 (by decide) (fun c_3 => ?_) (fun c_3 => ?_)
  · have hf := it_t c_3 hf
    refine lv_aload_n hx hb dX12_isGoodSo_16 rfl (lv_at hl 0 rfl) ?_
    obtain ⟨s_4, hc_4, hf⟩ := cals_inv hf
    refine cc_Vv (r_X12_laysDominators (D := D) (y := y) (o := o) (ad := ad) (av := av) hc_4 l) hx hb hml hta hown hK hN hV hA hC hRc hRs (by omega) (by omega) wq_1134 (q := 0) (ci := 12) rfl rfl wq_1135 wq_1136 wq_1012 wq_1122 hd_X12_laysDominators (As := []) (rest := []) rfl rfl hl.1 rfl dX12_isGoodSo_17 (fun H locs hC => ?_)
    refine lv_aload_n hx hb dX12_isGoodSo_20 rfl (lv_at hl 0 rfl) ?_
    obtain ⟨v_5, hc_5, hf⟩ := calp_inv hf
    refine cc_Vi (r_X12_isReduced (D := D) (y := y) (o := o) (ad := ad) (av := av) hc_5 l) hx hb hml hta hown hK hN hV hA hC hRc hRs (by omega) (by omega) wq_1137 (q := 0) (ci := 12) rfl rfl wq_1138 wq_1139 wq_1012 wq_1127 hd_X12_isReduced (As := []) (rest := []) rfl rfl hl.1 rfl dX12_isGoodSo_21 (fun H locs hC => ?_)
    obtain ⟨hb_6, hf⟩ := bz_inv hf
    exact hret _ _ _ _ _ _ (rv_inv hf).1 (congrArg (WM y o) (rv_inv hf).2) (bz_nar hb_6) dX12_isGoodSo_24 hC
  · have hf := it_f c_3 hf
    refine lv_iconst (v := 0) hx hb dX12_isGoodSo_14 (by decide) ?_
    exact hret _ _ _ _ _ _ (rv_inv hf).1 (congrArg (WM y o) (rv_inv hf).2) rfl dX12_isGoodSo_15 hC

set_option maxHeartbeats 8000000 in
set_option maxRecDepth 100000 in
theorem r_X12_hasSecond {D : va_G} {y : Nat → ClassId} {o : Nat → Nat} {ad av : Nat → Nat} {x1 : Int32} {σ : Sto} {σ2 : Sto} {v : Int32} (hf : f_X12_hasSecond x1 σ = some (v, σ2)) (l : Launch) (sz : Nat) : Met l yX12_hasSecond (Cond.code yX12_hasSecond cX12_hasSecond 3 (some .boolean) :: ALW) { frames := 4, cells := 0, slots := 0, locals := 93 } (va_Pc [.ref (o 0), .int x1] (PZ D y ad av (WM y o σ) sz)) (QZi D (WM y o σ) v (WM y o σ2) sz) 0 0 (va_A (WM y o σ) sz) := by
  refine met_i (by decide) (Nat.le_of_ble_eq_true rfl) ?_
  intro p e R s m args below meth c Q A ls hx hb hml hta hown hRc hRs hRf hRl hN hK hV hA hret hC hl
  have hl : lv_has ls 3 [(0, .ref (o 0)), (1, .int x1)] := hl
  unfold f_X12_hasSecond at hf
  refine lv_iload_n hx hb dX12_hasSecond_0 rfl (lv_at hl 1 rfl) ?_
  refine lv_iconst (v := 1) hx hb dX12_hasSecond_1 (by decide) ?_
  refine lv_iadd hx hb dX12_hasSecond_2 ?_
  obtain ⟨x2_1, e_1, hf⟩ := lt_inv hf
  refine nmi e_1 ?_
  refine lv_istore_n (lv' := [(2, .int x2_1), (0, .ref (o 0)), (1, .int x1)]) hx hb dX12_hasSecond_3 rfl hl (by decide) rfl (fun ls hl => ?_)
  refine itr_inv2 (P := fun (x2_2 : Int32) (s_2 : Sto) => ∀ (H : Heap) (locs : List Loc) (ls : Array Slot), CZ D A s H locs (WM y o s_2) → lv_has ls 3 [(0, .ref (o 0)), (2, .int x2_2)] → W p l e R s m args below meth c H locs 0 0 Q (F0 m 4 ls [])) hf ?_ _ _ _ hC (lv_sub hl [1, 0] rfl)
  intro a_4 x2_2 s_2 ha_4 hf H locs ls hC hl
  refine lv_iload_n hx hb dX12_hasSecond_4 rfl (lv_at hl 1 rfl) ?_
  refine lv_aload_n hx hb dX12_hasSecond_5 rfl (lv_at hl 0 rfl) ?_
  refine gt_X12_327_m hx hb hta hown hK hC dX12_hasSecond_6 ?_
  refine lv_icmp_ge (tgt := 53) hx hb dX12_hasSecond_9 (by decide) (fun c_3 => ?_) (fun c_3 => ?_)
  · have hf := it_t c_3 hf
    refine lv_iconst (v := 0) hx hb dX12_hasSecond_53 (by decide) ?_
    exact hret _ _ _ _ _ _ (rv_inv hf).1 (congrArg (WM y o) (rv_inv hf).2) rfl dX12_hasSecond_54 hC
  · have hf := it_f c_3 hf
    refine lv_aload_n hx hb dX12_hasSecond_12 rfl (lv_at hl 0 rfl) ?_
    refine gt_X12_65_m hx hb hta hown hK hC dX12_hasSecond_13 ?_
    refine lv_iload_n hx hb dX12_hasSecond_16 rfl (lv_at hl 1 rfl) ?_
    obtain ⟨hi_4, hf⟩ := ix_inv hf
    obtain ⟨v_4, e_4, hf⟩ := lt_inv hf
    refine al_M_19 hx hb hK hC hi_4 e_4 dX12_hasSecond_17 ?_
    obtain ⟨k_47, hk_47, hf⟩ := jn_inv1 hf
    have hj_47 : ∀ (s_5 : Sto) (H : Heap) (locs : List Loc) (ls : Array Slot), k_47 s_5 = some (v, σ2) → CZ D A s H locs (WM y o s_5) → lv_has ls 3 [(0, .ref (o 0)), (2, .int x2_2)] → W p l e R s m args below meth c H locs 0 0 Q (F0 m 47 ls []) := by
      intro s_5 H locs ls hf hC hl
      have hf := hk_47 _ hf
      obtain ⟨x2_6, e_6, hf⟩ := lt_inv hf
      refine lv_iinc (v := x2_6) (lv' := [(2, .int x2_6), (0, .ref (o 0))]) hx hb dX12_hasSecond_47 hl (k := 1) rfl e_6.symm (by decide) rfl (fun ls hl => ?_)
      refine lv_goto (tgt := 4) hx hb dX12_hasSecond_50 (by decide) ?_
      exact ha_4 _ _ hf _ _ _ hC (lv_sub hl [1, 0] rfl)
    refine lv_if_eq (tgt := 24) hx hb dX12_hasSecond_18 (by decide) (fun c_7 => ?_) (fun c_7 => ?_)
    · have hf := it_t c_7 hf
      refine lv_aload_n hx hb dX12_hasSecond_24 rfl (lv_at hl 0 rfl) ?_
      refine gt_X12_69_m hx hb hta hown hK hC dX12_hasSecond_25 ?_
      refine lv_iload_n hx hb dX12_hasSecond_28 rfl (lv_at hl 1 rfl) ?_
      refine lv_iconst (v := 1) hx hb dX12_hasSecond_29 (by decide) ?_
      obtain ⟨hi_8, hf⟩ := ix_inv hf
      obtain ⟨s_8, e_8, hf⟩ := lt_inv hf
      refine as_M_20 hx hb hK hC hi_8 (Or.inr rfl) e_8 dX12_hasSecond_30 (fun H locs hC => ?_)
      refine lv_aload_n hx hb dX12_hasSecond_31 rfl (lv_at hl 0 rfl) ?_
      obtain ⟨v_9, s_9, hc_9, hf⟩ := calv_inv hf
      refine cc_Vi (r_X12_isGoodSo (D := D) (y := y) (o := o) (ad := ad) (av := av) hc_9 l) hx hb hml hta hown hK hN hV hA hC hRc hRs (by omega) (by omega) wq_1141 (q := 0) (ci := 12) rfl rfl wq_1142 wq_1143 wq_1012 wq_1140 hd_X12_isGoodSo (As := []) (rest := []) rfl rfl hl.1 rfl dX12_hasSecond_32 (fun H locs hC => ?_)
      refine lv_if_eq (tgt := 40) hx hb dX12_hasSecond_35 (by decide) (fun c_10 => ?_) (fun c_10 => ?_)
      · have hf := it_t c_10 hf
        refine lv_aload_n hx hb dX12_hasSecond_40 rfl (lv_at hl 0 rfl) ?_
        refine gt_X12_69_m hx hb hta hown hK hC dX12_hasSecond_41 ?_
        refine lv_iload_n hx hb dX12_hasSecond_44 rfl (lv_at hl 1 rfl) ?_
        refine lv_iconst (v := 0) hx hb dX12_hasSecond_45 (by decide) ?_
        obtain ⟨hi_11, hf⟩ := ix_inv hf
        obtain ⟨s_11, e_11, hf⟩ := lt_inv hf
        refine as_M_20 hx hb hK hC hi_11 (Or.inl rfl) e_11 dX12_hasSecond_46 (fun H locs hC => ?_)
        exact hj_47 _ _ _ _ hf hC hl
      · have hf := it_f c_10 hf
        refine lv_iconst (v := 1) hx hb dX12_hasSecond_38 (by decide) ?_
        exact hret _ _ _ _ _ _ (rv_inv hf).1 (congrArg (WM y o) (rv_inv hf).2) rfl dX12_hasSecond_39 hC
    · have hf := it_f c_7 hf
      refine lv_goto (tgt := 47) hx hb dX12_hasSecond_21 (by decide) ?_
      exact hj_47 _ _ _ _ hf hC hl
