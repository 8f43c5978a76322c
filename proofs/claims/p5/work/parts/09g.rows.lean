set_option maxHeartbeats 8000000 in
set_option maxRecDepth 100000 in
theorem r_X8_oneJumpIsEnough {D : va_G} {y : Nat → ClassId} {o : Nat → Nat} {ad av : Nat → Nat} {σ : Sto} {σ2 : Sto} {v : Int32} (hf : f_X8_oneJumpIsEnough σ = some (v, σ2)) (l : Launch) (sz : Nat) : Met l yX8_oneJumpIsEnough (Cond.code yX8_oneJumpIsEnough cX8_oneJumpIsEnough 2 (some .boolean) :: ALW) { frames := 5, cells := 0, slots := 0, locals := 117 } (va_Pc [.ref (o 30)] (PZ D y ad av (WX y o σ) sz)) (QZi D (WX y o σ) v (WX y o σ2) sz) 0 0 (va_A (WX y o σ) sz) := by
  refine met_i (by decide) (Nat.le_of_ble_eq_true rfl) ?_
  intro p e R s m args below meth c Q A ls hx hb hml hta hown hRc hRs hRf hRl hN hK hV hA hret hC hl
  have hl : lv_has ls 2 [(0, .ref (o 30))] := hl
  unfold f_X8_oneJumpIsEnough at hf
  refine lv_iconst (v := 0) hx hb dX8_oneJumpIsEnough_0 (by decide) ?_
  refine lv_istore_n (lv' := [(1, .int 0), (0, .ref (o 30))]) hx hb dX8_oneJumpIsEnough_1 rfl hl (by decide) rfl (fun ls hl => ?_)
  refine itr_inv2 (P := fun (x1_1 : Int32) (s_1 : Sto) => ∀ (H : Heap) (locs : List Loc) (ls : Array Slot), CZ D A s H locs (WX y o s_1) → lv_has ls 2 [(0, .ref (o 30)), (1, .int x1_1)] → W p l e R s m args below meth c H locs 0 0 Q (F0 m 2 ls [])) hf ?_ _ _ _ hC (lv_sub hl [1, 0] rfl)
  intro a_2 x1_1 s_1 ha_2 hf H locs ls hC hl
  refine lv_iload_n hx hb dX8_oneJumpIsEnough_2 rfl (lv_at hl 1 rfl) ?_
  refine lv_aload_n hx hb dX8_oneJumpIsEnough_3 rfl (lv_at hl 0 rfl) ?_
  refine gt_X8_129_shape hx hb hta hown hK hC dX8_oneJumpIsEnough_4 ?_
  refine lv_icmp_ge (tgt := 54) hx hb dX8_oneJumpIsEnough_7 (by decide) (fun c_2 => ?_) (fun c_2 => ?_)
  · have hf := it_t c_2 hf
    refine lv_iconst (v := 0) hx hb dX8_oneJumpIsEnough_54 (by decide) ?_
    exact hret _ _ _ _ _ _ (rv_inv hf).1 (congrArg (WX y o) (rv_inv hf).2) rfl dX8_oneJumpIsEnough_55 hC
  · have hf := it_f c_2 hf
    refine lv_aload_n hx hb dX8_oneJumpIsEnough_10 rfl (lv_at hl 0 rfl) ?_
    refine gt_X8_9_shape hx hb hta hown hK hC dX8_oneJumpIsEnough_11 ?_
    refine lv_aload_n hx hb dX8_oneJumpIsEnough_14 rfl (lv_at hl 0 rfl) ?_
    refine gt_X8_44_shape hx hb hta hown hK hC dX8_oneJumpIsEnough_15 ?_
    refine lv_iload_n hx hb dX8_oneJumpIsEnough_18 rfl (lv_at hl 1 rfl) ?_
    obtain ⟨hi_3, hf⟩ := ix_inv hf
    obtain ⟨v_3, e_3, hf⟩ := lt_inv hf
    refine al_X_41 hx hb hK hC hi_3 e_3 dX8_oneJumpIsEnough_19 ?_
    refine lv_iconst (v := 1) hx hb dX8_oneJumpIsEnough_20 (by decide) ?_
    obtain ⟨hi_4, hf⟩ := ix_inv hf
    obtain ⟨s_4, e_4, hf⟩ := lt_inv hf
    refine as_X_31 hx hb hK hC hi_4 (Or.inr rfl) e_4 dX8_oneJumpIsEnough_21 (fun H locs hC => ?_)
    refine lv_aload_n hx hb dX8_oneJumpIsEnough_22 rfl (lv_at hl 0 rfl) ?_
    obtain ⟨v_5, s_5, hc_5, hf⟩ := calv_inv hf
    refine cc_Vi (r_X8_isReducedNow (D := D) (y := y) (o := o) (ad := ad) (av := av) hc_5 l) hx hb hml hta hown hK hN hV hA hC hRc hRs (by omega) (by omega) wq_620 (q := 30) (ci := 8) rfl rfl wq_621 wq_622 wq_603 wq_615 hd_X8_isReducedNow (As := []) (rest := []) rfl rfl hl.1 rfl dX8_oneJumpIsEnough_23 (fun H locs hC => ?_)
    refine lv_if_eq (tgt := 36) hx hb dX8_oneJumpIsEnough_26 (by decide) (fun c_6 => ?_) (fun c_6 => ?_)
    · have hf := it_t c_6 hf
      refine lv_aload_n hx hb dX8_oneJumpIsEnough_36 rfl (lv_at hl 0 rfl) ?_
      refine gt_X8_9_shape hx hb hta hown hK hC dX8_oneJumpIsEnough_37 ?_
      refine lv_aload_n hx hb dX8_oneJumpIsEnough_40 rfl (lv_at hl 0 rfl) ?_
      refine gt_X8_44_shape hx hb hta hown hK hC dX8_oneJumpIsEnough_41 ?_
      refine lv_iload_n hx hb dX8_oneJumpIsEnough_44 rfl (lv_at hl 1 rfl) ?_
      obtain ⟨hi_7, hf⟩ := ix_inv hf
      obtain ⟨v_7, e_7, hf⟩ := lt_inv hf
      refine al_X_41 hx hb hK hC hi_7 e_7 dX8_oneJumpIsEnough_45 ?_
      refine lv_iconst (v := 0) hx hb dX8_oneJumpIsEnough_46 (by decide) ?_
      obtain ⟨hi_8, hf⟩ := ix_inv hf
      obtain ⟨s_8, e_8, hf⟩ := lt_inv hf
      refine as_X_31 hx hb hK hC hi_8 (Or.inl rfl) e_8 dX8_oneJumpIsEnough_47 (fun H locs hC => ?_)
      obtain ⟨x1_9, e_9, hf⟩ := lt_inv hf
      refine lv_iinc (v := x1_9) (lv' := [(1, .int x1_9), (0, .ref (o 30))]) hx hb dX8_oneJumpIsEnough_48 hl (k := 1) rfl e_9.symm (by decide) rfl (fun ls hl => ?_)
      refine lv_goto (tgt := 2) hx hb dX8_oneJumpIsEnough_51 (by decide) ?_
      exact ha_2 _ _ hf _ _ _ hC (lv_sub hl [1, 0] rfl)
    · have hf := it_f c_6 hf
      refine lv_aload_n hx hb dX8_oneJumpIsEnough_29 rfl (lv_at hl 0 rfl) ?_
      refine lv_iconst (v := 1) hx hb dX8_oneJumpIsEnough_30 (by decide) ?_
      obtain ⟨s_10, e_10, hf⟩ := lt_inv hf
      refine pt_X8_51_shape hx hb hta hown hK hC e_10 dX8_oneJumpIsEnough_31 (fun H locs hC => ?_)
      refine lv_iconst (v := 1) hx hb dX8_oneJumpIsEnough_34 (by decide) ?_
      exact hret _ _ _ _ _ _ (rv_inv hf).1 (congrArg (WX y o) (rv_inv hf).2) rfl dX8_oneJumpIsEnough_35 hC

set_option maxHeartbeats 8000000 in
set_option maxRecDepth 100000 in
theorem r_X8_twoJumpsAreEnough {D : va_G} {y : Nat → ClassId} {o : Nat → Nat} {ad av : Nat → Nat} {σ : Sto} {σ2 : Sto} {v : Int32} (hf : f_X8_twoJumpsAreEnough σ = some (v, σ2)) (l : Launch) (sz : Nat) : Met l yX8_twoJumpsAreEnough (Cond.code yX8_twoJumpsAreEnough cX8_twoJumpsAreEnough 3 (some .boolean) :: ALW) { frames := 5, cells := 0, slots := 0, locals := 117 } (va_Pc [.ref (o 30)] (PZ D y ad av (WX y o σ) sz)) (QZi D (WX y o σ) v (WX y o σ2) sz) 0 0 (va_A (WX y o σ) sz) := by
  refine met_i (by decide) (Nat.le_of_ble_eq_true rfl) ?_
  intro p e R s m args below meth c Q A ls hx hb hml hta hown hRc hRs hRf hRl hN hK hV hA hret hC hl
  have hl : lv_has ls 3 [(0, .ref (o 30))] := hl
  unfold f_X8_twoJumpsAreEnough at hf
  refine lv_iconst (v := 0) hx hb dX8_twoJumpsAreEnough_0 (by decide) ?_
  refine lv_istore_n (lv' := [(1, .int 0), (0, .ref (o 30))]) hx hb dX8_twoJumpsAreEnough_1 rfl hl (by decide) rfl (fun ls hl => ?_)
  refine itr_inv2 (P := fun (x1_1 : Int32) (s_1 : Sto) => ∀ (H : Heap) (locs : List Loc) (ls : Array Slot), CZ D A s H locs (WX y o s_1) → lv_has ls 3 [(0, .ref (o 30)), (1, .int x1_1)] → W p l e R s m args below meth c H locs 0 0 Q (F0 m 2 ls [])) hf ?_ _ _ _ hC (lv_sub hl [1, 0] rfl)
  intro a_2 x1_1 s_1 ha_2 hf H locs ls hC hl
  refine lv_iload_n hx hb dX8_twoJumpsAreEnough_2 rfl (lv_at hl 1 rfl) ?_
  refine lv_aload_n hx hb dX8_twoJumpsAreEnough_3 rfl (lv_at hl 0 rfl) ?_
  refine gt_X8_129_shape hx hb hta hown hK hC dX8_twoJumpsAreEnough_4 ?_
  refine lv_icmp_ge (tgt := 96) hx hb dX8_twoJumpsAreEnough_7 (by decide) (fun c_2 => ?_) (fun c_2 => ?_)
  · have hf := it_t c_2 hf
    refine lv_iconst (v := 0) hx hb dX8_twoJumpsAreEnough_96 (by decide) ?_
    exact hret _ _ _ _ _ _ (rv_inv hf).1 (congrArg (WX y o) (rv_inv hf).2) rfl dX8_twoJumpsAreEnough_97 hC
  · have hf := it_f c_2 hf
    refine lv_aload_n hx hb dX8_twoJumpsAreEnough_10 rfl (lv_at hl 0 rfl) ?_
    refine gt_X8_9_shape hx hb hta hown hK hC dX8_twoJumpsAreEnough_11 ?_
    refine lv_aload_n hx hb dX8_twoJumpsAreEnough_14 rfl (lv_at hl 0 rfl) ?_
    refine gt_X8_44_shape hx hb hta hown hK hC dX8_twoJumpsAreEnough_15 ?_
    refine lv_iload_n hx hb dX8_twoJumpsAreEnough_18 rfl (lv_at hl 1 rfl) ?_
    obtain ⟨hi_3, hf⟩ := ix_inv hf
    obtain ⟨v_3, e_3, hf⟩ := lt_inv hf
    refine al_X_41 hx hb hK hC hi_3 e_3 dX8_twoJumpsAreEnough_19 ?_
    refine lv_iconst (v := 1) hx hb dX8_twoJumpsAreEnough_20 (by decide) ?_
    obtain ⟨hi_4, hf⟩ := ix_inv hf
    obtain ⟨s_4, e_4, hf⟩ := lt_inv hf
    refine as_X_31 hx hb hK hC hi_4 (Or.inr rfl) e_4 dX8_twoJumpsAreEnough_21 (fun H locs hC => ?_)
    refine lv_iload_n hx hb dX8_twoJumpsAreEnough_22 rfl (lv_at hl 1 rfl) ?_
    refine lv_iconst (v := 1) hx hb dX8_twoJumpsAreEnough_23 (by decide) ?_
    refine lv_iadd hx hb dX8_twoJumpsAreEnough_24 ?_
    obtain ⟨x2_5, e_5, hf⟩ := lt_inv hf
    refine nmi e_5 ?_
    refine lv_istore_n (lv' := [(2, .int x2_5), (0, .ref (o 30)), (1, .int x1_1)]) hx hb dX8_twoJumpsAreEnough_25 rfl hl (by decide) rfl (fun ls hl => ?_)
    refine itr_inv2 (P := fun (x2_6 : Int32) (s_6 : Sto) => ∀ (H : Heap) (locs : List Loc) (ls : Array Slot), CZ D A s H locs (WX y o s_6) → lv_has ls 3 [(0, .ref (o 30)), (1, .int x1_1), (2, .int x2_6)] → W p l e R s m args below meth c H locs 0 0 Q (F0 m 26 ls [])) hf ?_ _ _ _ hC (lv_sub hl [1, 2, 0] rfl)
    intro a_26 x2_6 s_6 ha_26 hf H locs ls hC hl
    refine lv_iload_n hx hb dX8_twoJumpsAreEnough_26 rfl (lv_at hl 2 rfl) ?_
    refine lv_aload_n hx hb dX8_twoJumpsAreEnough_27 rfl (lv_at hl 0 rfl) ?_
    refine gt_X8_129_shape hx hb hta hown hK hC dX8_twoJumpsAreEnough_28 ?_
    refine lv_icmp_ge (tgt := 78) hx hb dX8_twoJumpsAreEnough_31 (by decide) (fun c_7 => ?_) (fun c_7 => ?_)
    · have hf := it_t c_7 hf
      refine lv_aload_n hx hb dX8_twoJumpsAreEnough_78 rfl (lv_at hl 0 rfl) ?_
      refine gt_X8_9_shape hx hb hta hown hK hC dX8_twoJumpsAreEnough_79 ?_
      refine lv_aload_n hx hb dX8_twoJumpsAreEnough_82 rfl (lv_at hl 0 rfl) ?_
      refine gt_X8_44_shape hx hb hta hown hK hC dX8_twoJumpsAreEnough_83 ?_
      refine lv_iload_n hx hb dX8_twoJumpsAreEnough_86 rfl (lv_at hl 1 rfl) ?_
      obtain ⟨hi_8, hf⟩ := ix_inv hf
      obtain ⟨v_8, e_8, hf⟩ := lt_inv hf
      refine al_X_41 hx hb hK hC hi_8 e_8 dX8_twoJumpsAreEnough_87 ?_
      refine lv_iconst (v := 0) hx hb dX8_twoJumpsAreEnough_88 (by decide) ?_
      obtain ⟨hi_9, hf⟩ := ix_inv hf
      obtain ⟨s_9, e_9, hf⟩ := lt_inv hf
      refine as_X_31 hx hb hK hC hi_9 (Or.inl rfl) e_9 dX8_twoJumpsAreEnough_89 (fun H locs hC => ?_)
      obtain ⟨x1_10, e_10, hf⟩ := lt_inv hf
      refine lv_iinc (v := x1_10) (lv' := [(1, .int x1_10), (0, .ref (o 30)), (2, .int x2_6)]) hx hb dX8_twoJumpsAreEnough_90 hl (k := 1) rfl e_10.symm (by decide) rfl (fun ls hl => ?_)
      refine lv_goto (tgt := 2) hx hb dX8_twoJumpsAreEnough_93 (by decide) ?_
      exact ha_2 _ _ hf _ _ _ hC (lv_sub hl [1, 0] rfl)
    · have hf := it_f c_7 hf
      refine lv_aload_n hx hb dX8_twoJumpsAreEnough_34 rfl (lv_at hl 0 rfl) ?_
      refine gt_X8_9_shape hx hb hta hown hK hC dX8_twoJumpsAreEnough_35 ?_
      refine lv_aload_n hx hb dX8_twoJumpsAreEnough_38 rfl (lv_at hl 0 rfl) ?_
      refine gt_X8_44_shape hx hb hta hown hK hC dX8_twoJumpsAreEnough_39 ?_
      refine lv_iload_n hx hb dX8_twoJumpsAreEnough_42 rfl (lv_at hl 2 rfl) ?_
      obtain ⟨hi_11, hf⟩ := ix_inv hf
      obtain ⟨v_11, e_11, hf⟩ := lt_inv hf
      refine al_X_41 hx hb hK hC hi_11 e_11 dX8_twoJumpsAreEnough_43 ?_
      refine lv_iconst (v := 1) hx hb dX8_twoJumpsAreEnough_44 (by decide) ?_
      obtain ⟨hi_12, hf⟩ := ix_inv hf
      obtain ⟨s_12, e_12, hf⟩ := lt_inv hf
      refine as_X_31 hx hb hK hC hi_12 (Or.inr rfl) e_12 dX8_twoJumpsAreEnough_45 (fun H locs hC => ?_)
      refine lv_aload_n hx hb dX8_twoJumpsAreEnough_46 rfl (lv_at hl 0 rfl) ?_
      obtain ⟨v_13, s_13, hc_13, hf⟩ := calv_inv hf
      refine cc_Vi (r_X8_isReducedNow (D := D) (y := y) (o := o) (ad := ad) (av := av) hc_13 l) hx hb hml hta hown hK hN hV hA hC hRc hRs (by omega) (by omega) wq_620 (q := 30) (ci := 8) rfl rfl wq_621 wq_622 wq_603 wq_615 hd_X8_isReducedNow (As := []) (rest := []) rfl rfl hl.1 rfl dX8_twoJumpsAreEnough_47 (fun H locs hC => ?_)
      refine lv_if_eq (tgt := 60) hx hb dX8_twoJumpsAreEnough_50 (by decide) (fun c_14 => ?_) (fun c_14 => ?_)
      · have hf := it_t c_14 hf
        refine lv_aload_n hx hb dX8_twoJumpsAreEnough_60 rfl (lv_at hl 0 rfl) ?_
        refine gt_X8_9_shape hx hb hta hown hK hC dX8_twoJumpsAreEnough_61 ?_
        refine lv_aload_n hx hb dX8_twoJumpsAreEnough_64 rfl (lv_at hl 0 rfl) ?_
        refine gt_X8_44_shape hx hb hta hown hK hC dX8_twoJumpsAreEnough_65 ?_
        refine lv_iload_n hx hb dX8_twoJumpsAreEnough_68 rfl (lv_at hl 2 rfl) ?_
        obtain ⟨hi_15, hf⟩ := ix_inv hf
        obtain ⟨v_15, e_15, hf⟩ := lt_inv hf
        refine al_X_41 hx hb hK hC hi_15 e_15 dX8_twoJumpsAreEnough_69 ?_
        refine lv_iconst (v := 0) hx hb dX8_twoJumpsAreEnough_70 (by decide) ?_
        obtain ⟨hi_16, hf⟩ := ix_inv hf
        obtain ⟨s_16, e_16, hf⟩ := lt_inv hf
        refine as_X_31 hx hb hK hC hi_16 (Or.inl rfl) e_16 dX8_twoJumpsAreEnough_71 (fun H locs hC => ?_)
        obtain ⟨x2_17, e_17, hf⟩ := lt_inv hf
        refine lv_iinc (v := x2_17) (lv' := [(2, .int x2_17), (0, .ref (o 30)), (1, .int x1_1)]) hx hb dX8_twoJumpsAreEnough_72 hl (k := 2) rfl e_17.symm (by decide) rfl (fun ls hl => ?_)
        refine lv_goto (tgt := 26) hx hb dX8_twoJumpsAreEnough_75 (by decide) ?_
        exact ha_26 _ _ hf _ _ _ hC (lv_sub hl [1, 2, 0] rfl)
      · have hf := it_f c_14 hf
        refine lv_aload_n hx hb dX8_twoJumpsAreEnough_53 rfl (lv_at hl 0 rfl) ?_
        refine lv_iconst (v := 2) hx hb dX8_twoJumpsAreEnough_54 (by decide) ?_
        obtain ⟨s_18, e_18, hf⟩ := lt_inv hf
        refine pt_X8_51_shape hx hb hta hown hK hC e_18 dX8_twoJumpsAreEnough_55 (fun H locs hC => ?_)
        refine lv_iconst (v := 1) hx hb dX8_twoJumpsAreEnough_58 (by decide) ?_
        exact hret _ _ _ _ _ _ (rv_inv hf).1 (congrArg (WX y o) (rv_inv hf).2) rfl dX8_twoJumpsAreEnough_59 hC

set_option maxHeartbeats 8000000 in
set_option maxRecDepth 100000 in
theorem r_X8_form {D : va_G} {y : Nat → ClassId} {o : Nat → Nat} {ad av : Nat → Nat} {σ : Sto} {σ2 : Sto} (hf : f_X8_form σ = some σ2) (l : Launch) (sz : Nat) : Met l yX8_form (Cond.code yX8_form cX8_form 2 none :: ALW) { frames := 6, cells := 0, slots := 0, locals := 139 } (va_Pc [.ref (o 30)] (PZ D y ad av (WX y o σ) sz)) (QZv D (WX y o σ) (WX y o σ2) sz) 0 0 (va_A (WX y o σ) sz) := by
  refine met_v (by decide) (Nat.le_of_ble_eq_true rfl) ?_
  intro p e R s m args below meth c Q A ls hx hb hml hta hown hRc hRs hRf hRl hN hK hV hA hret hC hl
  have hl : lv_has ls 2 [(0, .ref (o 30))] := hl
  unfold f_X8_form at hf
  refine lv_iconst (v := 0) hx hb dX8_form_0 (by decide) ?_
  refine lv_istore_n (lv' := [(1, .int 0), (0, .ref (o 30))]) hx hb dX8_form_1 rfl hl (by decide) rfl (fun ls hl => ?_)
  refine itr_inv2 (P := fun (x1_1 : Int32) (s_1 : Sto) => ∀ (H : Heap) (locs : List Loc) (ls : Array Slot), CZ D A s H locs (WX y o s_1) → lv_has ls 2 [(0, .ref (o 30)), (1, .int x1_1)] → W p l e R s m args below meth c H locs 0 0 Q (F0 m 2 ls [])) hf ?_ _ _ _ hC (lv_sub hl [1, 0] rfl)
  intro a_2 x1_1 s_1 ha_2 hf H locs ls hC hl
  refine lv_iload_n hx hb dX8_form_2 rfl (lv_at hl 1 rfl) ?_
  refine lv_bipush (v := 120) hx hb dX8_form_3 (by decide) ?_
  refine lv_icmp_ge (tgt := 21) hx hb dX8_form_5 (by decide) (fun c_2 => ?_) (fun c_2 => ?_)
  · have hf := it_t c_2 hf
    refine lv_aload_n hx hb dX8_form_21 rfl (lv_at hl 0 rfl) ?_
    refine lv_iconst (v := 0) hx hb dX8_form_22 (by decide) ?_
    obtain ⟨s_3, e_3, hf⟩ := lt_inv hf
    refine pt_X8_51_shape hx hb hta hown hK hC e_3 dX8_form_23 (fun H locs hC => ?_)
    refine lv_aload_n hx hb dX8_form_26 rfl (lv_at hl 0 rfl) ?_
    refine lv_aload_n hx hb dX8_form_27 rfl (lv_at hl 0 rfl) ?_
    obtain ⟨v_4, s_4, hc_4, hf⟩ := calv_inv hf
    refine cc_Vi (r_X8_isReducedNow (D := D) (y := y) (o := o) (ad := ad) (av := av) hc_4 l) hx hb hml hta hown hK hN hV hA hC hRc hRs (by omega) (by omega) wq_620 (q := 30) (ci := 8) rfl rfl wq_621 wq_622 wq_603 wq_615 hd_X8_isReducedNow (As := []) (rest := [.ref (o 30)]) rfl rfl hl.1 rfl dX8_form_28 (fun H locs hC => ?_)
    obtain ⟨hb_6, hf⟩ := bz_inv hf
    obtain ⟨s_5, e_5, hf⟩ := lt_inv hf
    refine pt_X8_59_shape hx hb hta hown hK hC hb_6 e_5 dX8_form_31 (fun H locs hC => ?_)
    refine lv_aload_n hx hb dX8_form_34 rfl (lv_at hl 0 rfl) ?_
    refine lv_iconst (v := 0) hx hb dX8_form_35 (by decide) ?_
    obtain ⟨s_7, e_7, hf⟩ := lt_inv hf
    refine pt_X8_63_shape hx hb hta hown hK hC (Or.inl rfl) e_7 dX8_form_36 (fun H locs hC => ?_)
    refine lv_aload_n hx hb dX8_form_39 rfl (lv_at hl 0 rfl) ?_
    refine gt_X8_59_shape hx hb hta hown hK hC dX8_form_40 ?_
    obtain ⟨k_74, hk_74, hf⟩ := jn_inv1 hf
    have hj_74 : ∀ (s_8 : Sto) (H : Heap) (locs : List Loc) (ls : Array Slot), k_74 s_8 = some σ2 → CZ D A s H locs (WX y o s_8) → lv_has ls 2 [(0, .ref (o 30))] → W p l e R s m args below meth c H locs 0 0 Q (F0 m 74 ls []) := by
      intro s_8 H locs ls hf hC hl
      have hf := hk_74 _ hf
      refine lv_iconst (v := 0) hx hb dX8_form_74 (by decide) ?_
      refine lv_istore_n (lv' := [(1, .int 0), (0, .ref (o 30))]) hx hb dX8_form_75 rfl hl (by decide) rfl (fun ls hl => ?_)
      refine itr_inv2 (P := fun (x1_9 : Int32) (s_9 : Sto) => ∀ (H : Heap) (locs : List Loc) (ls : Array Slot), CZ D A s H locs (WX y o s_9) → lv_has ls 2 [(0, .ref (o 30)), (1, .int x1_9)] → W p l e R s m args below meth c H locs 0 0 Q (F0 m 76 ls [])) hf ?_ _ _ _ hC (lv_sub hl [1, 0] rfl)
      intro a_76 x1_9 s_9 ha_76 hf H locs ls hC hl
      refine lv_iload_n hx hb dX8_form_76 rfl (lv_at hl 1 rfl) ?_
      refine lv_aload_n hx hb dX8_form_77 rfl (lv_at hl 0 rfl) ?_
      refine gt_X8_47_shape hx hb hta hown hK hC dX8_form_78 ?_
      refine gt_X8_75_blocks hx hb hta hown hK hC dX8_form_81 ?_
      refine lv_icmp_ge (tgt := 104) hx hb dX8_form_84 (by decide) (fun c_10 => ?_) (fun c_10 => ?_)
      · have hf := it_t c_10 hf
        refine lv_aload_n hx hb dX8_form_104 rfl (lv_at hl 0 rfl) ?_
        obtain ⟨s_11, hc_11, hf⟩ := cals_inv hf
        refine cc_Vv (r_X8_findAbove (D := D) (y := y) (o := o) (ad := ad) (av := av) hc_11 l) hx hb hml hta hown hK hN hV hA hC hRc hRs (by omega) (by omega) wq_645 (q := 30) (ci := 8) rfl rfl wq_646 wq_647 wq_603 wq_625 hd_X8_findAbove (As := []) (rest := []) rfl rfl hl.1 rfl dX8_form_105 (fun H locs hC => ?_)
        refine lv_aload_n hx hb dX8_form_108 rfl (lv_at hl 0 rfl) ?_
        obtain ⟨s_12, hc_12, hf⟩ := cals_inv hf
        refine cc_Vv (r_X8_findLoops (D := D) (y := y) (o := o) (ad := ad) (av := av) hc_12 l) hx hb hml hta hown hK hN hV hA hC hRc hRs (by omega) (by omega) wq_648 (q := 30) (ci := 8) rfl rfl wq_649 wq_650 wq_603 wq_627 hd_X8_findLoops (As := []) (rest := []) rfl rfl hl.1 rfl dX8_form_109 (fun H locs hC => ?_)
        refine lv_aload_n hx hb dX8_form_112 rfl (lv_at hl 0 rfl) ?_
        obtain ⟨s_13, hc_13, hf⟩ := cals_inv hf
        refine cc_Vv (r_X8_findMerges (D := D) (y := y) (o := o) (ad := ad) (av := av) hc_13 l) hx hb hml hta hown hK hN hV hA hC hRc hRs (by omega) (by omega) wq_651 (q := 30) (ci := 8) rfl rfl wq_652 wq_653 wq_603 wq_632 hd_X8_findMerges (As := []) (rest := []) rfl rfl hl.1 rfl dX8_form_113 (fun H locs hC => ?_)
        exact hret _ _ _ _ _ (congrArg (WX y o) (Option.some.inj hf)) dX8_form_116 hC
      · have hf := it_f c_10 hf
        refine lv_aload_n hx hb dX8_form_87 rfl (lv_at hl 0 rfl) ?_
        refine gt_X8_15_shape hx hb hta hown hK hC dX8_form_88 ?_
        refine lv_iload_n hx hb dX8_form_91 rfl (lv_at hl 1 rfl) ?_
        refine lv_aload_n hx hb dX8_form_92 rfl (lv_at hl 0 rfl) ?_
        refine lv_iload_n hx hb dX8_form_93 rfl (lv_at hl 1 rfl) ?_
        obtain ⟨v_14, hc_14, hf⟩ := calp_inv hf
        refine cc_Vi (r_X8_isBack (D := D) (y := y) (o := o) (ad := ad) (av := av) hc_14 l) hx hb hml hta hown hK hN hV hA hC hRc hRs (by omega) (by omega) wq_612 (q := 30) (ci := 8) rfl rfl wq_613 wq_614 wq_603 wq_605 hd_X8_isBack (As := [.int x1_9]) (rest := [.int x1_9, .ref (o 32)]) rfl rfl hl.1 rfl dX8_form_94 (fun H locs hC => ?_)
        obtain ⟨hb_16, hf⟩ := bz_inv hf
        obtain ⟨hi_15, hf⟩ := ix_inv hf
        obtain ⟨s_15, e_15, hf⟩ := lt_inv hf
        refine as_X_32 hx hb hK hC hi_15 hb_16 e_15 dX8_form_97 (fun H locs hC => ?_)
        obtain ⟨x1_17, e_17, hf⟩ := lt_inv hf
        refine lv_iinc (v := x1_17) (lv' := [(1, .int x1_17), (0, .ref (o 30))]) hx hb dX8_form_98 hl (k := 1) rfl e_17.symm (by decide) rfl (fun ls hl => ?_)
        refine lv_goto (tgt := 76) hx hb dX8_form_101 (by decide) ?_
        exact ha_76 _ _ hf _ _ _ hC (lv_sub hl [1, 0] rfl)
    refine lv_if_ne (tgt := 74) hx hb dX8_form_43 (by decide) (fun c_18 => ?_) (fun c_18 => ?_)
    · have hf := it_f c_18 hf
      exact hj_74 _ _ _ _ hf hC (lv_sub hl [0] rfl)
    · have hf := it_t c_18 hf
      refine lv_aload_n hx hb dX8_form_46 rfl (lv_at hl 0 rfl) ?_
      obtain ⟨s_19, hc_19, hf⟩ := cals_inv hf
      refine cc_Vv (r_X8_findCandidates (D := D) (y := y) (o := o) (ad := ad) (av := av) hc_19 l) hx hb hml hta hown hK hN hV hA hC hRc hRs (by omega) (by omega) wq_636 (q := 30) (ci := 8) rfl rfl wq_637 wq_638 wq_603 wq_616 hd_X8_findCandidates (As := []) (rest := []) rfl rfl hl.1 rfl dX8_form_47 (fun H locs hC => ?_)
      refine lv_aload_n hx hb dX8_form_50 rfl (lv_at hl 0 rfl) ?_
      obtain ⟨v_20, s_20, hc_20, hf⟩ := calv_inv hf
      refine cc_Vi (r_X8_oneJumpIsEnough (D := D) (y := y) (o := o) (ad := ad) (av := av) hc_20 l) hx hb hml hta hown hK hN hV hA hC hRc hRs (by omega) (by omega) wq_639 (q := 30) (ci := 8) rfl rfl wq_640 wq_641 wq_603 wq_623 hd_X8_oneJumpIsEnough (As := []) (rest := []) rfl rfl hl.1 rfl dX8_form_51 (fun H locs hC => ?_)
      refine lv_if_ne (tgt := 74) hx hb dX8_form_54 (by decide) (fun c_21 => ?_) (fun c_21 => ?_)
      · have hf := it_f c_21 hf
        exact hj_74 _ _ _ _ hf hC (lv_sub hl [0] rfl)
      · have hf := it_t c_21 hf
        refine lv_aload_n hx hb dX8_form_57 rfl (lv_at hl 0 rfl) ?_
        obtain ⟨v_22, s_22, hc_22, hf⟩ := calv_inv hf
        refine cc_Vi (r_X8_twoJumpsAreEnough (D := D) (y := y) (o := o) (ad := ad) (av := av) hc_22 l) hx hb hml hta hown hK hN hV hA hC hRc hRs (by omega) (by omega) wq_642 (q := 30) (ci := 8) rfl rfl wq_643 wq_644 wq_603 wq_624 hd_X8_twoJumpsAreEnough (As := []) (rest := []) rfl rfl hl.1 rfl dX8_form_58 (fun H locs hC => ?_)
        refine lv_if_ne (tgt := 74) hx hb dX8_form_61 (by decide) (fun c_23 => ?_) (fun c_23 => ?_)
        · have hf := it_f c_23 hf
          exact hj_74 _ _ _ _ hf hC (lv_sub hl [0] rfl)
        · have hf := it_t c_23 hf
          refine lv_aload_n hx hb dX8_form_64 rfl (lv_at hl 0 rfl) ?_
          refine lv_iconst (v := 1) hx hb dX8_form_65 (by decide) ?_
          obtain ⟨s_24, e_24, hf⟩ := lt_inv hf
          refine pt_X8_63_shape hx hb hta hown hK hC (Or.inr rfl) e_24 dX8_form_66 (fun H locs hC => ?_)
          refine lv_aload_n hx hb dX8_form_69 rfl (lv_at hl 0 rfl) ?_
          obtain ⟨v_25, s_25, hc_25, hf⟩ := calv_inv hf
          refine cc_Vi (r_X8_isReducedNow (D := D) (y := y) (o := o) (ad := ad) (av := av) hc_25 l) hx hb hml hta hown hK hN hV hA hC hRc hRs (by omega) (by omega) wq_620 (q := 30) (ci := 8) rfl rfl wq_621 wq_622 wq_603 wq_615 hd_X8_isReducedNow (As := []) (rest := []) rfl rfl hl.1 rfl dX8_form_70 (fun H locs hC => ?_)
          refine lv_pop hx hb dX8_form_73 rfl ?_
          exact hj_74 _ _ _ _ hf hC (lv_sub hl [0] rfl)
  · have hf := it_f c_2 hf
    refine lv_aload_n hx hb dX8_form_8 rfl (lv_at hl 0 rfl) ?_
    refine gt_X8_9_shape hx hb hta hown hK hC dX8_form_9 ?_
    refine lv_iload_n hx hb dX8_form_12 rfl (lv_at hl 1 rfl) ?_
    refine lv_iconst (v := 0) hx hb dX8_form_13 (by decide) ?_
    obtain ⟨hi_26, hf⟩ := ix_inv hf
    obtain ⟨s_26, e_26, hf⟩ := lt_inv hf
    refine as_X_31 hx hb hK hC hi_26 (Or.inl rfl) e_26 dX8_form_14 (fun H locs hC => ?_)
    obtain ⟨x1_27, e_27, hf⟩ := lt_inv hf
    refine lv_iinc (v := x1_27) (lv' := [(1, .int x1_27), (0, .ref (o 30))]) hx hb dX8_form_15 hl (k := 1) rfl e_27.symm (by decide) rfl (fun ls hl => ?_)
    refine lv_goto (tgt := 2) hx hb dX8_form_18 (by decide) ?_
    exact ha_2 _ _ hf _ _ _ hC (lv_sub hl [1, 0] rfl)

set_option maxHeartbeats 8000000 in
set_option maxRecDepth 100000 in
theorem r_X7_isName {D : va_G} {y : Nat → ClassId} {o : Nat → Nat} {ad av : Nat → Nat} {x1 : Int32} {σ : Sto} {v : Int32} (hf : f_X7_isName x1 σ = some v) (l : Launch) (sz : Nat) : Met l yX7_isName (Cond.code yX7_isName cX7_isName 2 (some .boolean) :: ALW) { frames := 0, cells := 0, slots := 0, locals := 0 } (va_Pc [.ref (o 42), .int x1] (PZ D y ad av (WX y o σ) sz)) (QZi D (WX y o σ) v (WX y o σ) sz) 0 0 (va_A (WX y o σ) sz) := by
  refine met_i (by decide) (Nat.le_of_ble_eq_true rfl) ?_
  intro p e R s m args below meth c Q A ls hx hb hml hta hown hRc hRs hRf hRl hN hK hV hA hret hC hl
  have hl : lv_has ls 2 [(0, .ref (o 42)), (1, .int x1)] := hl
  unfold f_X7_isName at hf
  refine lv_aload_n hx hb dX7_isName_0 rfl (lv_at hl 0 rfl) ?_
  refine gt_X7_9_pool hx hb hta hown hK hC dX7_isName_1 ?_
  refine lv_iload_n hx hb dX7_isName_4 rfl (lv_at hl 1 rfl) ?_
  obtain ⟨hi_1, hf⟩ := ix_inv hf
  obtain ⟨v_1, e_1, hf⟩ := lt_inv hf
  refine al_X_43 hx hb hK hC hi_1 e_1 dX7_isName_5 ?_
  refine lv_bipush (v := 108) hx hb dX7_isName_6 (by decide) ?_
  obtain ⟨k_33, hk_33, hf⟩ := jn_inv0 hf
  have hj_33 : ∀  (H : Heap) (locs : List Loc) (ls : Array Slot), k_33 = some v → CZ D A s H locs (WX y o σ) → lv_has ls 2 [] → W p l e R s m args below meth c H locs 0 0 Q (F0 m 33 ls []) := by
    intro H locs ls hf hC hl
    have hf := hk_33 hf
    refine lv_iconst (v := 1) hx hb dX7_isName_33 (by decide) ?_
    refine lv_goto (tgt := 38) hx hb dX7_isName_34 (by decide) ?_
    exact hret _ _ _ _ _ _ (Option.some.inj hf) rfl rfl dX7_isName_38 hC
  refine lv_icmp_eq (tgt := 33) hx hb dX7_isName_8 (by decide) (fun c_3 => ?_) (fun c_3 => ?_)
  · have hf := it_t c_3 hf
    exact hj_33 _ _ _ hf hC (lv_sub hl [] rfl)
  · have hf := it_f c_3 hf
    refine lv_aload_n hx hb dX7_isName_11 rfl (lv_at hl 0 rfl) ?_
    refine gt_X7_9_pool hx hb hta hown hK hC dX7_isName_12 ?_
    refine lv_iload_n hx hb dX7_isName_15 rfl (lv_at hl 1 rfl) ?_
    obtain ⟨hi_4, hf⟩ := ix_inv hf
    obtain ⟨v_4, e_4, hf⟩ := lt_inv hf
    refine al_X_43 hx hb hK hC hi_4 e_4 dX7_isName_16 ?_
    refine lv_bipush (v := 84) hx hb dX7_isName_17 (by decide) ?_
    refine lv_icmp_eq (tgt := 33) hx hb dX7_isName_19 (by decide) (fun c_5 => ?_) (fun c_5 => ?_)
    · have hf := it_t c_5 hf
      exact hj_33 _ _ _ hf hC (lv_sub hl [] rfl)
    · have hf := it_f c_5 hf
      refine lv_aload_n hx hb dX7_isName_22 rfl (lv_at hl 0 rfl) ?_
      refine gt_X7_9_pool hx hb hta hown hK hC dX7_isName_23 ?_
      refine lv_iload_n hx hb dX7_isName_26 rfl (lv_at hl 1 rfl) ?_
      obtain ⟨hi_6, hf⟩ := ix_inv hf
      obtain ⟨v_6, e_6, hf⟩ := lt_inv hf
      refine al_X_43 hx hb hK hC hi_6 e_6 dX7_isName_27 ?_
      refine lv_bipush (v := 88) hx hb dX7_isName_28 (by decide) ?_
      refine lv_icmp_ne (tgt := 37) hx hb dX7_isName_30 (by decide) (fun c_7 => ?_) (fun c_7 => ?_)
      · have hf := it_f c_7 hf
        refine lv_iconst (v := 0) hx hb dX7_isName_37 (by decide) ?_
        exact hret _ _ _ _ _ _ (Option.some.inj hf) rfl rfl dX7_isName_38 hC
      · have hf := it_t c_7 hf
        exact hj_33 _ _ _ hf hC (lv_sub hl [] rfl)

set_option maxHeartbeats 8000000 in
set_option maxRecDepth 100000 in
theorem r_X11_isUnary {D : va_G} {y : Nat → ClassId} {ad av : Nat → Nat} {w : va_W} {x1 : Int32} {v : Int32} (hf : f_X11_isUnary x1 = some v) (l : Launch) (sz : Nat) : Met l yX11_isUnary (Cond.code yX11_isUnary cX11_isUnary 1 (some .boolean) :: ALW) { frames := 0, cells := 0, slots := 0, locals := 0 } (va_Pc [.int x1] (PZ D y ad av (w) sz)) (QZi D (w) v (w) sz) 0 0 (va_A (w) sz) := by
  refine met_i (by decide) (Nat.le_of_ble_eq_true rfl) ?_
  intro p e R s m args below meth c Q A ls hx hb hml hta hown hRc hRs hRf hRl hN hK hV hA hret hC hl
  have hl : lv_has ls 1 [(0, .int x1)] := hl
  unfold f_X11_isUnary at hf
  refine lv_iload_n hx hb dX11_isUnary_0 rfl (lv_at hl 0 rfl) ?_
  refine lv_bipush (v := 33) hx hb dX11_isUnary_1 (by decide) ?_
  obtain ⟨k_12, hk_12, hf⟩ := jn_inv0 hf
  have hj_12 : ∀  (H : Heap) (locs : List Loc) (ls : Array Slot), k_12 = some v → CZ D A s H locs w → lv_has ls 1 [] → W p l e R s m args below meth c H locs 0 0 Q (F0 m 12 ls []) := by
    intro H locs ls hf hC hl
    have hf := hk_12 hf
    refine lv_iconst (v := 1) hx hb dX11_isUnary_12 (by decide) ?_
    refine lv_goto (tgt := 17) hx hb dX11_isUnary_13 (by decide) ?_
    exact hret _ _ _ _ _ _ (Option.some.inj hf) rfl rfl dX11_isUnary_17 hC
  refine lv_icmp_eq (tgt := 12) hx hb dX11_isUnary_3 (by decide) (fun c_2 => ?_) (fun c_2 => ?_)
  · have hf := it_t c_2 hf
    exact hj_12 _ _ _ hf hC (lv_sub hl [] rfl)
  · have hf := it_f c_2 hf
    refine lv_iload_n hx hb dX11_isUnary_6 rfl (lv_at hl 0 rfl) ?_
    refine lv_bipush (v := 110) hx hb dX11_isUnary_7 (by decide) ?_
    refine lv_icmp_ne (tgt := 16) hx hb dX11_isUnary_9 (by decide) (fun c_3 => ?_) (fun c_3 => ?_)
    · have hf := it_f c_3 hf
      refine lv_iconst (v := 0) hx hb dX11_isUnary_16 (by decide) ?_
      exact hret _ _ _ _ _ _ (Option.some.inj hf) rfl rfl dX11_isUnary_17 hC
    · have hf := it_t c_3 hf
      exact hj_12 _ _ _ hf hC (lv_sub hl [] rfl)

set_option maxHeartbeats 8000000 in
set_option maxRecDepth 100000 in
theorem r_X1_tellWithin {D : va_G} {y : Nat → ClassId} {o : Nat → Nat} {ad av : Nat → Nat} {x1 : Int32} {σ : Sto} {σ2 : Sto} (hf : f_X1_tellWithin x1 σ = some σ2) (l : Launch) (sz : Nat) : Met l yX1_tellWithin (Cond.code yX1_tellWithin cX1_tellWithin 3 none :: ALW) { frames := 1, cells := 0, slots := 0, locals := 20 } (va_Pc [.ref (o 48), .int x1] (PZ D y ad av (WX y o σ) sz)) (QZv D (WX y o σ) (WX y o σ2) sz) 0 0 (va_A (WX y o σ) sz) := by
  refine met_v (by decide) (Nat.le_of_ble_eq_true rfl) ?_
  intro p e R s m args below meth c Q A ls hx hb hml hta hown hRc hRs hRf hRl hN hK hV hA hret hC hl
  have hl : lv_has ls 3 [(0, .ref (o 48)), (1, .int x1)] := hl
  unfold f_X1_tellWithin at hf
  refine lv_aload_n hx hb dX1_tellWithin_0 rfl (lv_at hl 0 rfl) ?_
  refine gt_X1_42_lifted hx hb hta hown hK hC dX1_tellWithin_1 ?_
  refine gt_X1_141_pool hx hb hta hown hK hC dX1_tellWithin_4 ?_
  refine lv_iload_n hx hb dX1_tellWithin_7 rfl (lv_at hl 1 rfl) ?_
  obtain ⟨hi_1, hf⟩ := ix_inv hf
  obtain ⟨v_1, e_1, hf⟩ := lt_inv hf
  refine al_X_43 hx hb hK hC hi_1 e_1 dX1_tellWithin_8 ?_
  obtain ⟨v_2, hc_2, hf⟩ := calp_inv hf
  refine cc_SiN (r_X11_isBinary (D := D) (y := y) (w := WX y o σ) (ad := ad) (av := av) hc_2 l) hx hb hml hta hown hK hN hV hA hC hRc hRs (by omega) (by omega) (nw_X1_122 hN) wq_67 wq_38 wq_65 hd_X11_isBinary (As := [.int v_1]) (rest := []) rfl rfl hl.1 rfl dX1_tellWithin_9 (fun H locs hC => ?_)
  refine lv_istore_n (lv' := [(2, .int v_2), (0, .ref (o 48)), (1, .int x1)]) hx hb dX1_tellWithin_12 rfl hl (by decide) rfl (fun ls hl => ?_)
  refine lv_iload_n hx hb dX1_tellWithin_13 rfl (lv_at hl 0 rfl) ?_
  obtain ⟨k_47, hk_47, hf⟩ := jn_inv1 hf
  have hj_47 : ∀ (s_3 : Sto) (H : Heap) (locs : List Loc) (ls : Array Slot), k_47 s_3 = some σ2 → CZ D A s H locs (WX y o s_3) → lv_has ls 3 [(0, .ref (o 48)), (1, .int x1), (2, .int v_2)] → W p l e R s m args below meth c H locs 0 0 Q (F0 m 47 ls []) := by
    intro s_3 H locs ls hf hC hl
    have hf := hk_47 _ hf
    refine lv_iload_n hx hb dX1_tellWithin_47 rfl (lv_at hl 2 rfl) ?_
    refine lv_if_eq (tgt := 66) hx hb dX1_tellWithin_48 (by decide) (fun c_4 => ?_) (fun c_4 => ?_)
    · have hf := it_t c_4 hf
      exact hret _ _ _ _ _ (congrArg (WX y o) (Option.some.inj hf)) dX1_tellWithin_66 hC
    · have hf := it_f c_4 hf
      refine lv_aload_n hx hb dX1_tellWithin_51 rfl (lv_at hl 0 rfl) ?_
      refine gt_X1_30_lifted hx hb hta hown hK hC dX1_tellWithin_52 ?_
      refine lv_aload_n hx hb dX1_tellWithin_55 rfl (lv_at hl 0 rfl) ?_
      refine gt_X1_42_lifted hx hb hta hown hK hC dX1_tellWithin_56 ?_
      refine gt_X1_171_pool hx hb hta hown hK hC dX1_tellWithin_59 ?_
      refine lv_iload_n hx hb dX1_tellWithin_62 rfl (lv_at hl 1 rfl) ?_
      obtain ⟨hi_5, hf⟩ := ix_inv hf
      obtain ⟨v_5, e_5, hf⟩ := lt_inv hf
      refine al_X_45 hx hb hK hC hi_5 e_5 dX1_tellWithin_63 ?_
      refine lv_iconst (v := 1) hx hb dX1_tellWithin_64 (by decide) ?_
      obtain ⟨hi_6, hf⟩ := ix_inv hf
      obtain ⟨s_6, e_6, hf⟩ := lt_inv hf
      refine as_X_55 hx hb hK hC hi_6 (Or.inr rfl) e_6 dX1_tellWithin_65 (fun H locs hC => ?_)
      exact hret _ _ _ _ _ (congrArg (WX y o) (Option.some.inj hf)) dX1_tellWithin_66 hC
  obtain ⟨k_32, hk_32, hf⟩ := jn_inv0 hf
  have hj_32 : ∀  (H : Heap) (locs : List Loc) (ls : Array Slot), k_32 = some σ2 → CZ D A s H locs (WX y o σ) → lv_has ls 3 [(0, .ref (o 48)), (1, .int x1), (2, .int v_2)] → W p l e R s m args below meth c H locs 0 0 Q (F0 m 32 ls []) := by
    intro H locs ls hf hC hl
    have hf := hk_32 hf
    refine lv_aload_n hx hb dX1_tellWithin_32 rfl (lv_at hl 0 rfl) ?_
    refine gt_X1_30_lifted hx hb hta hown hK hC dX1_tellWithin_33 ?_
    refine lv_aload_n hx hb dX1_tellWithin_36 rfl (lv_at hl 0 rfl) ?_
    refine gt_X1_42_lifted hx hb hta hown hK hC dX1_tellWithin_37 ?_
    refine gt_X1_168_pool hx hb hta hown hK hC dX1_tellWithin_40 ?_
    refine lv_iload_n hx hb dX1_tellWithin_43 rfl (lv_at hl 1 rfl) ?_
    obtain ⟨hi_8, hf⟩ := ix_inv hf
    obtain ⟨v_8, e_8, hf⟩ := lt_inv hf
    refine al_X_44 hx hb hK hC hi_8 e_8 dX1_tellWithin_44 ?_
    refine lv_iconst (v := 1) hx hb dX1_tellWithin_45 (by decide) ?_
    obtain ⟨hi_9, hf⟩ := ix_inv hf
    obtain ⟨s_9, e_9, hf⟩ := lt_inv hf
    refine as_X_55 hx hb hK hC hi_9 (Or.inr rfl) e_9 dX1_tellWithin_46 (fun H locs hC => ?_)
    exact hj_47 _ _ _ _ hf hC hl
  refine lv_if_ne (tgt := 32) hx hb dX1_tellWithin_14 (by decide) (fun c_10 => ?_) (fun c_10 => ?_)
  · have hf := it_f c_10 hf
    exact hj_32 _ _ _ hf hC (lv_sub hl [1, 2, 0] rfl)
  · have hf := it_t c_10 hf
    refine lv_aload_n hx hb dX1_tellWithin_17 rfl (lv_at hl 1 rfl) ?_
    refine gt_X1_42_lifted hx hb hta hown hK hC dX1_tellWithin_18 ?_
    refine gt_X1_141_pool hx hb hta hown hK hC dX1_tellWithin_21 ?_
    refine lv_iload_n hx hb dX1_tellWithin_24 rfl (lv_at hl 2 rfl) ?_
    obtain ⟨hi_11, hf⟩ := ix_inv hf
    obtain ⟨v_11, e_11, hf⟩ := lt_inv hf
    refine al_X_43 hx hb hK hC hi_11 e_11 dX1_tellWithin_25 ?_
    obtain ⟨v_12, hc_12, hf⟩ := calp_inv hf
    refine cc_SiN (r_X11_isUnary (D := D) (y := y) (w := WX y o σ) (ad := ad) (av := av) hc_12 l) hx hb hml hta hown hK hN hV hA hC hRc hRs (by omega) (by omega) (nw_X1_165 hN) wq_187 wq_38 wq_180 hd_X11_isUnary (As := [.int v_11]) (rest := []) rfl rfl hl.1 rfl dX1_tellWithin_26 (fun H locs hC => ?_)
    refine lv_if_eq (tgt := 47) hx hb dX1_tellWithin_29 (by decide) (fun c_13 => ?_) (fun c_13 => ?_)
    · have hf := it_t c_13 hf
      exact hj_47 _ _ _ _ hf hC (lv_sub hl [1, 2, 0] rfl)
    · have hf := it_f c_13 hf
      exact hj_32 _ _ _ hf hC (lv_sub hl [1, 2, 0] rfl)

set_option maxHeartbeats 8000000 in
set_option maxRecDepth 100000 in
theorem r_X1_countUnlike {D : va_G} {y : Nat → ClassId} {o : Nat → Nat} {ad av : Nat → Nat} {σ : Sto} {σ2 : Sto} (hf : f_X1_countUnlike σ = some σ2) (l : Launch) (sz : Nat) : Met l yX1_countUnlike (Cond.code yX1_countUnlike cX1_countUnlike 2 none :: ALW) { frames := 2, cells := 0, slots := 0, locals := 42 } (va_Pc [.ref (o 48)] (PZ D y ad av (WX y o σ) sz)) (QZv D (WX y o σ) (WX y o σ2) sz) 0 0 (va_A (WX y o σ) sz) := by
  refine met_v (by decide) (Nat.le_of_ble_eq_true rfl) ?_
  intro p e R s m args below meth c Q A ls hx hb hml hta hown hRc hRs hRf hRl hN hK hV hA hret hC hl
  have hl : lv_has ls 2 [(0, .ref (o 48))] := hl
  unfold f_X1_countUnlike at hf
  refine lv_iconst (v := 0) hx hb dX1_countUnlike_0 (by decide) ?_
  refine lv_istore_n (lv' := [(1, .int 0), (0, .ref (o 48))]) hx hb dX1_countUnlike_1 rfl hl (by decide) rfl (fun ls hl => ?_)
  refine itr_inv2 (P := fun (x1_1 : Int32) (s_1 : Sto) => ∀ (H : Heap) (locs : List Loc) (ls : Array Slot), CZ D A s H locs (WX y o s_1) → lv_has ls 2 [(0, .ref (o 48)), (1, .int x1_1)] → W p l e R s m args below meth c H locs 0 0 Q (F0 m 2 ls [])) hf ?_ _ _ _ hC (lv_sub hl [1, 0] rfl)
  intro a_2 x1_1 s_1 ha_2 hf H locs ls hC hl
  refine lv_iload_n hx hb dX1_countUnlike_2 rfl (lv_at hl 1 rfl) ?_
  refine lv_aload_n hx hb dX1_countUnlike_3 rfl (lv_at hl 0 rfl) ?_
  refine gt_X1_42_lifted hx hb hta hown hK hC dX1_countUnlike_4 ?_
  refine gt_X1_53_pool hx hb hta hown hK hC dX1_countUnlike_7 ?_
  refine lv_icmp_ge (tgt := 26) hx hb dX1_countUnlike_10 (by decide) (fun c_2 => ?_) (fun c_2 => ?_)
  · have hf := it_t c_2 hf
    refine lv_iconst (v := 0) hx hb dX1_countUnlike_26 (by decide) ?_
    refine lv_istore_n (lv' := [(1, .int 0), (0, .ref (o 48))]) hx hb dX1_countUnlike_27 rfl hl (by decide) rfl (fun ls hl => ?_)
    refine itr_inv2 (P := fun (x1_3 : Int32) (s_3 : Sto) => ∀ (H : Heap) (locs : List Loc) (ls : Array Slot), CZ D A s H locs (WX y o s_3) → lv_has ls 2 [(0, .ref (o 48)), (1, .int x1_3)] → W p l e R s m args below meth c H locs 0 0 Q (F0 m 28 ls [])) hf ?_ _ _ _ hC (lv_sub hl [1, 0] rfl)
    intro a_28 x1_3 s_3 ha_28 hf H locs ls hC hl
    refine lv_iload_n hx hb dX1_countUnlike_28 rfl (lv_at hl 1 rfl) ?_
    refine lv_aload_n hx hb dX1_countUnlike_29 rfl (lv_at hl 0 rfl) ?_
    refine gt_X1_46_lifted hx hb hta hown hK hC dX1_countUnlike_30 ?_
    refine lv_icmp_ge (tgt := 64) hx hb dX1_countUnlike_33 (by decide) (fun c_4 => ?_) (fun c_4 => ?_)
    · have hf := it_t c_4 hf
      refine lv_iconst (v := 0) hx hb dX1_countUnlike_64 (by decide) ?_
      refine lv_istore_n (lv' := [(1, .int 0), (0, .ref (o 48))]) hx hb dX1_countUnlike_65 rfl hl (by decide) rfl (fun ls hl => ?_)
      refine itr_inv2 (P := fun (x1_5 : Int32) (s_5 : Sto) => ∀ (H : Heap) (locs : List Loc) (ls : Array Slot), CZ D A s H locs (WX y o s_5) → lv_has ls 2 [(0, .ref (o 48)), (1, .int x1_5)] → W p l e R s m args below meth c H locs 0 0 Q (F0 m 66 ls [])) hf ?_ _ _ _ hC (lv_sub hl [1, 0] rfl)
      intro a_66 x1_5 s_5 ha_66 hf H locs ls hC hl
      refine lv_iload_n hx hb dX1_countUnlike_66 rfl (lv_at hl 1 rfl) ?_
      refine lv_aload_n hx hb dX1_countUnlike_67 rfl (lv_at hl 0 rfl) ?_
      refine gt_X1_38_lifted hx hb hta hown hK hC dX1_countUnlike_68 ?_
      refine gt_X1_56_blocks hx hb hta hown hK hC dX1_countUnlike_71 ?_
      refine lv_icmp_ge (tgt := 105) hx hb dX1_countUnlike_74 (by decide) (fun c_6 => ?_) (fun c_6 => ?_)
      · have hf := it_t c_6 hf
        refine lv_aload_n hx hb dX1_countUnlike_105 rfl (lv_at hl 0 rfl) ?_
        refine lv_iconst (v := 0) hx hb dX1_countUnlike_106 (by decide) ?_
        obtain ⟨s_7, e_7, hf⟩ := lt_inv hf
        refine pt_X1_159_lifted hx hb hta hown hK hC e_7 dX1_countUnlike_107 (fun H locs hC => ?_)
        refine lv_aload_n hx hb dX1_countUnlike_110 rfl (lv_at hl 0 rfl) ?_
        refine gt_X1_42_lifted hx hb hta hown hK hC dX1_countUnlike_111 ?_
        refine gt_X1_53_pool hx hb hta hown hK hC dX1_countUnlike_114 ?_
        refine lv_iconst (v := 1) hx hb dX1_countUnlike_117 (by decide) ?_
        refine lv_isub hx hb dX1_countUnlike_118 ?_
        obtain ⟨x1_8, e_8, hf⟩ := lt_inv hf
        refine nmi e_8 ?_
        refine lv_istore_n (lv' := [(1, .int x1_8), (0, .ref (o 48))]) hx hb dX1_countUnlike_119 rfl hl (by decide) rfl (fun ls hl => ?_)
        refine itr_inv2 (P := fun (x1_9 : Int32) (s_9 : Sto) => ∀ (H : Heap) (locs : List Loc) (ls : Array Slot), CZ D A s H locs (WX y o s_9) → lv_has ls 2 [(0, .ref (o 48)), (1, .int x1_9)] → W p l e R s m args below meth c H locs 0 0 Q (F0 m 120 ls [])) hf ?_ _ _ _ hC (lv_sub hl [1, 0] rfl)
        intro a_120 x1_9 s_9 ha_120 hf H locs ls hC hl
        refine lv_iload_n hx hb dX1_countUnlike_120 rfl (lv_at hl 1 rfl) ?_
        refine lv_if_lt (tgt := 165) hx hb dX1_countUnlike_121 (by decide) (fun c_10 => ?_) (fun c_10 => ?_)
        · have hf := it_t c_10 hf
          exact hret _ _ _ _ _ (congrArg (WX y o) (Option.some.inj hf)) dX1_countUnlike_165 hC
        · have hf := it_f c_10 hf
          refine lv_aload_n hx hb dX1_countUnlike_124 rfl (lv_at hl 0 rfl) ?_
          refine gt_X1_30_lifted hx hb hta hown hK hC dX1_countUnlike_125 ?_
          refine lv_iload_n hx hb dX1_countUnlike_128 rfl (lv_at hl 1 rfl) ?_
          obtain ⟨hi_11, hf⟩ := ix_inv hf
          obtain ⟨v_11, e_11, hf⟩ := lt_inv hf
          refine al_X_55 hx hb hK hC hi_11 e_11 dX1_countUnlike_129 ?_
          obtain ⟨k_159, hk_159, hf⟩ := jn_inv1 hf
          have hj_159 : ∀ (s_12 : Sto) (H : Heap) (locs : List Loc) (ls : Array Slot), k_159 s_12 = some σ2 → CZ D A s H locs (WX y o s_12) → lv_has ls 2 [(0, .ref (o 48)), (1, .int x1_9)] → W p l e R s m args below meth c H locs 0 0 Q (F0 m 159 ls []) := by
            intro s_12 H locs ls hf hC hl
            have hf := hk_159 _ hf
            obtain ⟨x1_13, e_13, hf⟩ := lt_inv hf
            refine lv_iinc (v := x1_13) (lv' := [(1, .int x1_13), (0, .ref (o 48))]) hx hb dX1_countUnlike_159 hl (k := 1) rfl e_13.symm (by decide) rfl (fun ls hl => ?_)
            refine lv_goto (tgt := 120) hx hb dX1_countUnlike_162 (by decide) ?_
            exact ha_120 _ _ hf _ _ _ hC (lv_sub hl [1, 0] rfl)
          refine lv_if_eq (tgt := 159) hx hb dX1_countUnlike_130 (by decide) (fun c_14 => ?_) (fun c_14 => ?_)
          · have hf := it_t c_14 hf
            exact hj_159 _ _ _ _ hf hC hl
          · have hf := it_f c_14 hf
            refine lv_aload_n hx hb dX1_countUnlike_133 rfl (lv_at hl 0 rfl) ?_
            refine gt_X1_42_lifted hx hb hta hown hK hC dX1_countUnlike_134 ?_
            refine lv_iload_n hx hb dX1_countUnlike_137 rfl (lv_at hl 1 rfl) ?_
            obtain ⟨v_15, hc_15, hf⟩ := calp_inv hf
            refine cc_Vi (r_X7_isName (D := D) (y := y) (o := o) (ad := ad) (av := av) hc_15 l) hx hb hml hta hown hK hN hV hA hC hRc hRs (by omega) (by omega) wq_144 (q := 42) (ci := 7) rfl rfl wq_145 wq_146 wq_124 wq_139 hd_X7_isName (As := [.int x1_9]) (rest := []) rfl rfl hl.1 rfl dX1_countUnlike_138 (fun H locs hC => ?_)
            refine lv_if_ne (tgt := 159) hx hb dX1_countUnlike_141 (by decide) (fun c_16 => ?_) (fun c_16 => ?_)
            · have hf := it_f c_16 hf
              exact hj_159 _ _ _ _ hf hC hl
            · have hf := it_t c_16 hf
              refine lv_aload_n hx hb dX1_countUnlike_144 rfl (lv_at hl 0 rfl) ?_
              refine lv_dup hx hb dX1_countUnlike_145 rfl ?_
              refine gt_X1_159_lifted hx hb hta hown hK hC dX1_countUnlike_146 ?_
              refine lv_iconst (v := 1) hx hb dX1_countUnlike_149 (by decide) ?_
              refine lv_iadd hx hb dX1_countUnlike_150 ?_
              obtain ⟨s_17, e_17, hf⟩ := lt_inv hf
              refine pt_X1_159_lifted hx hb hta hown hK hC e_17 dX1_countUnlike_151 (fun H locs hC => ?_)
              refine lv_aload_n hx hb dX1_countUnlike_154 rfl (lv_at hl 0 rfl) ?_
              refine lv_iload_n hx hb dX1_countUnlike_155 rfl (lv_at hl 1 rfl) ?_
              obtain ⟨s_18, hc_18, hf⟩ := cals_inv hf
              refine cc_Vv (r_X1_tellWithin (D := D) (y := y) (o := o) (ad := ad) (av := av) hc_18 l) hx hb hml hta hown hK hN hV hA hC hRc hRs (by omega) (by omega) wq_202 (q := 48) (ci := 1) rfl rfl wq_203 wq_204 wq_120 wq_196 hd_X1_tellWithin (As := [.int x1_9]) (rest := []) rfl rfl hl.1 rfl dX1_countUnlike_156 (fun H locs hC => ?_)
              exact hj_159 _ _ _ _ hf hC hl
      · have hf := it_f c_6 hf
        refine lv_aload_n hx hb dX1_countUnlike_77 rfl (lv_at hl 0 rfl) ?_
        refine gt_X1_24_lifted hx hb hta hown hK hC dX1_countUnlike_78 ?_
        refine lv_iload_n hx hb dX1_countUnlike_81 rfl (lv_at hl 1 rfl) ?_
        obtain ⟨hi_19, hf⟩ := ix_inv hf
        obtain ⟨v_19, e_19, hf⟩ := lt_inv hf
        refine al_X_53 hx hb hK hC hi_19 e_19 dX1_countUnlike_82 ?_
        refine lv_iconst (v := (-1)) hx hb dX1_countUnlike_83 (by decide) ?_
        obtain ⟨k_99, hk_99, hf⟩ := jn_inv1 hf
        have hj_99 : ∀ (s_20 : Sto) (H : Heap) (locs : List Loc) (ls : Array Slot), k_99 s_20 = some σ2 → CZ D A s H locs (WX y o s_20) → lv_has ls 2 [(0, .ref (o 48)), (1, .int x1_5)] → W p l e R s m args below meth c H locs 0 0 Q (F0 m 99 ls []) := by
          intro s_20 H locs ls hf hC hl
          have hf := hk_99 _ hf
          obtain ⟨x1_21, e_21, hf⟩ := lt_inv hf
          refine lv_iinc (v := x1_21) (lv' := [(1, .int x1_21), (0, .ref (o 48))]) hx hb dX1_countUnlike_99 hl (k := 1) rfl e_21.symm (by decide) rfl (fun ls hl => ?_)
          refine lv_goto (tgt := 66) hx hb dX1_countUnlike_102 (by decide) ?_
          exact ha_66 _ _ hf _ _ _ hC (lv_sub hl [1, 0] rfl)
        refine lv_icmp_eq (tgt := 99) hx hb dX1_countUnlike_84 (by decide) (fun c_22 => ?_) (fun c_22 => ?_)
        · have hf := it_t c_22 hf
          exact hj_99 _ _ _ _ hf hC hl
        · have hf := it_f c_22 hf
          refine lv_aload_n hx hb dX1_countUnlike_87 rfl (lv_at hl 0 rfl) ?_
          refine gt_X1_30_lifted hx hb hta hown hK hC dX1_countUnlike_88 ?_
          refine lv_aload_n hx hb dX1_countUnlike_91 rfl (lv_at hl 0 rfl) ?_
          refine gt_X1_24_lifted hx hb hta hown hK hC dX1_countUnlike_92 ?_
          refine lv_iload_n hx hb dX1_countUnlike_95 rfl (lv_at hl 1 rfl) ?_
          obtain ⟨hi_23, hf⟩ := ix_inv hf
          obtain ⟨v_23, e_23, hf⟩ := lt_inv hf
          refine al_X_53 hx hb hK hC hi_23 e_23 dX1_countUnlike_96 ?_
          refine lv_iconst (v := 1) hx hb dX1_countUnlike_97 (by decide) ?_
          obtain ⟨hi_24, hf⟩ := ix_inv hf
          obtain ⟨s_24, e_24, hf⟩ := lt_inv hf
          refine as_X_55 hx hb hK hC hi_24 (Or.inr rfl) e_24 dX1_countUnlike_98 (fun H locs hC => ?_)
          exact hj_99 _ _ _ _ hf hC hl
    · have hf := it_f c_4 hf
      refine lv_aload_n hx hb dX1_countUnlike_36 rfl (lv_at hl 0 rfl) ?_
      refine gt_X1_18_lifted hx hb hta hown hK hC dX1_countUnlike_37 ?_
      refine lv_iload_n hx hb dX1_countUnlike_40 rfl (lv_at hl 1 rfl) ?_
      obtain ⟨hi_25, hf⟩ := ix_inv hf
      obtain ⟨v_25, e_25, hf⟩ := lt_inv hf
      refine al_X_51 hx hb hK hC hi_25 e_25 dX1_countUnlike_41 ?_
      refine lv_iconst (v := (-1)) hx hb dX1_countUnlike_42 (by decide) ?_
      obtain ⟨k_58, hk_58, hf⟩ := jn_inv1 hf
      have hj_58 : ∀ (s_26 : Sto) (H : Heap) (locs : List Loc) (ls : Array Slot), k_58 s_26 = some σ2 → CZ D A s H locs (WX y o s_26) → lv_has ls 2 [(0, .ref (o 48)), (1, .int x1_3)] → W p l e R s m args below meth c H locs 0 0 Q (F0 m 58 ls []) := by
        intro s_26 H locs ls hf hC hl
        have hf := hk_58 _ hf
        obtain ⟨x1_27, e_27, hf⟩ := lt_inv hf
        refine lv_iinc (v := x1_27) (lv' := [(1, .int x1_27), (0, .ref (o 48))]) hx hb dX1_countUnlike_58 hl (k := 1) rfl e_27.symm (by decide) rfl (fun ls hl => ?_)
        refine lv_goto (tgt := 28) hx hb dX1_countUnlike_61 (by decide) ?_
        exact ha_28 _ _ hf _ _ _ hC (lv_sub hl [1, 0] rfl)
      refine lv_icmp_eq (tgt := 58) hx hb dX1_countUnlike_43 (by decide) (fun c_28 => ?_) (fun c_28 => ?_)
      · have hf := it_t c_28 hf
        exact hj_58 _ _ _ _ hf hC hl
      · have hf := it_f c_28 hf
        refine lv_aload_n hx hb dX1_countUnlike_46 rfl (lv_at hl 0 rfl) ?_
        refine gt_X1_30_lifted hx hb hta hown hK hC dX1_countUnlike_47 ?_
        refine lv_aload_n hx hb dX1_countUnlike_50 rfl (lv_at hl 0 rfl) ?_
        refine gt_X1_18_lifted hx hb hta hown hK hC dX1_countUnlike_51 ?_
        refine lv_iload_n hx hb dX1_countUnlike_54 rfl (lv_at hl 1 rfl) ?_
        obtain ⟨hi_29, hf⟩ := ix_inv hf
        obtain ⟨v_29, e_29, hf⟩ := lt_inv hf
        refine al_X_51 hx hb hK hC hi_29 e_29 dX1_countUnlike_55 ?_
        refine lv_iconst (v := 1) hx hb dX1_countUnlike_56 (by decide) ?_
        obtain ⟨hi_30, hf⟩ := ix_inv hf
        obtain ⟨s_30, e_30, hf⟩ := lt_inv hf
        refine as_X_55 hx hb hK hC hi_30 (Or.inr rfl) e_30 dX1_countUnlike_57 (fun H locs hC => ?_)
        exact hj_58 _ _ _ _ hf hC hl
  · have hf := it_f c_2 hf
    refine lv_aload_n hx hb dX1_countUnlike_13 rfl (lv_at hl 0 rfl) ?_
    refine gt_X1_30_lifted hx hb hta hown hK hC dX1_countUnlike_14 ?_
    refine lv_iload_n hx hb dX1_countUnlike_17 rfl (lv_at hl 1 rfl) ?_
    refine lv_iconst (v := 0) hx hb dX1_countUnlike_18 (by decide) ?_
    obtain ⟨hi_31, hf⟩ := ix_inv hf
    obtain ⟨s_31, e_31, hf⟩ := lt_inv hf
    refine as_X_55 hx hb hK hC hi_31 (Or.inl rfl) e_31 dX1_countUnlike_19 (fun H locs hC => ?_)
    obtain ⟨x1_32, e_32, hf⟩ := lt_inv hf
    refine lv_iinc (v := x1_32) (lv' := [(1, .int x1_32), (0, .ref (o 48))]) hx hb dX1_countUnlike_20 hl (k := 1) rfl e_32.symm (by decide) rfl (fun ls hl => ?_)
    refine lv_goto (tgt := 2) hx hb dX1_countUnlike_23 (by decide) ?_
    exact ha_2 _ _ hf _ _ _ hC (lv_sub hl [1, 0] rfl)

set_option maxHeartbeats 8000000 in
set_option maxRecDepth 100000 in
theorem r_X7_hasEffects {D : va_G} {y : Nat → ClassId} {o : Nat → Nat} {ad av : Nat → Nat} {x1 : Int32} {σ : Sto} {v : Int32} (hf : f_X7_hasEffects x1 σ = some v) (l : Launch) (sz : Nat) : Met l yX7_hasEffects (Cond.code yX7_hasEffects cX7_hasEffects 2 (some .boolean) :: ALW) { frames := 0, cells := 0, slots := 0, locals := 0 } (va_Pc [.ref (o 42), .int x1] (PZ D y ad av (WX y o σ) sz)) (QZi D (WX y o σ) v (WX y o σ) sz) 0 0 (va_A (WX y o σ) sz) := by
  refine met_i (by decide) (Nat.le_of_ble_eq_true rfl) ?_
  intro p e R s m args below meth c Q A ls hx hb hml hta hown hRc hRs hRf hRl hN hK hV hA hret hC hl
  have hl : lv_has ls 2 [(0, .ref (o 42)), (1, .int x1)] := hl
  unfold f_X7_hasEffects at hf
  refine lv_aload_n hx hb dX7_hasEffects_0 rfl (lv_at hl 0 rfl) ?_
  refine gt_X7_24_pool hx hb hta hown hK hC dX7_hasEffects_1 ?_
  refine lv_iload_n hx hb dX7_hasEffects_4 rfl (lv_at hl 1 rfl) ?_
  obtain ⟨hi_1, hf⟩ := ix_inv hf
  obtain ⟨v_1, e_1, hf⟩ := lt_inv hf
  refine al_X_47 hx hb hK hC hi_1 e_1 dX7_hasEffects_5 ?_
  refine lv_sipush (v := 4096) hx hb dX7_hasEffects_6 (by decide) ?_
  refine lv_iand hx hb dX7_hasEffects_9 ?_
  refine lv_if_eq (tgt := 17) hx hb dX7_hasEffects_10 (by decide) (fun c_2 => ?_) (fun c_2 => ?_)
  · have hf := it_t c_2 hf
    refine lv_iconst (v := 0) hx hb dX7_hasEffects_17 (by decide) ?_
    exact hret _ _ _ _ _ _ (Option.some.inj hf) rfl rfl dX7_hasEffects_18 hC
  · have hf := it_f c_2 hf
    refine lv_iconst (v := 1) hx hb dX7_hasEffects_13 (by decide) ?_
    refine lv_goto (tgt := 18) hx hb dX7_hasEffects_14 (by decide) ?_
    exact hret _ _ _ _ _ _ (Option.some.inj hf) rfl rfl dX7_hasEffects_18 hC

set_option maxHeartbeats 8000000 in
set_option maxRecDepth 100000 in
theorem r_X1_add {D : va_G} {y : Nat → ClassId} {o : Nat → Nat} {ad av : Nat → Nat} {x1 : Int32} {x2 : Int32} {x3 : Int32} {σ : Sto} {σ2 : Sto} (hf : f_X1_add x1 x2 x3 σ = some σ2) (l : Launch) (sz : Nat) : Met l yX1_add (Cond.code yX1_add cX1_add 4 none :: ALW) { frames := 0, cells := 0, slots := 0, locals := 0 } (va_Pc [.ref (o 48), .int x1, .int x2, .int x3] (PZ D y ad av (WX y o σ) sz)) (QZv D (WX y o σ) (WX y o σ2) sz) 0 0 (va_A (WX y o σ) sz) := by
  refine met_v (by decide) (Nat.le_of_ble_eq_true rfl) ?_
  intro p e R s m args below meth c Q A ls hx hb hml hta hown hRc hRs hRf hRl hN hK hV hA hret hC hl
  have hl : lv_has ls 4 [(0, .ref (o 48)), (1, .int x1), (2, .int x2), (3, .int x3)] := hl
  unfold f_X1_add at hf
  refine lv_aload_n hx hb dX1_add_0 rfl (lv_at hl 0 rfl) ?_
  refine gt_X1_46_lifted hx hb hta hown hK hC dX1_add_1 ?_
  refine lv_sipush (v := 320) hx hb dX1_add_4 (by decide) ?_
  refine lv_icmp_ge (tgt := 50) hx hb dX1_add_7 (by decide) (fun c_1 => ?_) (fun c_1 => ?_)
  · have hf := it_t c_1 hf
    exact hret _ _ _ _ _ (congrArg (WX y o) (Option.some.inj hf)) dX1_add_50 hC
  · have hf := it_f c_1 hf
    refine lv_aload_n hx hb dX1_add_10 rfl (lv_at hl 0 rfl) ?_
    refine gt_X1_9_lifted hx hb hta hown hK hC dX1_add_11 ?_
    refine lv_aload_n hx hb dX1_add_14 rfl (lv_at hl 0 rfl) ?_
    refine gt_X1_46_lifted hx hb hta hown hK hC dX1_add_15 ?_
    refine lv_iload_n hx hb dX1_add_18 rfl (lv_at hl 1 rfl) ?_
    obtain ⟨hi_2, hf⟩ := ix_inv hf
    obtain ⟨s_2, e_2, hf⟩ := lt_inv hf
    refine as_X_49 hx hb hK hC hi_2 e_2 dX1_add_19 (fun H locs hC => ?_)
    refine lv_aload_n hx hb dX1_add_20 rfl (lv_at hl 0 rfl) ?_
    refine gt_X1_15_lifted hx hb hta hown hK hC dX1_add_21 ?_
    refine lv_aload_n hx hb dX1_add_24 rfl (lv_at hl 0 rfl) ?_
    refine gt_X1_46_lifted hx hb hta hown hK hC dX1_add_25 ?_
    refine lv_iload_n hx hb dX1_add_28 rfl (lv_at hl 2 rfl) ?_
    obtain ⟨hi_3, hf⟩ := ix_inv hf
    obtain ⟨s_3, e_3, hf⟩ := lt_inv hf
    refine as_X_50 hx hb hK hC hi_3 e_3 dX1_add_29 (fun H locs hC => ?_)
    refine lv_aload_n hx hb dX1_add_30 rfl (lv_at hl 0 rfl) ?_
    refine gt_X1_18_lifted hx hb hta hown hK hC dX1_add_31 ?_
    refine lv_aload_n hx hb dX1_add_34 rfl (lv_at hl 0 rfl) ?_
    refine gt_X1_46_lifted hx hb hta hown hK hC dX1_add_35 ?_
    refine lv_iload_n hx hb dX1_add_38 rfl (lv_at hl 3 rfl) ?_
    obtain ⟨hi_4, hf⟩ := ix_inv hf
    obtain ⟨s_4, e_4, hf⟩ := lt_inv hf
    refine as_X_51 hx hb hK hC hi_4 e_4 dX1_add_39 (fun H locs hC => ?_)
    refine lv_aload_n hx hb dX1_add_40 rfl (lv_at hl 0 rfl) ?_
    refine lv_dup hx hb dX1_add_41 rfl ?_
    refine gt_X1_46_lifted hx hb hta hown hK hC dX1_add_42 ?_
    refine lv_iconst (v := 1) hx hb dX1_add_45 (by decide) ?_
    refine lv_iadd hx hb dX1_add_46 ?_
    obtain ⟨s_5, e_5, hf⟩ := lt_inv hf
    refine pt_X1_46_lifted hx hb hta hown hK hC e_5 dX1_add_47 (fun H locs hC => ?_)
    exact hret _ _ _ _ _ (congrArg (WX y o) (Option.some.inj hf)) dX1_add_50 hC

set_option maxHeartbeats 8000000 in
set_option maxRecDepth 100000 in
theorem r_X7_make {D : va_G} {y : Nat → ClassId} {o : Nat → Nat} {ad av : Nat → Nat} {x1 : Int32} {x2 : Int32} {x3 : Int32} {σ : Sto} {σ2 : Sto} {v : Int32} (hf : f_X7_make x1 x2 x3 σ = some (v, σ2)) (l : Launch) (sz : Nat) : Met l yX7_make (Cond.code yX7_make cX7_make 5 (some .int) :: ALW) { frames := 0, cells := 0, slots := 0, locals := 0 } (va_Pc [.ref (o 42), .int x1, .int x2, .int x3] (PZ D y ad av (WX y o σ) sz)) (QZi D (WX y o σ) v (WX y o σ2) sz) 0 0 (va_A (WX y o σ) sz) := by
  refine met_i (by decide) (Nat.le_of_ble_eq_true rfl) ?_
  intro p e R s m args below meth c Q A ls hx hb hml hta hown hRc hRs hRf hRl hN hK hV hA hret hC hl
  have hl : lv_has ls 5 [(0, .ref (o 42)), (1, .int x1), (2, .int x2), (3, .int x3)] := hl
  unfold f_X7_make at hf
  refine lv_iconst (v := 0) hx hb dX7_make_0 (by decide) ?_
  refine lv_istore (lv' := [(4, .int 0), (0, .ref (o 42)), (1, .int x1), (2, .int x2), (3, .int x3)]) hx hb dX7_make_1 hl (by decide) rfl (fun ls hl => ?_)
  refine itr_inv1 (P := fun (x4_1 : Int32) => ∀ (H : Heap) (locs : List Loc) (ls : Array Slot), CZ D A s H locs (WX y o σ) → lv_has ls 5 [(0, .ref (o 42)), (1, .int x1), (2, .int x2), (3, .int x3), (4, .int x4_1)] → W p l e R s m args below meth c H locs 0 0 Q (F0 m 3 ls [])) hf ?_ _ _ _ hC (lv_sub hl [1, 2, 3, 4, 0] rfl)
  intro a_3 x4_1 ha_3 hf H locs ls hC hl
  refine lv_iload hx hb dX7_make_3 (lv_at hl 4 rfl) ?_
  refine lv_aload_n hx hb dX7_make_5 rfl (lv_at hl 0 rfl) ?_
  refine gt_X7_27_pool hx hb hta hown hK hC dX7_make_6 ?_
  refine lv_icmp_ge (tgt := 54) hx hb dX7_make_9 (by decide) (fun c_2 => ?_) (fun c_2 => ?_)
  · have hf := it_t c_2 hf
    refine lv_aload_n hx hb dX7_make_54 rfl (lv_at hl 0 rfl) ?_
    refine gt_X7_27_pool hx hb hta hown hK hC dX7_make_55 ?_
    refine lv_sipush (v := 512) hx hb dX7_make_58 (by decide) ?_
    refine lv_icmp_ne (tgt := 66) hx hb dX7_make_61 (by decide) (fun c_3 => ?_) (fun c_3 => ?_)
    · have hf := it_f c_3 hf
      refine lv_aload_n hx hb dX7_make_66 rfl (lv_at hl 0 rfl) ?_
      refine gt_X7_9_pool hx hb hta hown hK hC dX7_make_67 ?_
      refine lv_aload_n hx hb dX7_make_70 rfl (lv_at hl 0 rfl) ?_
      refine gt_X7_27_pool hx hb hta hown hK hC dX7_make_71 ?_
      refine lv_iload_n hx hb dX7_make_74 rfl (lv_at hl 1 rfl) ?_
      obtain ⟨hi_4, hf⟩ := ix_inv hf
      obtain ⟨s_4, e_4, hf⟩ := lt_inv hf
      refine as_X_43 hx hb hK hC hi_4 e_4 dX7_make_75 (fun H locs hC => ?_)
      refine lv_aload_n hx hb dX7_make_76 rfl (lv_at hl 0 rfl) ?_
      refine gt_X7_15_pool hx hb hta hown hK hC dX7_make_77 ?_
      refine lv_aload_n hx hb dX7_make_80 rfl (lv_at hl 0 rfl) ?_
      refine gt_X7_27_pool hx hb hta hown hK hC dX7_make_81 ?_
      refine lv_iload_n hx hb dX7_make_84 rfl (lv_at hl 2 rfl) ?_
      obtain ⟨hi_5, hf⟩ := ix_inv hf
      obtain ⟨s_5, e_5, hf⟩ := lt_inv hf
      refine as_X_44 hx hb hK hC hi_5 e_5 dX7_make_85 (fun H locs hC => ?_)
      refine lv_aload_n hx hb dX7_make_86 rfl (lv_at hl 0 rfl) ?_
      refine gt_X7_18_pool hx hb hta hown hK hC dX7_make_87 ?_
      refine lv_aload_n hx hb dX7_make_90 rfl (lv_at hl 0 rfl) ?_
      refine gt_X7_27_pool hx hb hta hown hK hC dX7_make_91 ?_
      refine lv_iload_n hx hb dX7_make_94 rfl (lv_at hl 3 rfl) ?_
      obtain ⟨hi_6, hf⟩ := ix_inv hf
      obtain ⟨s_6, e_6, hf⟩ := lt_inv hf
      refine as_X_45 hx hb hK hC hi_6 e_6 dX7_make_95 (fun H locs hC => ?_)
      refine lv_aload_n hx hb dX7_make_96 rfl (lv_at hl 0 rfl) ?_
      refine gt_X7_21_pool hx hb hta hown hK hC dX7_make_97 ?_
      refine lv_aload_n hx hb dX7_make_100 rfl (lv_at hl 0 rfl) ?_
      refine gt_X7_27_pool hx hb hta hown hK hC dX7_make_101 ?_
      refine lv_iconst (v := 1) hx hb dX7_make_104 (by decide) ?_
      obtain ⟨hi_7, hf⟩ := ix_inv hf
      obtain ⟨s_7, e_7, hf⟩ := lt_inv hf
      refine as_X_46 hx hb hK hC hi_7 e_7 dX7_make_105 (fun H locs hC => ?_)
      refine lv_aload_n hx hb dX7_make_106 rfl (lv_at hl 0 rfl) ?_
      refine gt_X7_24_pool hx hb hta hown hK hC dX7_make_107 ?_
      refine lv_aload_n hx hb dX7_make_110 rfl (lv_at hl 0 rfl) ?_
      refine gt_X7_27_pool hx hb hta hown hK hC dX7_make_111 ?_
      refine lv_iload_n hx hb dX7_make_114 rfl (lv_at hl 1 rfl) ?_
      refine lv_bipush (v := 105) hx hb dX7_make_115 (by decide) ?_
      obtain ⟨k_139, hk_139, hf⟩ := jn_inv1 hf
      have hj_139 : ∀ (t0_8 : Int32) (H : Heap) (locs : List Loc) (ls : Array Slot), k_139 t0_8 = some (v, σ2) → CZ D A s H locs (WX y o s_7) → lv_has ls 5 [(0, .ref (o 42)), (1, .int x1), (2, .int x2), (3, .int x3)] → W p l e R s m args below meth c H locs 0 0 Q (F0 m 139 ls [.int t0_8, .int (s_7.1 46 0), .ref (o 47)]) := by
        intro t0_8 H locs ls hf hC hl
        have hf := hk_139 _ hf
        obtain ⟨hi_9, hf⟩ := ix_inv hf
        obtain ⟨s_9, e_9, hf⟩ := lt_inv hf
        refine as_X_47 hx hb hK hC hi_9 e_9 dX7_make_139 (fun H locs hC => ?_)
        refine lv_iload_n hx hb dX7_make_140 rfl (lv_at hl 1 rfl) ?_
        obtain ⟨k_330, hk_330, hf⟩ := jn_inv1 hf
        have hj_330 : ∀ (s_10 : Sto) (H : Heap) (locs : List Loc) (ls : Array Slot), k_330 s_10 = some (v, σ2) → CZ D A s H locs (WX y o s_10) → lv_has ls 5 [(0, .ref (o 42))] → W p l e R s m args below meth c H locs 0 0 Q (F0 m 330 ls []) := by
          intro s_10 H locs ls hf hC hl
          have hf := hk_330 _ hf
          refine lv_aload_n hx hb dX7_make_330 rfl (lv_at hl 0 rfl) ?_
          refine lv_dup hx hb dX7_make_331 rfl ?_
          refine gt_X7_27_pool hx hb hta hown hK hC dX7_make_332 ?_
          refine lv_iconst (v := 1) hx hb dX7_make_335 (by decide) ?_
          refine lv_iadd hx hb dX7_make_336 ?_
          obtain ⟨s_11, e_11, hf⟩ := lt_inv hf
          refine pt_X7_27_pool hx hb hta hown hK hC e_11 dX7_make_337 (fun H locs hC => ?_)
          refine lv_aload_n hx hb dX7_make_340 rfl (lv_at hl 0 rfl) ?_
          refine gt_X7_27_pool hx hb hta hown hK hC dX7_make_341 ?_
          refine lv_iconst (v := 1) hx hb dX7_make_344 (by decide) ?_
          refine lv_isub hx hb dX7_make_345 ?_
          exact hret _ _ _ _ _ _ (rv_inv hf).1 (congrArg (WX y o) (rv_inv hf).2) rfl dX7_make_346 hC
        by_cases h_12_0 : x1.toInt = 33 ∨ x1.toInt = 110
        · have hf := it_t h_12_0 hf
          refine lv_lookup (off := 103) (tgt := 244) hx hb dX7_make_141 (by decide) (by rcases h_12_0 with h_12_0 | h_12_0 <;> (rw [h_12_0]; decide)) (by decide) ?_
          refine lv_aload_n hx hb dX7_make_244 rfl (lv_at hl 0 rfl) ?_
          refine gt_X7_21_pool hx hb hta hown hK hC dX7_make_245 ?_
          refine lv_aload_n hx hb dX7_make_248 rfl (lv_at hl 0 rfl) ?_
          refine gt_X7_27_pool hx hb hta hown hK hC dX7_make_249 ?_
          obtain ⟨v_13, e_13, hf⟩ := lt_inv hf
          refine nmi e_13 ?_
          refine lv_dup2_11 hx hb dX7_make_252 rfl rfl ?_
          obtain ⟨hi_14, hf⟩ := ix_inv hf
          obtain ⟨v_14, e_14, hf⟩ := lt_inv hf
          refine al_X_46 hx hb hK hC hi_14 e_14 dX7_make_253 ?_
          refine lv_aload_n hx hb dX7_make_254 rfl (lv_at hl 0 rfl) ?_
          refine gt_X7_21_pool hx hb hta hown hK hC dX7_make_255 ?_
          refine lv_iload_n hx hb dX7_make_258 rfl (lv_at hl 2 rfl) ?_
          obtain ⟨hi_15, hf⟩ := ix_inv hf
          obtain ⟨v_15, e_15, hf⟩ := lt_inv hf
          refine al_X_46 hx hb hK hC hi_15 e_15 dX7_make_259 ?_
          refine lv_iadd hx hb dX7_make_260 ?_
          obtain ⟨hi_16, hf⟩ := ix_inv hf
          obtain ⟨s_16, e_16, hf⟩ := lt_inv hf
          refine as_X_46 hx hb hK hC hi_16 e_16 dX7_make_261 (fun H locs hC => ?_)
          refine lv_aload_n hx hb dX7_make_262 rfl (lv_at hl 0 rfl) ?_
          refine gt_X7_24_pool hx hb hta hown hK hC dX7_make_263 ?_
          refine lv_aload_n hx hb dX7_make_266 rfl (lv_at hl 0 rfl) ?_
          refine gt_X7_27_pool hx hb hta hown hK hC dX7_make_267 ?_
          refine lv_aload_n hx hb dX7_make_270 rfl (lv_at hl 0 rfl) ?_
          refine gt_X7_24_pool hx hb hta hown hK hC dX7_make_271 ?_
          refine lv_iload_n hx hb dX7_make_274 rfl (lv_at hl 2 rfl) ?_
          obtain ⟨hi_17, hf⟩ := ix_inv hf
          obtain ⟨v_17, e_17, hf⟩ := lt_inv hf
          refine al_X_47 hx hb hK hC hi_17 e_17 dX7_make_275 ?_
          obtain ⟨hi_18, hf⟩ := ix_inv hf
          obtain ⟨s_18, e_18, hf⟩ := lt_inv hf
          refine as_X_47 hx hb hK hC hi_18 e_18 dX7_make_276 (fun H locs hC => ?_)
          refine lv_goto (tgt := 330) hx hb dX7_make_277 (by decide) ?_
          exact hj_330 _ _ _ _ hf hC (lv_sub hl [0] rfl)
        have hf := it_f h_12_0 hf
        by_cases h_12_1 : x1.toInt = 84
        · have hf := it_t h_12_1 hf
          refine lv_lookup (off := 85) (tgt := 226) hx hb dX7_make_141 (by decide) (by (rw [h_12_1]; decide)) (by decide) ?_
          refine lv_aload_n hx hb dX7_make_226 rfl (lv_at hl 0 rfl) ?_
          refine gt_X7_24_pool hx hb hta hown hK hC dX7_make_227 ?_
          refine lv_aload_n hx hb dX7_make_230 rfl (lv_at hl 0 rfl) ?_
          refine gt_X7_27_pool hx hb hta hown hK hC dX7_make_231 ?_
          refine lv_iconst (v := 1) hx hb dX7_make_234 (by decide) ?_
          refine lv_bipush (v := 6) hx hb dX7_make_235 (by decide) ?_
          refine lv_iload_n hx hb dX7_make_237 rfl (lv_at hl 2 rfl) ?_
          refine lv_iadd hx hb dX7_make_238 ?_
          refine lv_ishl hx hb dX7_make_239 ?_
          obtain ⟨hi_19, hf⟩ := ix_inv hf
          obtain ⟨s_19, e_19, hf⟩ := lt_inv hf
          refine as_X_47 hx hb hK hC hi_19 e_19 dX7_make_240 (fun H locs hC => ?_)
          refine lv_goto (tgt := 330) hx hb dX7_make_241 (by decide) ?_
          exact hj_330 _ _ _ _ hf hC (lv_sub hl [0] rfl)
        have hf := it_f h_12_1 hf
        by_cases h_12_2 : x1.toInt = 88 ∨ x1.toInt = 105 ∨ x1.toInt = 107
        · have hf := it_t h_12_2 hf
          refine lv_lookup (off := 67) (tgt := 208) hx hb dX7_make_141 (by decide) (by rcases h_12_2 with h_12_2 | h_12_2 | h_12_2 <;> (rw [h_12_2]; decide)) (by decide) ?_
          refine lv_goto (tgt := 330) hx hb dX7_make_208 (by decide) ?_
          exact hj_330 _ _ _ _ hf hC (lv_sub hl [0] rfl)
        have hf := it_f h_12_2 hf
        by_cases h_12_3 : x1.toInt = 108
        · have hf := it_t h_12_3 hf
          refine lv_lookup (off := 70) (tgt := 211) hx hb dX7_make_141 (by decide) (by (rw [h_12_3]; decide)) (by decide) ?_
          refine lv_aload_n hx hb dX7_make_211 rfl (lv_at hl 0 rfl) ?_
          refine gt_X7_24_pool hx hb hta hown hK hC dX7_make_212 ?_
          refine lv_aload_n hx hb dX7_make_215 rfl (lv_at hl 0 rfl) ?_
          refine gt_X7_27_pool hx hb hta hown hK hC dX7_make_216 ?_
          refine lv_iconst (v := 1) hx hb dX7_make_219 (by decide) ?_
          refine lv_iload_n hx hb dX7_make_220 rfl (lv_at hl 2 rfl) ?_
          refine lv_ishl hx hb dX7_make_221 ?_
          obtain ⟨hi_20, hf⟩ := ix_inv hf
          obtain ⟨s_20, e_20, hf⟩ := lt_inv hf
          refine as_X_47 hx hb hK hC hi_20 e_20 dX7_make_222 (fun H locs hC => ?_)
          refine lv_goto (tgt := 330) hx hb dX7_make_223 (by decide) ?_
          exact hj_330 _ _ _ _ hf hC (lv_sub hl [0] rfl)
        have hf := it_f h_12_3 hf
        refine lv_lookup (off := 139) (tgt := 280) hx hb dX7_make_141 (by decide) (lk_none (by intro a ha; simp only [List.mem_cons, List.not_mem_nil, or_false] at ha; rcases ha with rfl | rfl | rfl | rfl | rfl | rfl | rfl <;> (simp only; omega))) (by decide) ?_
        refine lv_aload_n hx hb dX7_make_280 rfl (lv_at hl 0 rfl) ?_
        refine gt_X7_21_pool hx hb hta hown hK hC dX7_make_281 ?_
        refine lv_aload_n hx hb dX7_make_284 rfl (lv_at hl 0 rfl) ?_
        refine gt_X7_27_pool hx hb hta hown hK hC dX7_make_285 ?_
        obtain ⟨v_21, e_21, hf⟩ := lt_inv hf
        refine nmi e_21 ?_
        refine lv_dup2_11 hx hb dX7_make_288 rfl rfl ?_
        obtain ⟨hi_22, hf⟩ := ix_inv hf
        obtain ⟨v_22, e_22, hf⟩ := lt_inv hf
        refine al_X_46 hx hb hK hC hi_22 e_22 dX7_make_289 ?_
        refine lv_aload_n hx hb dX7_make_290 rfl (lv_at hl 0 rfl) ?_
        refine gt_X7_21_pool hx hb hta hown hK hC dX7_make_291 ?_
        refine lv_iload_n hx hb dX7_make_294 rfl (lv_at hl 2 rfl) ?_
        obtain ⟨hi_23, hf⟩ := ix_inv hf
        obtain ⟨v_23, e_23, hf⟩ := lt_inv hf
        refine al_X_46 hx hb hK hC hi_23 e_23 dX7_make_295 ?_
        refine lv_aload_n hx hb dX7_make_296 rfl (lv_at hl 0 rfl) ?_
        refine gt_X7_21_pool hx hb hta hown hK hC dX7_make_297 ?_
        refine lv_iload_n hx hb dX7_make_300 rfl (lv_at hl 3 rfl) ?_
        obtain ⟨hi_24, hf⟩ := ix_inv hf
        obtain ⟨v_24, e_24, hf⟩ := lt_inv hf
        refine al_X_46 hx hb hK hC hi_24 e_24 dX7_make_301 ?_
        refine lv_iadd hx hb dX7_make_302 ?_
        refine lv_iadd hx hb dX7_make_303 ?_
        obtain ⟨hi_25, hf⟩ := ix_inv hf
        obtain ⟨s_25, e_25, hf⟩ := lt_inv hf
        refine as_X_46 hx hb hK hC hi_25 e_25 dX7_make_304 (fun H locs hC => ?_)
        refine lv_aload_n hx hb dX7_make_305 rfl (lv_at hl 0 rfl) ?_
        refine gt_X7_24_pool hx hb hta hown hK hC dX7_make_306 ?_
        refine lv_aload_n hx hb dX7_make_309 rfl (lv_at hl 0 rfl) ?_
        refine gt_X7_27_pool hx hb hta hown hK hC dX7_make_310 ?_
        obtain ⟨v_26, e_26, hf⟩ := lt_inv hf
        refine nmi e_26 ?_
        refine lv_dup2_11 hx hb dX7_make_313 rfl rfl ?_
        obtain ⟨hi_27, hf⟩ := ix_inv hf
        obtain ⟨v_27, e_27, hf⟩ := lt_inv hf
        refine al_X_47 hx hb hK hC hi_27 e_27 dX7_make_314 ?_
        refine lv_aload_n hx hb dX7_make_315 rfl (lv_at hl 0 rfl) ?_
        refine gt_X7_24_pool hx hb hta hown hK hC dX7_make_316 ?_
        refine lv_iload_n hx hb dX7_make_319 rfl (lv_at hl 2 rfl) ?_
        obtain ⟨hi_28, hf⟩ := ix_inv hf
        obtain ⟨v_28, e_28, hf⟩ := lt_inv hf
        refine al_X_47 hx hb hK hC hi_28 e_28 dX7_make_320 ?_
        refine lv_aload_n hx hb dX7_make_321 rfl (lv_at hl 0 rfl) ?_
        refine gt_X7_24_pool hx hb hta hown hK hC dX7_make_322 ?_
        refine lv_iload_n hx hb dX7_make_325 rfl (lv_at hl 3 rfl) ?_
        obtain ⟨hi_29, hf⟩ := ix_inv hf
        obtain ⟨v_29, e_29, hf⟩ := lt_inv hf
        refine al_X_47 hx hb hK hC hi_29 e_29 dX7_make_326 ?_
        refine lv_ior hx hb dX7_make_327 ?_
        refine lv_ior hx hb dX7_make_328 ?_
        obtain ⟨hi_30, hf⟩ := ix_inv hf
        obtain ⟨s_30, e_30, hf⟩ := lt_inv hf
        refine as_X_47 hx hb hK hC hi_30 e_30 dX7_make_329 (fun H locs hC => ?_)
        exact hj_330 _ _ _ _ hf hC (lv_sub hl [0] rfl)
      obtain ⟨k_132, hk_132, hf⟩ := jn_inv0 hf
      have hj_132 : ∀  (H : Heap) (locs : List Loc) (ls : Array Slot), k_132 = some (v, σ2) → CZ D A s H locs (WX y o s_7) → lv_has ls 5 [(0, .ref (o 42)), (1, .int x1), (2, .int x2), (3, .int x3)] → W p l e R s m args below meth c H locs 0 0 Q (F0 m 132 ls [.int (s_7.1 46 0), .ref (o 47)]) := by
        intro H locs ls hf hC hl
        have hf := hk_132 hf
        refine lv_sipush (v := 4096) hx hb dX7_make_132 (by decide) ?_
        refine lv_goto (tgt := 139) hx hb dX7_make_135 (by decide) ?_
        exact hj_139 _ _ _ _ hf hC hl
      refine lv_icmp_eq (tgt := 132) hx hb dX7_make_117 (by decide) (fun c_32 => ?_) (fun c_32 => ?_)
      · have hf := it_t c_32 hf
        exact hj_132 _ _ _ hf hC (lv_sub hl [0, 1, 2, 3] rfl)
      · have hf := it_f c_32 hf
        refine lv_iload_n hx hb dX7_make_120 rfl (lv_at hl 1 rfl) ?_
        refine lv_bipush (v := 47) hx hb dX7_make_121 (by decide) ?_
        refine lv_icmp_eq (tgt := 132) hx hb dX7_make_123 (by decide) (fun c_33 => ?_) (fun c_33 => ?_)
        · have hf := it_t c_33 hf
          exact hj_132 _ _ _ hf hC (lv_sub hl [0, 1, 2, 3] rfl)
        · have hf := it_f c_33 hf
          refine lv_iload_n hx hb dX7_make_126 rfl (lv_at hl 1 rfl) ?_
          refine lv_bipush (v := 37) hx hb dX7_make_127 (by decide) ?_
          refine lv_icmp_ne (tgt := 138) hx hb dX7_make_129 (by decide) (fun c_34 => ?_) (fun c_34 => ?_)
          · have hf := it_f c_34 hf
            refine lv_iconst (v := 0) hx hb dX7_make_138 (by decide) ?_
            exact hj_139 _ _ _ _ hf hC (lv_sub hl [0, 1, 2, 3] rfl)
          · have hf := it_t c_34 hf
            exact hj_132 _ _ _ hf hC (lv_sub hl [0, 1, 2, 3] rfl)
    · have hf := it_t c_3 hf
      refine lv_iconst (v := 0) hx hb dX7_make_64 (by decide) ?_
      exact hret _ _ _ _ _ _ (rv_inv hf).1 (congrArg (WX y o) (rv_inv hf).2) rfl dX7_make_65 hC
  · have hf := it_f c_2 hf
    refine lv_aload_n hx hb dX7_make_12 rfl (lv_at hl 0 rfl) ?_
    refine gt_X7_9_pool hx hb hta hown hK hC dX7_make_13 ?_
    refine lv_iload hx hb dX7_make_16 (lv_at hl 4 rfl) ?_
    obtain ⟨hi_35, hf⟩ := ix_inv hf
    obtain ⟨v_35, e_35, hf⟩ := lt_inv hf
    refine al_X_43 hx hb hK hC hi_35 e_35 dX7_make_18 ?_
    refine lv_iload_n hx hb dX7_make_19 rfl (lv_at hl 1 rfl) ?_
    obtain ⟨k_48, hk_48, hf⟩ := jn_inv0 hf
    have hj_48 : ∀  (H : Heap) (locs : List Loc) (ls : Array Slot), k_48 = some (v, σ2) → CZ D A s H locs (WX y o σ) → lv_has ls 5 [(0, .ref (o 42)), (1, .int x1), (2, .int x2), (3, .int x3), (4, .int x4_1)] → W p l e R s m args below meth c H locs 0 0 Q (F0 m 48 ls []) := by
      intro H locs ls hf hC hl
      have hf := hk_48 hf
      obtain ⟨x4_37, e_37, hf⟩ := lt_inv hf
      refine lv_iinc (v := x4_37) (lv' := [(4, .int x4_37), (0, .ref (o 42)), (1, .int x1), (2, .int x2), (3, .int x3)]) hx hb dX7_make_48 hl (k := 4) rfl e_37.symm (by decide) rfl (fun ls hl => ?_)
      refine lv_goto (tgt := 3) hx hb dX7_make_51 (by decide) ?_
      exact ha_3 _ hf _ _ _ hC (lv_sub hl [1, 2, 3, 4, 0] rfl)
    refine lv_icmp_ne (tgt := 48) hx hb dX7_make_20 (by decide) (fun c_38 => ?_) (fun c_38 => ?_)
    · have hf := it_f c_38 hf
      exact hj_48 _ _ _ hf hC hl
    · have hf := it_t c_38 hf
      refine lv_aload_n hx hb dX7_make_23 rfl (lv_at hl 0 rfl) ?_
      refine gt_X7_15_pool hx hb hta hown hK hC dX7_make_24 ?_
      refine lv_iload hx hb dX7_make_27 (lv_at hl 4 rfl) ?_
      obtain ⟨hi_39, hf⟩ := ix_inv hf
      obtain ⟨v_39, e_39, hf⟩ := lt_inv hf
      refine al_X_44 hx hb hK hC hi_39 e_39 dX7_make_29 ?_
      refine lv_iload_n hx hb dX7_make_30 rfl (lv_at hl 2 rfl) ?_
      refine lv_icmp_ne (tgt := 48) hx hb dX7_make_31 (by decide) (fun c_40 => ?_) (fun c_40 => ?_)
      · have hf := it_f c_40 hf
        exact hj_48 _ _ _ hf hC hl
      · have hf := it_t c_40 hf
        refine lv_aload_n hx hb dX7_make_34 rfl (lv_at hl 0 rfl) ?_
        refine gt_X7_18_pool hx hb hta hown hK hC dX7_make_35 ?_
        refine lv_iload hx hb dX7_make_38 (lv_at hl 4 rfl) ?_
        obtain ⟨hi_41, hf⟩ := ix_inv hf
        obtain ⟨v_41, e_41, hf⟩ := lt_inv hf
        refine al_X_45 hx hb hK hC hi_41 e_41 dX7_make_40 ?_
        refine lv_iload_n hx hb dX7_make_41 rfl (lv_at hl 3 rfl) ?_
        refine lv_icmp_ne (tgt := 48) hx hb dX7_make_42 (by decide) (fun c_42 => ?_) (fun c_42 => ?_)
        · have hf := it_f c_42 hf
          exact hj_48 _ _ _ hf hC hl
        · have hf := it_t c_42 hf
          refine lv_iload hx hb dX7_make_45 (lv_at hl 4 rfl) ?_
          exact hret _ _ _ _ _ _ (rv_inv hf).1 (congrArg (WX y o) (rv_inv hf).2) rfl dX7_make_47 hC

set_option maxHeartbeats 8000000 in
set_option maxRecDepth 100000 in
theorem r_X1_putAside {D : va_G} {y : Nat → ClassId} {o : Nat → Nat} {ad av : Nat → Nat} {x1 : Int32} {σ : Sto} {σ2 : Sto} {v : Int32} (hf : f_X1_putAside x1 σ = some (v, σ2)) (l : Launch) (sz : Nat) : Met l yX1_putAside (Cond.code yX1_putAside cX1_putAside 3 (some .int) :: ALW) { frames := 1, cells := 0, slots := 0, locals := 24 } (va_Pc [.ref (o 48), .int x1] (PZ D y ad av (WX y o σ) sz)) (QZi D (WX y o σ) v (WX y o σ2) sz) 0 0 (va_A (WX y o σ) sz) := by
  refine met_i (by decide) (Nat.le_of_ble_eq_true rfl) ?_
  intro p e R s m args below meth c Q A ls hx hb hml hta hown hRc hRs hRf hRl hN hK hV hA hret hC hl
  have hl : lv_has ls 3 [(0, .ref (o 48)), (1, .int x1)] := hl
  unfold f_X1_putAside at hf
  refine lv_aload_n hx hb dX1_putAside_0 rfl (lv_at hl 0 rfl) ?_
  refine lv_iconst (v := 2) hx hb dX1_putAside_1 (by decide) ?_
  refine lv_aload_n hx hb dX1_putAside_2 rfl (lv_at hl 0 rfl) ?_
  refine gt_X1_50_lifted hx hb hta hown hK hC dX1_putAside_3 ?_
  refine lv_iload_n hx hb dX1_putAside_6 rfl (lv_at hl 1 rfl) ?_
  obtain ⟨s_1, hc_1, hf⟩ := cals_inv hf
  refine cc_Vv (r_X1_add (D := D) (y := y) (o := o) (ad := ad) (av := av) hc_1 l) hx hb hml hta hown hK hN hV hA hC hRc hRs (by omega) (by omega) wq_117 (q := 48) (ci := 1) rfl rfl wq_118 wq_119 wq_120 wq_113 hd_X1_add (As := [.int 2, .int (σ.1 58 0), .int x1]) (rest := []) rfl rfl hl.1 rfl dX1_putAside_7 (fun H locs hC => ?_)
  refine lv_aload_n hx hb dX1_putAside_10 rfl (lv_at hl 0 rfl) ?_
  refine gt_X1_42_lifted hx hb hta hown hK hC dX1_putAside_11 ?_
  refine lv_bipush (v := 88) hx hb dX1_putAside_14 (by decide) ?_
  refine lv_aload_n hx hb dX1_putAside_16 rfl (lv_at hl 0 rfl) ?_
  refine gt_X1_50_lifted hx hb hta hown hK hC dX1_putAside_17 ?_
  refine lv_iconst (v := 0) hx hb dX1_putAside_20 (by decide) ?_
  obtain ⟨v_2, s_2, hc_2, hf⟩ := calv_inv hf
  refine cc_Vi (r_X7_make (D := D) (y := y) (o := o) (ad := ad) (av := av) hc_2 l) hx hb hml hta hown hK hN hV hA hC hRc hRs (by omega) (by omega) wq_121 (q := 42) (ci := 7) rfl rfl wq_122 wq_123 wq_124 wq_103 hd_X7_make (As := [.int 88, .int (s_1.1 58 0), .int 0]) (rest := []) rfl rfl hl.1 rfl dX1_putAside_21 (fun H locs hC => ?_)
  refine lv_istore_n (lv' := [(2, .int v_2), (0, .ref (o 48)), (1, .int x1)]) hx hb dX1_putAside_24 rfl hl (by decide) rfl (fun ls hl => ?_)
  refine lv_aload_n hx hb dX1_putAside_25 rfl (lv_at hl 1 rfl) ?_
  refine gt_X1_50_lifted hx hb hta hown hK hC dX1_putAside_26 ?_
  refine lv_sipush (v := 160) hx hb dX1_putAside_29 (by decide) ?_
  refine lv_icmp_ge (tgt := 45) hx hb dX1_putAside_32 (by decide) (fun c_3 => ?_) (fun c_3 => ?_)
  · have hf := it_t c_3 hf
    refine lv_iload_n hx hb dX1_putAside_45 rfl (lv_at hl 0 rfl) ?_
    exact hret _ _ _ _ _ _ (rv_inv hf).1 (congrArg (WX y o) (rv_inv hf).2) rfl dX1_putAside_46 hC
  · have hf := it_f c_3 hf
    refine lv_aload_n hx hb dX1_putAside_35 rfl (lv_at hl 1 rfl) ?_
    refine lv_dup hx hb dX1_putAside_36 rfl ?_
    refine gt_X1_50_lifted hx hb hta hown hK hC dX1_putAside_37 ?_
    refine lv_iconst (v := 1) hx hb dX1_putAside_40 (by decide) ?_
    refine lv_iadd hx hb dX1_putAside_41 ?_
    obtain ⟨s_4, e_4, hf⟩ := lt_inv hf
    refine pt_X1_50_lifted hx hb hta hown hK hC e_4 dX1_putAside_42 (fun H locs hC => ?_)
    refine lv_iload_n hx hb dX1_putAside_45 rfl (lv_at hl 0 rfl) ?_
    exact hret _ _ _ _ _ _ (rv_inv hf).1 (congrArg (WX y o) (rv_inv hf).2) rfl dX1_putAside_46 hC

set_option maxHeartbeats 8000000 in
set_option maxRecDepth 100000 in
theorem r_X7_slotBit {D : va_G} {y : Nat → ClassId} {ad av : Nat → Nat} {w : va_W} {x1 : Int32} {v : Int32} (hf : f_X7_slotBit x1 = some v) (l : Launch) (sz : Nat) : Met l yX7_slotBit (Cond.code yX7_slotBit cX7_slotBit 1 (some .int) :: ALW) { frames := 0, cells := 0, slots := 0, locals := 0 } (va_Pc [.int x1] (PZ D y ad av (w) sz)) (QZi D (w) v (w) sz) 0 0 (va_A (w) sz) := by
  refine met_i (by decide) (Nat.le_of_ble_eq_true rfl) ?_
  intro p e R s m args below meth c Q A ls hx hb hml hta hown hRc hRs hRf hRl hN hK hV hA hret hC hl
  have hl : lv_has ls 1 [(0, .int x1)] := hl
  unfold f_X7_slotBit at hf
  refine lv_iconst (v := 1) hx hb dX7_slotBit_0 (by decide) ?_
  refine lv_bipush (v := 6) hx hb dX7_slotBit_1 (by decide) ?_
  refine lv_iload_n hx hb dX7_slotBit_3 rfl (lv_at hl 0 rfl) ?_
  refine lv_iadd hx hb dX7_slotBit_4 ?_
  refine lv_ishl hx hb dX7_slotBit_5 ?_
  exact hret _ _ _ _ _ _ (Option.some.inj hf) rfl rfl dX7_slotBit_6 hC

set_option maxHeartbeats 8000000 in
set_option maxRecDepth 100000 in
theorem r_X1_isNeededAbove {D : va_G} {y : Nat → ClassId} {o : Nat → Nat} {ad av : Nat → Nat} {x1 : Int32} {x2 : Int32} {σ : Sto} {v : Int32} (hf : f_X1_isNeededAbove x1 x2 σ = some v) (l : Launch) (sz : Nat) : Met l yX1_isNeededAbove (Cond.code yX1_isNeededAbove cX1_isNeededAbove 5 (some .boolean) :: ALW) { frames := 1, cells := 0, slots := 0, locals := 20 } (va_Pc [.ref (o 48), .int x1, .int x2] (PZ D y ad av (WX y o σ) sz)) (QZi D (WX y o σ) v (WX y o σ) sz) 0 0 (va_A (WX y o σ) sz) := by
  refine met_i (by decide) (Nat.le_of_ble_eq_true rfl) ?_
  intro p e R s m args below meth c Q A ls hx hb hml hta hown hRc hRs hRf hRl hN hK hV hA hret hC hl
  have hl : lv_has ls 5 [(0, .ref (o 48)), (1, .int x1), (2, .int x2)] := hl
  unfold f_X1_isNeededAbove at hf
  refine lv_aload_n hx hb dX1_isNeededAbove_0 rfl (lv_at hl 0 rfl) ?_
  refine gt_X1_24_lifted hx hb hta hown hK hC dX1_isNeededAbove_1 ?_
  refine lv_iload_n hx hb dX1_isNeededAbove_4 rfl (lv_at hl 1 rfl) ?_
  obtain ⟨hi_1, hf⟩ := ix_inv hf
  obtain ⟨v_1, e_1, hf⟩ := lt_inv hf
  refine al_X_53 hx hb hK hC hi_1 e_1 dX1_isNeededAbove_5 ?_
  refine lv_iconst (v := (-1)) hx hb dX1_isNeededAbove_6 (by decide) ?_
  obtain ⟨k_28, hk_28, hf⟩ := jn_inv1 hf
  have hj_28 : ∀ (t0_2 : Int32) (H : Heap) (locs : List Loc) (ls : Array Slot), k_28 t0_2 = some v → CZ D A s H locs (WX y o σ) → lv_has ls 5 [(0, .ref (o 48)), (2, .int x2)] → W p l e R s m args below meth c H locs 0 0 Q (F0 m 28 ls [.int t0_2]) := by
    intro t0_2 H locs ls hf hC hl
    have hf := hk_28 _ hf
    refine lv_istore_n (lv' := [(3, .int t0_2), (0, .ref (o 48)), (2, .int x2)]) hx hb dX1_isNeededAbove_28 rfl hl (by decide) rfl (fun ls hl => ?_)
    refine lv_iload_n hx hb dX1_isNeededAbove_29 rfl (lv_at hl 2 rfl) ?_
    refine lv_iconst (v := 1) hx hb dX1_isNeededAbove_30 (by decide) ?_
    refine lv_iadd hx hb dX1_isNeededAbove_31 ?_
    obtain ⟨x4_3, e_3, hf⟩ := lt_inv hf
    refine nmi e_3 ?_
    refine lv_istore (lv' := [(4, .int x4_3), (3, .int t0_2), (0, .ref (o 48)), (2, .int x2)]) hx hb dX1_isNeededAbove_32 hl (by decide) rfl (fun ls hl => ?_)
    refine itr_inv2 (P := fun (x3_4 : Int32) (x4_4 : Int32) => ∀ (H : Heap) (locs : List Loc) (ls : Array Slot), CZ D A s H locs (WX y o σ) → lv_has ls 5 [(0, .ref (o 48)), (2, .int x2), (3, .int x3_4), (4, .int x4_4)] → W p l e R s m args below meth c H locs 0 0 Q (F0 m 34 ls [])) hf ?_ _ _ _ hC (lv_sub hl [2, 3, 1, 0] rfl)
    intro a_34 x3_4 x4_4 ha_34 hf H locs ls hC hl
    refine lv_iload hx hb dX1_isNeededAbove_34 (lv_at hl 3 rfl) ?_
    refine lv_aload_n hx hb dX1_isNeededAbove_36 rfl (lv_at hl 0 rfl) ?_
    refine gt_X1_59_lifted hx hb hta hown hK hC dX1_isNeededAbove_37 ?_
    refine lv_icmp_ge (tgt := 67) hx hb dX1_isNeededAbove_40 (by decide) (fun c_5 => ?_) (fun c_5 => ?_)
    · have hf := it_t c_5 hf
      refine lv_iload_n hx hb dX1_isNeededAbove_67 rfl (lv_at hl 2 rfl) ?_
      refine lv_iload_n hx hb dX1_isNeededAbove_68 rfl (lv_at hl 1 rfl) ?_
      obtain ⟨v_6, hc_6, hf⟩ := calp_inv hf
      refine cc_Si (r_X7_slotBit (D := D) (y := y) (w := WX y o σ) (ad := ad) (av := av) hc_6 l) hx hb hml hta hown hK hN hV hA hC hRc hRs (by omega) (by omega) wq_178 wq_179 wq_124 wq_176 hd_X7_slotBit (As := [.int x2]) (rest := [.int x3_4]) rfl rfl hl.1 rfl dX1_isNeededAbove_69 (fun H locs hC => ?_)
      refine lv_iand hx hb dX1_isNeededAbove_72 ?_
      refine lv_if_eq (tgt := 80) hx hb dX1_isNeededAbove_73 (by decide) (fun c_7 => ?_) (fun c_7 => ?_)
      · have hf := it_t c_7 hf
        refine lv_iconst (v := 0) hx hb dX1_isNeededAbove_80 (by decide) ?_
        exact hret _ _ _ _ _ _ (Option.some.inj hf) rfl rfl dX1_isNeededAbove_81 hC
      · have hf := it_f c_7 hf
        refine lv_iconst (v := 1) hx hb dX1_isNeededAbove_76 (by decide) ?_
        refine lv_goto (tgt := 81) hx hb dX1_isNeededAbove_77 (by decide) ?_
        exact hret _ _ _ _ _ _ (Option.some.inj hf) rfl rfl dX1_isNeededAbove_81 hC
    · have hf := it_f c_5 hf
      refine lv_iload_n hx hb dX1_isNeededAbove_43 rfl (lv_at hl 2 rfl) ?_
      refine lv_aload_n hx hb dX1_isNeededAbove_44 rfl (lv_at hl 0 rfl) ?_
      refine gt_X1_42_lifted hx hb hta hown hK hC dX1_isNeededAbove_45 ?_
      refine gt_X1_131_pool hx hb hta hown hK hC dX1_isNeededAbove_48 ?_
      refine lv_aload_n hx hb dX1_isNeededAbove_51 rfl (lv_at hl 0 rfl) ?_
      refine gt_X1_27_lifted hx hb hta hown hK hC dX1_isNeededAbove_52 ?_
      refine lv_iload hx hb dX1_isNeededAbove_55 (lv_at hl 3 rfl) ?_
      obtain ⟨hi_8, hf⟩ := ix_inv hf
      obtain ⟨v_8, e_8, hf⟩ := lt_inv hf
      refine al_X_54 hx hb hK hC hi_8 e_8 dX1_isNeededAbove_57 ?_
      obtain ⟨hi_9, hf⟩ := ix_inv hf
      obtain ⟨v_9, e_9, hf⟩ := lt_inv hf
      refine al_X_47 hx hb hK hC hi_9 e_9 dX1_isNeededAbove_58 ?_
      refine lv_ior hx hb dX1_isNeededAbove_59 ?_
      obtain ⟨x3_10, e_10, hf⟩ := lt_inv hf
      refine nmi e_10 ?_
      refine lv_istore_n (lv' := [(3, .int x3_10), (0, .ref (o 48)), (2, .int x2), (4, .int x4_4)]) hx hb dX1_isNeededAbove_60 rfl hl (by decide) rfl (fun ls hl => ?_)
      obtain ⟨x4_11, e_11, hf⟩ := lt_inv hf
      refine lv_iinc (v := x4_11) (lv' := [(4, .int x4_11), (3, .int x3_10), (0, .ref (o 48)), (2, .int x2)]) hx hb dX1_isNeededAbove_61 hl (k := 3) rfl e_11.symm (by decide) rfl (fun ls hl => ?_)
      refine lv_goto (tgt := 34) hx hb dX1_isNeededAbove_64 (by decide) ?_
      exact ha_34 _ _ hf _ _ _ hC (lv_sub hl [2, 3, 1, 0] rfl)
  refine lv_icmp_ne (tgt := 14) hx hb dX1_isNeededAbove_7 (by decide) (fun c_12 => ?_) (fun c_12 => ?_)
  · have hf := it_f c_12 hf
    refine lv_aload_n hx hb dX1_isNeededAbove_14 rfl (lv_at hl 0 rfl) ?_
    refine gt_X1_42_lifted hx hb hta hown hK hC dX1_isNeededAbove_15 ?_
    refine gt_X1_131_pool hx hb hta hown hK hC dX1_isNeededAbove_18 ?_
    refine lv_aload_n hx hb dX1_isNeededAbove_21 rfl (lv_at hl 0 rfl) ?_
    refine gt_X1_24_lifted hx hb hta hown hK hC dX1_isNeededAbove_22 ?_
    refine lv_iload_n hx hb dX1_isNeededAbove_25 rfl (lv_at hl 1 rfl) ?_
    obtain ⟨hi_13, hf⟩ := ix_inv hf
    obtain ⟨v_13, e_13, hf⟩ := lt_inv hf
    refine al_X_53 hx hb hK hC hi_13 e_13 dX1_isNeededAbove_26 ?_
    obtain ⟨hi_14, hf⟩ := ix_inv hf
    obtain ⟨v_14, e_14, hf⟩ := lt_inv hf
    refine al_X_47 hx hb hK hC hi_14 e_14 dX1_isNeededAbove_27 ?_
    exact hj_28 _ _ _ _ hf hC (lv_sub hl [0, 2] rfl)
  · have hf := it_t c_12 hf
    refine lv_iconst (v := 0) hx hb dX1_isNeededAbove_10 (by decide) ?_
    refine lv_goto (tgt := 28) hx hb dX1_isNeededAbove_11 (by decide) ?_
    exact hj_28 _ _ _ _ hf hC (lv_sub hl [0, 2] rfl)

set_option maxHeartbeats 8000000 in
set_option maxRecDepth 100000 in
theorem rg_X7_replace {D : va_G} {y : Nat → ClassId} {o : Nat → Nat} {ad av : Nat → Nat} : ∀ d : Nat, (∀ {x1 : Int32} {x2 : Int32} {x3 : Int32} {x4 : Int32} {σ : Sto} {σ2 : Sto} {v : Int32}, f_X7_replace d x1 x2 x3 x4 σ = some (v, σ2) → ∀ (l : Launch) (sz : Nat), Met l yX7_replace (Cond.code yX7_replace cX7_replace 7 (some .int) :: ALW) { frames := d + 1, cells := 0, slots := 0, locals := d * 26 + 24 } (va_Pc [.ref (o 42), .int x1, .int x2, .int x3, .int x4] (PZ D y ad av (WX y o σ) sz)) (QZi D (WX y o σ) v (WX y o σ2) sz) 0 0 (va_A (WX y o σ) sz)) := by
  intro d
  induction d with
  | zero => exact fun hc => by have hc : (none : Option (Int32 × Sto)) = some _ := hc; cases hc
  | succ d ih =>
    have h_X7_replace := @ih
    intro x1 x2 x3 x4 σ σ2 v hf l sz
    have hf : b_X7_replace (f_X7_replace d) x1 x2 x3 x4 σ = some (v, σ2) := hf
    refine met_i (by decide) (Nat.le_of_ble_eq_true rfl) ?_
    intro p e R s m args below meth c Q A ls hx hb hml hta hown hRc hRs hRf hRl hN hK hV hA hret hC hl
    have hl : lv_has ls 7 [(0, .ref (o 42)), (1, .int x1), (2, .int x2), (3, .int x3), (4, .int x4)] := hl
    unfold b_X7_replace at hf
    refine lv_iload hx hb dX7_replace_0 (lv_at hl 4 rfl) ?_
    refine lv_bipush (v := 60) hx hb dX7_replace_2 (by decide) ?_
    refine lv_icmp_gt (tgt := 21) hx hb dX7_replace_4 (by decide) (fun c_1 => ?_) (fun c_1 => ?_)
    · have hf := it_t c_1 hf
      refine lv_iload_n hx hb dX7_replace_21 rfl (lv_at hl 1 rfl) ?_
      exact hret _ _ _ _ _ _ (rv_inv hf).1 (congrArg (WX y o) (rv_inv hf).2) rfl dX7_replace_22 hC
    · have hf := it_f c_1 hf
      refine lv_aload_n hx hb dX7_replace_7 rfl (lv_at hl 0 rfl) ?_
      refine gt_X7_24_pool hx hb hta hown hK hC dX7_replace_8 ?_
      refine lv_iload_n hx hb dX7_replace_11 rfl (lv_at hl 1 rfl) ?_
      obtain ⟨hi_2, hf⟩ := ix_inv hf
      obtain ⟨v_2, e_2, hf⟩ := lt_inv hf
      refine al_X_47 hx hb hK hC hi_2 e_2 dX7_replace_12 ?_
      refine lv_iload_n hx hb dX7_replace_13 rfl (lv_at hl 2 rfl) ?_
      obtain ⟨v_3, hc_3, hf⟩ := calp_inv hf
      refine cc_Si (r_X7_slotBit (D := D) (y := y) (w := WX y o σ) (ad := ad) (av := av) hc_3 l) hx hb hml hta hown hK hN hV hA hC hRc hRs (by omega) (by omega) wq_182 wq_179 wq_124 wq_176 hd_X7_slotBit (As := [.int x2]) (rest := [.int v_2]) rfl rfl hl.1 rfl dX7_replace_14 (fun H locs hC => ?_)
      refine lv_iand hx hb dX7_replace_17 ?_
      refine lv_if_ne (tgt := 23) hx hb dX7_replace_18 (by decide) (fun c_4 => ?_) (fun c_4 => ?_)
      · have hf := it_f c_4 hf
        refine lv_aload_n hx hb dX7_replace_23 rfl (lv_at hl 0 rfl) ?_
        refine gt_X7_9_pool hx hb hta hown hK hC dX7_replace_24 ?_
        refine lv_iload_n hx hb dX7_replace_27 rfl (lv_at hl 1 rfl) ?_
        obtain ⟨hi_5, hf⟩ := ix_inv hf
        obtain ⟨v_5, e_5, hf⟩ := lt_inv hf
        refine al_X_43 hx hb hK hC hi_5 e_5 dX7_replace_28 ?_
        obtain ⟨v_6, hc_6, hf⟩ := calp_inv hf
        refine cc_SiN (r_X11_isBinary (D := D) (y := y) (w := WX y o σ) (ad := ad) (av := av) hc_6 l) hx hb hml hta hown hK hN hV hA hC hRc hRs (by omega) (by omega) (nw_X7_35 hN) wq_67 wq_38 wq_65 hd_X11_isBinary (As := [.int v_5]) (rest := []) rfl rfl hl.1 rfl dX7_replace_29 (fun H locs hC => ?_)
        refine lv_if_eq (tgt := 86) hx hb dX7_replace_32 (by decide) (fun c_7 => ?_) (fun c_7 => ?_)
        · have hf := it_t c_7 hf
          refine lv_aload_n hx hb dX7_replace_86 rfl (lv_at hl 0 rfl) ?_
          refine gt_X7_9_pool hx hb hta hown hK hC dX7_replace_87 ?_
          refine lv_iload_n hx hb dX7_replace_90 rfl (lv_at hl 1 rfl) ?_
          obtain ⟨hi_8, hf⟩ := ix_inv hf
          obtain ⟨v_8, e_8, hf⟩ := lt_inv hf
          refine al_X_43 hx hb hK hC hi_8 e_8 dX7_replace_91 ?_
          obtain ⟨v_9, hc_9, hf⟩ := calp_inv hf
          refine cc_SiN (r_X11_isUnary (D := D) (y := y) (w := WX y o σ) (ad := ad) (av := av) hc_9 l) hx hb hml hta hown hK hN hV hA hC hRc hRs (by omega) (by omega) (nw_X7_47 hN) wq_187 wq_38 wq_180 hd_X11_isUnary (As := [.int v_8]) (rest := []) rfl rfl hl.1 rfl dX7_replace_92 (fun H locs hC => ?_)
          refine lv_if_eq (tgt := 128) hx hb dX7_replace_95 (by decide) (fun c_10 => ?_) (fun c_10 => ?_)
          · have hf := it_t c_10 hf
            refine lv_iload_n hx hb dX7_replace_128 rfl (lv_at hl 3 rfl) ?_
            exact hret _ _ _ _ _ _ (rv_inv hf).1 (congrArg (WX y o) (rv_inv hf).2) rfl dX7_replace_129 hC
          · have hf := it_f c_10 hf
            refine lv_aload_n hx hb dX7_replace_98 rfl (lv_at hl 0 rfl) ?_
            refine lv_aload_n hx hb dX7_replace_99 rfl (lv_at hl 0 rfl) ?_
            refine gt_X7_9_pool hx hb hta hown hK hC dX7_replace_100 ?_
            refine lv_iload_n hx hb dX7_replace_103 rfl (lv_at hl 1 rfl) ?_
            obtain ⟨hi_11, hf⟩ := ix_inv hf
            obtain ⟨v_11, e_11, hf⟩ := lt_inv hf
            refine al_X_43 hx hb hK hC hi_11 e_11 dX7_replace_104 ?_
            refine lv_aload_n hx hb dX7_replace_105 rfl (lv_at hl 0 rfl) ?_
            refine lv_aload_n hx hb dX7_replace_106 rfl (lv_at hl 0 rfl) ?_
            refine gt_X7_15_pool hx hb hta hown hK hC dX7_replace_107 ?_
            refine lv_iload_n hx hb dX7_replace_110 rfl (lv_at hl 1 rfl) ?_
            obtain ⟨hi_12, hf⟩ := ix_inv hf
            obtain ⟨v_12, e_12, hf⟩ := lt_inv hf
            refine al_X_44 hx hb hK hC hi_12 e_12 dX7_replace_111 ?_
            refine lv_iload_n hx hb dX7_replace_112 rfl (lv_at hl 2 rfl) ?_
            refine lv_iload_n hx hb dX7_replace_113 rfl (lv_at hl 3 rfl) ?_
            refine lv_iload hx hb dX7_replace_114 (lv_at hl 4 rfl) ?_
            refine lv_iconst (v := 1) hx hb dX7_replace_116 (by decide) ?_
            refine lv_iadd hx hb dX7_replace_117 ?_
            obtain ⟨v_13, s_13, hc_13, hf⟩ := calv_inv hf
            refine cc_Vi (h_X7_replace hc_13 l) hx hb hml hta hown hK hN hV hA hC hRc hRs (by omega) (by omega) wq_183 (q := 42) (ci := 7) rfl rfl wq_184 wq_185 wq_124 wq_181 hd_X7_replace (As := [.int v_12, .int x2, .int x3, .int (x4 + 1)]) (rest := [.int v_11, .ref (o 42)]) rfl rfl hl.1 rfl dX7_replace_118 (fun H locs hC => ?_)
            refine lv_iconst (v := 0) hx hb dX7_replace_121 (by decide) ?_
            obtain ⟨v_14, s_14, hc_14, hf⟩ := calv_inv hf
            refine cc_Vi (r_X7_make (D := D) (y := y) (o := o) (ad := ad) (av := av) hc_14 l) hx hb hml hta hown hK hN hV hA hC hRc hRs (by omega) (by omega) wq_186 (q := 42) (ci := 7) rfl rfl wq_122 wq_123 wq_124 wq_103 hd_X7_make (As := [.int v_11, .int v_13, .int 0]) (rest := []) rfl rfl hl.1 rfl dX7_replace_122 (fun H locs hC => ?_)
            refine lv_goto (tgt := 129) hx hb dX7_replace_125 (by decide) ?_
            exact hret _ _ _ _ _ _ (rv_inv hf).1 (congrArg (WX y o) (rv_inv hf).2) rfl dX7_replace_129 hC
        · have hf := it_f c_7 hf
          refine lv_aload_n hx hb dX7_replace_35 rfl (lv_at hl 0 rfl) ?_
          refine lv_aload_n hx hb dX7_replace_36 rfl (lv_at hl 0 rfl) ?_
          refine gt_X7_15_pool hx hb hta hown hK hC dX7_replace_37 ?_
          refine lv_iload_n hx hb dX7_replace_40 rfl (lv_at hl 1 rfl) ?_
          obtain ⟨hi_15, hf⟩ := ix_inv hf
          obtain ⟨v_15, e_15, hf⟩ := lt_inv hf
          refine al_X_44 hx hb hK hC hi_15 e_15 dX7_replace_41 ?_
          refine lv_iload_n hx hb dX7_replace_42 rfl (lv_at hl 2 rfl) ?_
          refine lv_iload_n hx hb dX7_replace_43 rfl (lv_at hl 3 rfl) ?_
          refine lv_iload hx hb dX7_replace_44 (lv_at hl 4 rfl) ?_
          refine lv_iconst (v := 1) hx hb dX7_replace_46 (by decide) ?_
          refine lv_iadd hx hb dX7_replace_47 ?_
          obtain ⟨v_16, s_16, hc_16, hf⟩ := calv_inv hf
          refine cc_Vi (h_X7_replace hc_16 l) hx hb hml hta hown hK hN hV hA hC hRc hRs (by omega) (by omega) wq_183 (q := 42) (ci := 7) rfl rfl wq_184 wq_185 wq_124 wq_181 hd_X7_replace (As := [.int v_15, .int x2, .int x3, .int (x4 + 1)]) (rest := []) rfl rfl hl.1 rfl dX7_replace_48 (fun H locs hC => ?_)
          refine lv_istore (lv' := [(5, .int v_16), (0, .ref (o 42)), (1, .int x1), (2, .int x2), (3, .int x3), (4, .int x4)]) hx hb dX7_replace_51 hl (by decide) rfl (fun ls hl => ?_)
          refine lv_aload_n hx hb dX7_replace_53 rfl (lv_at hl 1 rfl) ?_
          refine lv_aload_n hx hb dX7_replace_54 rfl (lv_at hl 1 rfl) ?_
          refine gt_X7_18_pool hx hb hta hown hK hC dX7_replace_55 ?_
          refine lv_iload_n hx hb dX7_replace_58 rfl (lv_at hl 2 rfl) ?_
          obtain ⟨hi_17, hf⟩ := ix_inv hf
          obtain ⟨v_17, e_17, hf⟩ := lt_inv hf
          refine al_X_45 hx hb hK hC hi_17 e_17 dX7_replace_59 ?_
          refine lv_iload_n hx hb dX7_replace_60 rfl (lv_at hl 3 rfl) ?_
          refine lv_iload_n hx hb dX7_replace_61 rfl (lv_at hl 4 rfl) ?_
          refine lv_iload hx hb dX7_replace_62 (lv_at hl 5 rfl) ?_
          refine lv_iconst (v := 1) hx hb dX7_replace_64 (by decide) ?_
          refine lv_iadd hx hb dX7_replace_65 ?_
          obtain ⟨v_18, s_18, hc_18, hf⟩ := calv_inv hf
          refine cc_Vi (h_X7_replace hc_18 l) hx hb hml hta hown hK hN hV hA hC hRc hRs (by omega) (by omega) wq_183 (q := 42) (ci := 7) rfl rfl wq_184 wq_185 wq_124 wq_181 hd_X7_replace (As := [.int v_17, .int x2, .int x3, .int (x4 + 1)]) (rest := []) rfl rfl hl.1 rfl dX7_replace_66 (fun H locs hC => ?_)
          refine lv_istore (lv' := [(6, .int v_18), (5, .int v_16), (0, .ref (o 42)), (1, .int x1), (2, .int x2), (3, .int x3), (4, .int x4)]) hx hb dX7_replace_69 hl (by decide) rfl (fun ls hl => ?_)
          refine lv_aload_n hx hb dX7_replace_71 rfl (lv_at hl 2 rfl) ?_
          refine lv_aload_n hx hb dX7_replace_72 rfl (lv_at hl 2 rfl) ?_
          refine gt_X7_9_pool hx hb hta hown hK hC dX7_replace_73 ?_
          refine lv_iload_n hx hb dX7_replace_76 rfl (lv_at hl 3 rfl) ?_
          obtain ⟨hi_19, hf⟩ := ix_inv hf
          obtain ⟨v_19, e_19, hf⟩ := lt_inv hf
          refine al_X_43 hx hb hK hC hi_19 e_19 dX7_replace_77 ?_
          refine lv_iload hx hb dX7_replace_78 (lv_at hl 1 rfl) ?_
          refine lv_iload hx hb dX7_replace_80 (lv_at hl 0 rfl) ?_
          obtain ⟨v_20, s_20, hc_20, hf⟩ := calv_inv hf
          refine cc_Vi (r_X7_make (D := D) (y := y) (o := o) (ad := ad) (av := av) hc_20 l) hx hb hml hta hown hK hN hV hA hC hRc hRs (by omega) (by omega) wq_186 (q := 42) (ci := 7) rfl rfl wq_122 wq_123 wq_124 wq_103 hd_X7_make (As := [.int v_19, .int v_16, .int v_18]) (rest := []) rfl rfl hl.1 rfl dX7_replace_82 (fun H locs hC => ?_)
          exact hret _ _ _ _ _ _ (rv_inv hf).1 (congrArg (WX y o) (rv_inv hf).2) rfl dX7_replace_85 hC
      · have hf := it_t c_4 hf
        refine lv_iload_n hx hb dX7_replace_21 rfl (lv_at hl 1 rfl) ?_
        exact hret _ _ _ _ _ _ (rv_inv hf).1 (congrArg (WX y o) (rv_inv hf).2) rfl dX7_replace_22 hC
theorem r_X7_replace (d : Nat) {D : va_G} {y : Nat → ClassId} {o : Nat → Nat} {ad av : Nat → Nat} {x1 : Int32} {x2 : Int32} {x3 : Int32} {x4 : Int32} {σ : Sto} {σ2 : Sto} {v : Int32} (hf : f_X7_replace d x1 x2 x3 x4 σ = some (v, σ2)) (l : Launch) (sz : Nat) : Met l yX7_replace (Cond.code yX7_replace cX7_replace 7 (some .int) :: ALW) { frames := d + 1, cells := 0, slots := 0, locals := d * 26 + 24 } (va_Pc [.ref (o 42), .int x1, .int x2, .int x3, .int x4] (PZ D y ad av (WX y o σ) sz)) (QZi D (WX y o σ) v (WX y o σ2) sz) 0 0 (va_A (WX y o σ) sz) := (rg_X7_replace d) hf l sz

set_option maxHeartbeats 8000000 in
set_option maxRecDepth 100000 in
theorem r_X1_replaceAbove {D : va_G} {y : Nat → ClassId} {o : Nat → Nat} {ad av : Nat → Nat} {x1 : Int32} {x2 : Int32} {x3 : Int32} {σ : Sto} {σ2 : Sto} (hf : f_X1_replaceAbove x1 x2 x3 σ = some σ2) (l : Launch) (sz : Nat) : Met l yX1_replaceAbove (Cond.code yX1_replaceAbove cX1_replaceAbove 5 none :: ALW) { frames := 252, cells := 0, slots := 0, locals := 6550 } (va_Pc [.ref (o 48), .int x1, .int x2, .int x3] (PZ D y ad av (WX y o σ) sz)) (QZv D (WX y o σ) (WX y o σ2) sz) 0 0 (va_A (WX y o σ) sz) := by
  refine met_v (by decide) (Nat.le_of_ble_eq_true rfl) ?_
  intro p e R s m args below meth c Q A ls hx hb hml hta hown hRc hRs hRf hRl hN hK hV hA hret hC hl
  have hl : lv_has ls 5 [(0, .ref (o 48)), (1, .int x1), (2, .int x2), (3, .int x3)] := hl
  unfold f_X1_replaceAbove at hf
  refine lv_iload_n hx hb dX1_replaceAbove_0 rfl (lv_at hl 2 rfl) ?_
  refine lv_iconst (v := 1) hx hb dX1_replaceAbove_1 (by decide) ?_
  refine lv_iadd hx hb dX1_replaceAbove_2 ?_
  obtain ⟨x4_1, e_1, hf⟩ := lt_inv hf
  refine nmi e_1 ?_
  refine lv_istore (lv' := [(4, .int x4_1), (0, .ref (o 48)), (1, .int x1), (2, .int x2), (3, .int x3)]) hx hb dX1_replaceAbove_3 hl (by decide) rfl (fun ls hl => ?_)
  refine itr_inv2 (P := fun (x4_2 : Int32) (s_2 : Sto) => ∀ (H : Heap) (locs : List Loc) (ls : Array Slot), CZ D A s H locs (WX y o s_2) → lv_has ls 5 [(0, .ref (o 48)), (1, .int x1), (2, .int x2), (3, .int x3), (4, .int x4_2)] → W p l e R s m args below meth c H locs 0 0 Q (F0 m 5 ls [])) hf ?_ _ _ _ hC (lv_sub hl [1, 2, 3, 4, 0] rfl)
  intro a_5 x4_2 s_2 ha_5 hf H locs ls hC hl
  refine lv_iload hx hb dX1_replaceAbove_5 (lv_at hl 4 rfl) ?_
  refine lv_aload_n hx hb dX1_replaceAbove_7 rfl (lv_at hl 0 rfl) ?_
  refine gt_X1_59_lifted hx hb hta hown hK hC dX1_replaceAbove_8 ?_
  refine lv_icmp_ge (tgt := 44) hx hb dX1_replaceAbove_11 (by decide) (fun c_3 => ?_) (fun c_3 => ?_)
  · have hf := it_t c_3 hf
    refine lv_aload_n hx hb dX1_replaceAbove_44 rfl (lv_at hl 0 rfl) ?_
    refine gt_X1_24_lifted hx hb hta hown hK hC dX1_replaceAbove_45 ?_
    refine lv_iload_n hx hb dX1_replaceAbove_48 rfl (lv_at hl 1 rfl) ?_
    obtain ⟨hi_4, hf⟩ := ix_inv hf
    obtain ⟨v_4, e_4, hf⟩ := lt_inv hf
    refine al_X_53 hx hb hK hC hi_4 e_4 dX1_replaceAbove_49 ?_
    refine lv_iconst (v := (-1)) hx hb dX1_replaceAbove_50 (by decide) ?_
    refine lv_icmp_eq (tgt := 76) hx hb dX1_replaceAbove_51 (by decide) (fun c_5 => ?_) (fun c_5 => ?_)
    · have hf := it_t c_5 hf
      exact hret _ _ _ _ _ (congrArg (WX y o) (Option.some.inj hf)) dX1_replaceAbove_76 hC
    · have hf := it_f c_5 hf
      refine lv_aload_n hx hb dX1_replaceAbove_54 rfl (lv_at hl 0 rfl) ?_
      refine gt_X1_24_lifted hx hb hta hown hK hC dX1_replaceAbove_55 ?_
      refine lv_iload_n hx hb dX1_replaceAbove_58 rfl (lv_at hl 1 rfl) ?_
      refine lv_aload_n hx hb dX1_replaceAbove_59 rfl (lv_at hl 0 rfl) ?_
      refine gt_X1_42_lifted hx hb hta hown hK hC dX1_replaceAbove_60 ?_
      refine lv_aload_n hx hb dX1_replaceAbove_63 rfl (lv_at hl 0 rfl) ?_
      refine gt_X1_24_lifted hx hb hta hown hK hC dX1_replaceAbove_64 ?_
      refine lv_iload_n hx hb dX1_replaceAbove_67 rfl (lv_at hl 1 rfl) ?_
      obtain ⟨hi_6, hf⟩ := ix_inv hf
      obtain ⟨v_6, e_6, hf⟩ := lt_inv hf
      refine al_X_53 hx hb hK hC hi_6 e_6 dX1_replaceAbove_68 ?_
      refine lv_iload_n hx hb dX1_replaceAbove_69 rfl (lv_at hl 2 rfl) ?_
      refine lv_iload_n hx hb dX1_replaceAbove_70 rfl (lv_at hl 3 rfl) ?_
      refine lv_iconst (v := 0) hx hb dX1_replaceAbove_71 (by decide) ?_
      obtain ⟨v_7, s_7, hc_7, hf⟩ := calv_inv hf
      refine cc_ViN (r_X7_replace 250 (D := D) (y := y) (o := o) (ad := ad) (av := av) hc_7 l) hx hb hml hta hown hK hN hV hA hC hRc hRs (by omega) (by omega) (nw_X1_155 hN) (q := 42) (ci := 7) rfl rfl wq_184 wq_185 wq_124 wq_181 hd_X7_replace (As := [.int v_6, .int x2, .int x3, .int 0]) (rest := [.int x1, .ref (o 53)]) rfl rfl hl.1 rfl dX1_replaceAbove_72 (fun H locs hC => ?_)
      obtain ⟨hi_8, hf⟩ := ix_inv hf
      obtain ⟨s_8, e_8, hf⟩ := lt_inv hf
      refine as_X_53 hx hb hK hC hi_8 e_8 dX1_replaceAbove_75 (fun H locs hC => ?_)
      exact hret _ _ _ _ _ (congrArg (WX y o) (Option.some.inj hf)) dX1_replaceAbove_76 hC
  · have hf := it_f c_3 hf
    refine lv_aload_n hx hb dX1_replaceAbove_14 rfl (lv_at hl 0 rfl) ?_
    refine gt_X1_27_lifted hx hb hta hown hK hC dX1_replaceAbove_15 ?_
    refine lv_iload hx hb dX1_replaceAbove_18 (lv_at hl 4 rfl) ?_
    refine lv_aload_n hx hb dX1_replaceAbove_20 rfl (lv_at hl 0 rfl) ?_
    refine gt_X1_42_lifted hx hb hta hown hK hC dX1_replaceAbove_21 ?_
    refine lv_aload_n hx hb dX1_replaceAbove_24 rfl (lv_at hl 0 rfl) ?_
    refine gt_X1_27_lifted hx hb hta hown hK hC dX1_replaceAbove_25 ?_
    refine lv_iload hx hb dX1_replaceAbove_28 (lv_at hl 4 rfl) ?_
    obtain ⟨hi_9, hf⟩ := ix_inv hf
    obtain ⟨v_9, e_9, hf⟩ := lt_inv hf
    refine al_X_54 hx hb hK hC hi_9 e_9 dX1_replaceAbove_30 ?_
    refine lv_iload_n hx hb dX1_replaceAbove_31 rfl (lv_at hl 2 rfl) ?_
    refine lv_iload_n hx hb dX1_replaceAbove_32 rfl (lv_at hl 3 rfl) ?_
    refine lv_iconst (v := 0) hx hb dX1_replaceAbove_33 (by decide) ?_
    obtain ⟨v_10, s_10, hc_10, hf⟩ := calv_inv hf
    refine cc_ViN (r_X7_replace 250 (D := D) (y := y) (o := o) (ad := ad) (av := av) hc_10 l) hx hb hml hta hown hK hN hV hA hC hRc hRs (by omega) (by omega) (nw_X1_155 hN) (q := 42) (ci := 7) rfl rfl wq_184 wq_185 wq_124 wq_181 hd_X7_replace (As := [.int v_9, .int x2, .int x3, .int 0]) (rest := [.int x4_2, .ref (o 54)]) rfl rfl hl.1 rfl dX1_replaceAbove_34 (fun H locs hC => ?_)
    obtain ⟨hi_11, hf⟩ := ix_inv hf
    obtain ⟨s_11, e_11, hf⟩ := lt_inv hf
    refine as_X_54 hx hb hK hC hi_11 e_11 dX1_replaceAbove_37 (fun H locs hC => ?_)
    obtain ⟨x4_12, e_12, hf⟩ := lt_inv hf
    refine lv_iinc (v := x4_12) (lv' := [(4, .int x4_12), (0, .ref (o 48)), (1, .int x1), (2, .int x2), (3, .int x3)]) hx hb dX1_replaceAbove_38 hl (k := 4) rfl e_12.symm (by decide) rfl (fun ls hl => ?_)
    refine lv_goto (tgt := 5) hx hb dX1_replaceAbove_41 (by decide) ?_
    exact ha_5 _ _ hf _ _ _ hC (lv_sub hl [1, 2, 3, 4, 0] rfl)

set_option maxHeartbeats 8000000 in
set_option maxRecDepth 100000 in
theorem r_X1_handOver {D : va_G} {y : Nat → ClassId} {o : Nat → Nat} {ad av : Nat → Nat} {x1 : Int32} {σ : Sto} {σ2 : Sto} (hf : f_X1_handOver x1 σ = some σ2) (l : Launch) (sz : Nat) : Met l yX1_handOver (Cond.code yX1_handOver cX1_handOver 4 none :: ALW) { frames := 253, cells := 0, slots := 0, locals := 6574 } (va_Pc [.ref (o 48), .int x1] (PZ D y ad av (WX y o σ) sz)) (QZv D (WX y o σ) (WX y o σ2) sz) 0 0 (va_A (WX y o σ) sz) := by
  refine met_v (by decide) (Nat.le_of_ble_eq_true rfl) ?_
  intro p e R s m args below meth c Q A ls hx hb hml hta hown hRc hRs hRf hRl hN hK hV hA hret hC hl
  have hl : lv_has ls 4 [(0, .ref (o 48)), (1, .int x1)] := hl
  unfold f_X1_handOver at hf
  refine lv_iconst (v := 0) hx hb dX1_handOver_0 (by decide) ?_
  refine lv_istore_n (lv' := [(2, .int 0), (0, .ref (o 48)), (1, .int x1)]) hx hb dX1_handOver_1 rfl hl (by decide) rfl (fun ls hl => ?_)
  refine itr_inv2 (P := fun (x2_1 : Int32) (s_1 : Sto) => ∀ (H : Heap) (locs : List Loc) (ls : Array Slot), CZ D A s H locs (WX y o s_1) → lv_has ls 4 [(0, .ref (o 48)), (1, .int x1), (2, .int x2_1)] → W p l e R s m args below meth c H locs 0 0 Q (F0 m 2 ls [])) hf ?_ _ _ _ hC (lv_sub hl [1, 2, 0] rfl)
  intro a_2 x2_1 s_1 ha_2 hf H locs ls hC hl
  refine lv_iload_n hx hb dX1_handOver_2 rfl (lv_at hl 2 rfl) ?_
  refine lv_aload_n hx hb dX1_handOver_3 rfl (lv_at hl 0 rfl) ?_
  refine gt_X1_59_lifted hx hb hta hown hK hC dX1_handOver_4 ?_
  refine lv_icmp_ge (tgt := 70) hx hb dX1_handOver_7 (by decide) (fun c_2 => ?_) (fun c_2 => ?_)
  · have hf := it_t c_2 hf
    refine lv_aload_n hx hb dX1_handOver_70 rfl (lv_at hl 0 rfl) ?_
    refine gt_X1_24_lifted hx hb hta hown hK hC dX1_handOver_71 ?_
    refine lv_iload_n hx hb dX1_handOver_74 rfl (lv_at hl 1 rfl) ?_
    obtain ⟨hi_3, hf⟩ := ix_inv hf
    obtain ⟨v_3, e_3, hf⟩ := lt_inv hf
    refine al_X_53 hx hb hK hC hi_3 e_3 dX1_handOver_75 ?_
    refine lv_iconst (v := (-1)) hx hb dX1_handOver_76 (by decide) ?_
    refine lv_icmp_eq (tgt := 112) hx hb dX1_handOver_77 (by decide) (fun c_4 => ?_) (fun c_4 => ?_)
    · have hf := it_t c_4 hf
      exact hret _ _ _ _ _ (congrArg (WX y o) (Option.some.inj hf)) dX1_handOver_112 hC
    · have hf := it_f c_4 hf
      refine lv_aload_n hx hb dX1_handOver_80 rfl (lv_at hl 0 rfl) ?_
      refine gt_X1_42_lifted hx hb hta hown hK hC dX1_handOver_81 ?_
      refine lv_aload_n hx hb dX1_handOver_84 rfl (lv_at hl 0 rfl) ?_
      refine gt_X1_24_lifted hx hb hta hown hK hC dX1_handOver_85 ?_
      refine lv_iload_n hx hb dX1_handOver_88 rfl (lv_at hl 1 rfl) ?_
      obtain ⟨hi_5, hf⟩ := ix_inv hf
      obtain ⟨v_5, e_5, hf⟩ := lt_inv hf
      refine al_X_53 hx hb hK hC hi_5 e_5 dX1_handOver_89 ?_
      obtain ⟨v_6, hc_6, hf⟩ := calp_inv hf
      refine cc_Vi (r_X7_hasEffects (D := D) (y := y) (o := o) (ad := ad) (av := av) hc_6 l) hx hb hml hta hown hK hN hV hA hC hRc hRs (by omega) (by omega) wq_135 (q := 42) (ci := 7) rfl rfl wq_136 wq_137 wq_124 wq_134 hd_X7_hasEffects (As := [.int v_5]) (rest := []) rfl rfl hl.1 rfl dX1_handOver_90 (fun H locs hC => ?_)
      refine lv_if_eq (tgt := 112) hx hb dX1_handOver_93 (by decide) (fun c_7 => ?_) (fun c_7 => ?_)
      · have hf := it_t c_7 hf
        exact hret _ _ _ _ _ (congrArg (WX y o) (Option.some.inj hf)) dX1_handOver_112 hC
      · have hf := it_f c_7 hf
        refine lv_aload_n hx hb dX1_handOver_96 rfl (lv_at hl 0 rfl) ?_
        refine gt_X1_24_lifted hx hb hta hown hK hC dX1_handOver_97 ?_
        refine lv_iload_n hx hb dX1_handOver_100 rfl (lv_at hl 1 rfl) ?_
        refine lv_aload_n hx hb dX1_handOver_101 rfl (lv_at hl 0 rfl) ?_
        refine lv_aload_n hx hb dX1_handOver_102 rfl (lv_at hl 0 rfl) ?_
        refine gt_X1_24_lifted hx hb hta hown hK hC dX1_handOver_103 ?_
        refine lv_iload_n hx hb dX1_handOver_106 rfl (lv_at hl 1 rfl) ?_
        obtain ⟨hi_8, hf⟩ := ix_inv hf
        obtain ⟨v_8, e_8, hf⟩ := lt_inv hf
        refine al_X_53 hx hb hK hC hi_8 e_8 dX1_handOver_107 ?_
        obtain ⟨v_9, s_9, hc_9, hf⟩ := calv_inv hf
        refine cc_Vi (r_X1_putAside (D := D) (y := y) (o := o) (ad := ad) (av := av) hc_9 l) hx hb hml hta hown hK hN hV hA hC hRc hRs (by omega) (by omega) wq_126 (q := 48) (ci := 1) rfl rfl wq_127 wq_128 wq_120 wq_115 hd_X1_putAside (As := [.int v_8]) (rest := [.int x1, .ref (o 53)]) rfl rfl hl.1 rfl dX1_handOver_108 (fun H locs hC => ?_)
        obtain ⟨hi_10, hf⟩ := ix_inv hf
        obtain ⟨s_10, e_10, hf⟩ := lt_inv hf
        refine as_X_53 hx hb hK hC hi_10 e_10 dX1_handOver_111 (fun H locs hC => ?_)
        exact hret _ _ _ _ _ (congrArg (WX y o) (Option.some.inj hf)) dX1_handOver_112 hC
  · have hf := it_f c_2 hf
    refine lv_aload_n hx hb dX1_handOver_10 rfl (lv_at hl 0 rfl) ?_
    refine gt_X1_42_lifted hx hb hta hown hK hC dX1_handOver_11 ?_
    refine lv_bipush (v := 84) hx hb dX1_handOver_14 (by decide) ?_
    refine lv_iload_n hx hb dX1_handOver_16 rfl (lv_at hl 2 rfl) ?_
    refine lv_iconst (v := 0) hx hb dX1_handOver_17 (by decide) ?_
    obtain ⟨v_11, s_11, hc_11, hf⟩ := calv_inv hf
    refine cc_Vi (r_X7_make (D := D) (y := y) (o := o) (ad := ad) (av := av) hc_11 l) hx hb hml hta hown hK hN hV hA hC hRc hRs (by omega) (by omega) wq_121 (q := 42) (ci := 7) rfl rfl wq_122 wq_123 wq_124 wq_103 hd_X7_make (As := [.int 84, .int x2_1, .int 0]) (rest := []) rfl rfl hl.1 rfl dX1_handOver_18 (fun H locs hC => ?_)
    refine lv_istore_n (lv' := [(3, .int v_11), (0, .ref (o 48)), (1, .int x1), (2, .int x2_1)]) hx hb dX1_handOver_21 rfl hl (by decide) rfl (fun ls hl => ?_)
    refine lv_aload_n hx hb dX1_handOver_22 rfl (lv_at hl 1 rfl) ?_
    refine gt_X1_27_lifted hx hb hta hown hK hC dX1_handOver_23 ?_
    refine lv_iload_n hx hb dX1_handOver_26 rfl (lv_at hl 3 rfl) ?_
    obtain ⟨hi_12, hf⟩ := ix_inv hf
    obtain ⟨v_12, e_12, hf⟩ := lt_inv hf
    refine al_X_54 hx hb hK hC hi_12 e_12 dX1_handOver_27 ?_
    refine lv_iload_n hx hb dX1_handOver_28 rfl (lv_at hl 0 rfl) ?_
    obtain ⟨k_64, hk_64, hf⟩ := jn_inv1 hf
    have hj_64 : ∀ (s_13 : Sto) (H : Heap) (locs : List Loc) (ls : Array Slot), k_64 s_13 = some σ2 → CZ D A s H locs (WX y o s_13) → lv_has ls 4 [(0, .ref (o 48)), (1, .int x1), (2, .int x2_1)] → W p l e R s m args below meth c H locs 0 0 Q (F0 m 64 ls []) := by
      intro s_13 H locs ls hf hC hl
      have hf := hk_64 _ hf
      obtain ⟨x2_14, e_14, hf⟩ := lt_inv hf
      refine lv_iinc (v := x2_14) (lv' := [(2, .int x2_14), (0, .ref (o 48)), (1, .int x1)]) hx hb dX1_handOver_64 hl (k := 2) rfl e_14.symm (by decide) rfl (fun ls hl => ?_)
      refine lv_goto (tgt := 2) hx hb dX1_handOver_67 (by decide) ?_
      exact ha_2 _ _ hf _ _ _ hC (lv_sub hl [1, 2, 0] rfl)
    refine lv_icmp_eq (tgt := 64) hx hb dX1_handOver_29 (by decide) (fun c_15 => ?_) (fun c_15 => ?_)
    · have hf := it_t c_15 hf
      exact hj_64 _ _ _ _ hf hC (lv_sub hl [1, 2, 3] rfl)
    · have hf := it_f c_15 hf
      refine lv_aload_n hx hb dX1_handOver_32 rfl (lv_at hl 1 rfl) ?_
      refine lv_iload_n hx hb dX1_handOver_33 rfl (lv_at hl 2 rfl) ?_
      refine lv_iload_n hx hb dX1_handOver_34 rfl (lv_at hl 3 rfl) ?_
      obtain ⟨v_16, hc_16, hf⟩ := calp_inv hf
      refine cc_Vi (r_X1_isNeededAbove (D := D) (y := y) (o := o) (ad := ad) (av := av) hc_16 l) hx hb hml hta hown hK hN hV hA hC hRc hRs (by omega) (by omega) wq_189 (q := 48) (ci := 1) rfl rfl wq_190 wq_191 wq_120 wq_177 hd_X1_isNeededAbove (As := [.int x1, .int x2_1]) (rest := []) rfl rfl hl.1 rfl dX1_handOver_35 (fun H locs hC => ?_)
      obtain ⟨k_52, hk_52, hf⟩ := jn_inv1 hf
      have hj_52 : ∀ (s_17 : Sto) (H : Heap) (locs : List Loc) (ls : Array Slot), k_52 s_17 = some σ2 → CZ D A s H locs (WX y o s_17) → lv_has ls 4 [(0, .ref (o 48)), (1, .int x1), (2, .int x2_1)] → W p l e R s m args below meth c H locs 0 0 Q (F0 m 52 ls []) := by
        intro s_17 H locs ls hf hC hl
        have hf := hk_52 _ hf
        refine lv_aload_n hx hb dX1_handOver_52 rfl (lv_at hl 0 rfl) ?_
        refine lv_iconst (v := 1) hx hb dX1_handOver_53 (by decide) ?_
        refine lv_iload_n hx hb dX1_handOver_54 rfl (lv_at hl 2 rfl) ?_
        refine lv_aload_n hx hb dX1_handOver_55 rfl (lv_at hl 0 rfl) ?_
        refine gt_X1_27_lifted hx hb hta hown hK hC dX1_handOver_56 ?_
        refine lv_iload_n hx hb dX1_handOver_59 rfl (lv_at hl 2 rfl) ?_
        obtain ⟨hi_18, hf⟩ := ix_inv hf
        obtain ⟨v_18, e_18, hf⟩ := lt_inv hf
        refine al_X_54 hx hb hK hC hi_18 e_18 dX1_handOver_60 ?_
        obtain ⟨s_19, hc_19, hf⟩ := cals_inv hf
        refine cc_Vv (r_X1_add (D := D) (y := y) (o := o) (ad := ad) (av := av) hc_19 l) hx hb hml hta hown hK hN hV hA hC hRc hRs (by omega) (by omega) wq_117 (q := 48) (ci := 1) rfl rfl wq_118 wq_119 wq_120 wq_113 hd_X1_add (As := [.int 1, .int x2_1, .int v_18]) (rest := []) rfl rfl hl.1 rfl dX1_handOver_61 (fun H locs hC => ?_)
        exact hj_64 _ _ _ _ hf hC hl
      refine lv_if_eq (tgt := 52) hx hb dX1_handOver_38 (by decide) (fun c_20 => ?_) (fun c_20 => ?_)
      · have hf := it_t c_20 hf
        exact hj_52 _ _ _ _ hf hC (lv_sub hl [1, 2, 3] rfl)
      · have hf := it_f c_20 hf
        refine lv_aload_n hx hb dX1_handOver_41 rfl (lv_at hl 1 rfl) ?_
        refine lv_iload_n hx hb dX1_handOver_42 rfl (lv_at hl 2 rfl) ?_
        refine lv_iload_n hx hb dX1_handOver_43 rfl (lv_at hl 3 rfl) ?_
        refine lv_aload_n hx hb dX1_handOver_44 rfl (lv_at hl 1 rfl) ?_
        refine lv_iload_n hx hb dX1_handOver_45 rfl (lv_at hl 0 rfl) ?_
        obtain ⟨v_21, s_21, hc_21, hf⟩ := calv_inv hf
        refine cc_Vi (r_X1_putAside (D := D) (y := y) (o := o) (ad := ad) (av := av) hc_21 l) hx hb hml hta hown hK hN hV hA hC hRc hRs (by omega) (by omega) wq_126 (q := 48) (ci := 1) rfl rfl wq_127 wq_128 wq_120 wq_115 hd_X1_putAside (As := [.int v_11]) (rest := [.int x2_1, .int x1, .ref (o 48)]) rfl rfl hl.1 rfl dX1_handOver_46 (fun H locs hC => ?_)
        obtain ⟨s_22, hc_22, hf⟩ := cals_inv hf
        refine cc_Vv (r_X1_replaceAbove (D := D) (y := y) (o := o) (ad := ad) (av := av) hc_22 l) hx hb hml hta hown hK hN hV hA hC hRc hRs (by omega) (by omega) wq_192 (q := 48) (ci := 1) rfl rfl wq_193 wq_194 wq_120 wq_188 hd_X1_replaceAbove (As := [.int x1, .int x2_1, .int v_21]) (rest := []) rfl rfl hl.1 rfl dX1_handOver_49 (fun H locs hC => ?_)
        exact hj_52 _ _ _ _ hf hC (lv_sub hl [1, 2, 3] rfl)

set_option maxHeartbeats 8000000 in
set_option maxRecDepth 100000 in
theorem r_X1_pop {D : va_G} {y : Nat → ClassId} {o : Nat → Nat} {ad av : Nat → Nat} {σ : Sto} {σ2 : Sto} {v : Int32} (hf : f_X1_pop σ = some (v, σ2)) (l : Launch) (sz : Nat) : Met l yX1_pop (Cond.code yX1_pop cX1_pop 1 (some .int) :: ALW) { frames := 0, cells := 0, slots := 0, locals := 0 } (va_Pc [.ref (o 48)] (PZ D y ad av (WX y o σ) sz)) (QZi D (WX y o σ) v (WX y o σ2) sz) 0 0 (va_A (WX y o σ) sz) := by
  refine met_i (by decide) (Nat.le_of_ble_eq_true rfl) ?_
  intro p e R s m args below meth c Q A ls hx hb hml hta hown hRc hRs hRf hRl hN hK hV hA hret hC hl
  have hl : lv_has ls 1 [(0, .ref (o 48))] := hl
  unfold f_X1_pop at hf
  refine lv_aload_n hx hb dX1_pop_0 rfl (lv_at hl 0 rfl) ?_
  refine gt_X1_59_lifted hx hb hta hown hK hC dX1_pop_1 ?_
  obtain ⟨k_17, hk_17, hf⟩ := jn_inv1 hf
  have hj_17 : ∀ (s_1 : Sto) (H : Heap) (locs : List Loc) (ls : Array Slot), k_17 s_1 = some (v, σ2) → CZ D A s H locs (WX y o s_1) → lv_has ls 1 [(0, .ref (o 48))] → W p l e R s m args below meth c H locs 0 0 Q (F0 m 17 ls []) := by
    intro s_1 H locs ls hf hC hl
    have hf := hk_17 _ hf
    refine lv_aload_n hx hb dX1_pop_17 rfl (lv_at hl 0 rfl) ?_
    refine gt_X1_27_lifted hx hb hta hown hK hC dX1_pop_18 ?_
    refine lv_aload_n hx hb dX1_pop_21 rfl (lv_at hl 0 rfl) ?_
    refine gt_X1_59_lifted hx hb hta hown hK hC dX1_pop_22 ?_
    obtain ⟨hi_2, hf⟩ := ix_inv hf
    obtain ⟨v_2, e_2, hf⟩ := lt_inv hf
    refine al_X_54 hx hb hK hC hi_2 e_2 dX1_pop_25 ?_
    exact hret _ _ _ _ _ _ (rv_inv hf).1 (congrArg (WX y o) (rv_inv hf).2) rfl dX1_pop_26 hC
  refine lv_if_le (tgt := 17) hx hb dX1_pop_4 (by decide) (fun c_3 => ?_) (fun c_3 => ?_)
  · have hf := it_t c_3 hf
    exact hj_17 _ _ _ _ hf hC hl
  · have hf := it_f c_3 hf
    refine lv_aload_n hx hb dX1_pop_7 rfl (lv_at hl 0 rfl) ?_
    refine lv_dup hx hb dX1_pop_8 rfl ?_
    refine gt_X1_59_lifted hx hb hta hown hK hC dX1_pop_9 ?_
    refine lv_iconst (v := 1) hx hb dX1_pop_12 (by decide) ?_
    refine lv_isub hx hb dX1_pop_13 ?_
    obtain ⟨s_4, e_4, hf⟩ := lt_inv hf
    refine pt_X1_59_lifted hx hb hta hown hK hC e_4 dX1_pop_14 (fun H locs hC => ?_)
    exact hj_17 _ _ _ _ hf hC hl

set_option maxHeartbeats 8000000 in
set_option maxRecDepth 100000 in
theorem r_X1_push {D : va_G} {y : Nat → ClassId} {o : Nat → Nat} {ad av : Nat → Nat} {x1 : Int32} {σ : Sto} {σ2 : Sto} (hf : f_X1_push x1 σ = some σ2) (l : Launch) (sz : Nat) : Met l yX1_push (Cond.code yX1_push cX1_push 2 none :: ALW) { frames := 0, cells := 0, slots := 0, locals := 0 } (va_Pc [.ref (o 48), .int x1] (PZ D y ad av (WX y o σ) sz)) (QZv D (WX y o σ) (WX y o σ2) sz) 0 0 (va_A (WX y o σ) sz) := by
  refine met_v (by decide) (Nat.le_of_ble_eq_true rfl) ?_
  intro p e R s m args below meth c Q A ls hx hb hml hta hown hRc hRs hRf hRl hN hK hV hA hret hC hl
  have hl : lv_has ls 2 [(0, .ref (o 48)), (1, .int x1)] := hl
  unfold f_X1_push at hf
  refine lv_aload_n hx hb dX1_push_0 rfl (lv_at hl 0 rfl) ?_
  refine gt_X1_59_lifted hx hb hta hown hK hC dX1_push_1 ?_
  refine lv_aload_n hx hb dX1_push_4 rfl (lv_at hl 0 rfl) ?_
  refine gt_X1_27_lifted hx hb hta hown hK hC dX1_push_5 ?_
  refine an_X_54 hx hb hK hC dX1_push_8 ?_
  refine lv_icmp_ge (tgt := 32) hx hb dX1_push_9 (by decide) (fun c_1 => ?_) (fun c_1 => ?_)
  · have hf := it_t c_1 hf
    exact hret _ _ _ _ _ (congrArg (WX y o) (Option.some.inj hf)) dX1_push_32 hC
  · have hf := it_f c_1 hf
    refine lv_aload_n hx hb dX1_push_12 rfl (lv_at hl 0 rfl) ?_
    refine gt_X1_27_lifted hx hb hta hown hK hC dX1_push_13 ?_
    refine lv_aload_n hx hb dX1_push_16 rfl (lv_at hl 0 rfl) ?_
    refine gt_X1_59_lifted hx hb hta hown hK hC dX1_push_17 ?_
    refine lv_iload_n hx hb dX1_push_20 rfl (lv_at hl 1 rfl) ?_
    obtain ⟨hi_2, hf⟩ := ix_inv hf
    obtain ⟨s_2, e_2, hf⟩ := lt_inv hf
    refine as_X_54 hx hb hK hC hi_2 e_2 dX1_push_21 (fun H locs hC => ?_)
    refine lv_aload_n hx hb dX1_push_22 rfl (lv_at hl 0 rfl) ?_
    refine lv_dup hx hb dX1_push_23 rfl ?_
    refine gt_X1_59_lifted hx hb hta hown hK hC dX1_push_24 ?_
    refine lv_iconst (v := 1) hx hb dX1_push_27 (by decide) ?_
    refine lv_iadd hx hb dX1_push_28 ?_
    obtain ⟨s_3, e_3, hf⟩ := lt_inv hf
    refine pt_X1_59_lifted hx hb hta hown hK hC e_3 dX1_push_29 (fun H locs hC => ?_)
    exact hret _ _ _ _ _ (congrArg (WX y o) (Option.some.inj hf)) dX1_push_32 hC

set_option maxHeartbeats 8000000 in
set_option maxRecDepth 100000 in
theorem r_X1_spill {D : va_G} {y : Nat → ClassId} {o : Nat → Nat} {ad av : Nat → Nat} {x1 : Int32} {σ : Sto} {σ2 : Sto} (hf : f_X1_spill x1 σ = some σ2) (l : Launch) (sz : Nat) : Met l yX1_spill (Cond.code yX1_spill cX1_spill 3 none :: ALW) { frames := 2, cells := 0, slots := 0, locals := 46 } (va_Pc [.ref (o 48), .int x1] (PZ D y ad av (WX y o σ) sz)) (QZv D (WX y o σ) (WX y o σ2) sz) 0 0 (va_A (WX y o σ) sz) := by
  refine met_v (by decide) (Nat.le_of_ble_eq_true rfl) ?_
  intro p e R s m args below meth c Q A ls hx hb hml hta hown hRc hRs hRf hRl hN hK hV hA hret hC hl
  have hl : lv_has ls 3 [(0, .ref (o 48)), (1, .int x1)] := hl
  unfold f_X1_spill at hf
  refine lv_iconst (v := 0) hx hb dX1_spill_0 (by decide) ?_
  refine lv_istore_n (lv' := [(2, .int 0), (0, .ref (o 48)), (1, .int x1)]) hx hb dX1_spill_1 rfl hl (by decide) rfl (fun ls hl => ?_)
  refine itr_inv2 (P := fun (x2_1 : Int32) (s_1 : Sto) => ∀ (H : Heap) (locs : List Loc) (ls : Array Slot), CZ D A s H locs (WX y o s_1) → lv_has ls 3 [(0, .ref (o 48)), (1, .int x1), (2, .int x2_1)] → W p l e R s m args below meth c H locs 0 0 Q (F0 m 2 ls [])) hf ?_ _ _ _ hC (lv_sub hl [1, 2, 0] rfl)
  intro a_2 x2_1 s_1 ha_2 hf H locs ls hC hl
  refine lv_iload_n hx hb dX1_spill_2 rfl (lv_at hl 2 rfl) ?_
  refine lv_aload_n hx hb dX1_spill_3 rfl (lv_at hl 0 rfl) ?_
  refine gt_X1_59_lifted hx hb hta hown hK hC dX1_spill_4 ?_
  refine lv_icmp_ge (tgt := 51) hx hb dX1_spill_7 (by decide) (fun c_2 => ?_) (fun c_2 => ?_)
  · have hf := it_t c_2 hf
    exact hret _ _ _ _ _ (congrArg (WX y o) (Option.some.inj hf)) dX1_spill_51 hC
  · have hf := it_f c_2 hf
    refine lv_aload_n hx hb dX1_spill_10 rfl (lv_at hl 0 rfl) ?_
    refine gt_X1_42_lifted hx hb hta hown hK hC dX1_spill_11 ?_
    refine gt_X1_131_pool hx hb hta hown hK hC dX1_spill_14 ?_
    refine lv_aload_n hx hb dX1_spill_17 rfl (lv_at hl 0 rfl) ?_
    refine gt_X1_27_lifted hx hb hta hown hK hC dX1_spill_18 ?_
    refine lv_iload_n hx hb dX1_spill_21 rfl (lv_at hl 2 rfl) ?_
    obtain ⟨hi_3, hf⟩ := ix_inv hf
    obtain ⟨v_3, e_3, hf⟩ := lt_inv hf
    refine al_X_54 hx hb hK hC hi_3 e_3 dX1_spill_22 ?_
    obtain ⟨hi_4, hf⟩ := ix_inv hf
    obtain ⟨v_4, e_4, hf⟩ := lt_inv hf
    refine al_X_47 hx hb hK hC hi_4 e_4 dX1_spill_23 ?_
    refine lv_iload_n hx hb dX1_spill_24 rfl (lv_at hl 1 rfl) ?_
    refine lv_iand hx hb dX1_spill_25 ?_
    obtain ⟨k_45, hk_45, hf⟩ := jn_inv1 hf
    have hj_45 : ∀ (s_5 : Sto) (H : Heap) (locs : List Loc) (ls : Array Slot), k_45 s_5 = some σ2 → CZ D A s H locs (WX y o s_5) → lv_has ls 3 [(0, .ref (o 48)), (1, .int x1), (2, .int x2_1)] → W p l e R s m args below meth c H locs 0 0 Q (F0 m 45 ls []) := by
      intro s_5 H locs ls hf hC hl
      have hf := hk_45 _ hf
      obtain ⟨x2_6, e_6, hf⟩ := lt_inv hf
      refine lv_iinc (v := x2_6) (lv' := [(2, .int x2_6), (0, .ref (o 48)), (1, .int x1)]) hx hb dX1_spill_45 hl (k := 2) rfl e_6.symm (by decide) rfl (fun ls hl => ?_)
      refine lv_goto (tgt := 2) hx hb dX1_spill_48 (by decide) ?_
      exact ha_2 _ _ hf _ _ _ hC (lv_sub hl [1, 2, 0] rfl)
    refine lv_if_eq (tgt := 45) hx hb dX1_spill_26 (by decide) (fun c_7 => ?_) (fun c_7 => ?_)
    · have hf := it_t c_7 hf
      exact hj_45 _ _ _ _ hf hC hl
    · have hf := it_f c_7 hf
      refine lv_aload_n hx hb dX1_spill_29 rfl (lv_at hl 0 rfl) ?_
      refine gt_X1_27_lifted hx hb hta hown hK hC dX1_spill_30 ?_
      refine lv_iload_n hx hb dX1_spill_33 rfl (lv_at hl 2 rfl) ?_
      refine lv_aload_n hx hb dX1_spill_34 rfl (lv_at hl 0 rfl) ?_
      refine lv_aload_n hx hb dX1_spill_35 rfl (lv_at hl 0 rfl) ?_
      refine gt_X1_27_lifted hx hb hta hown hK hC dX1_spill_36 ?_
      refine lv_iload_n hx hb dX1_spill_39 rfl (lv_at hl 2 rfl) ?_
      obtain ⟨hi_8, hf⟩ := ix_inv hf
      obtain ⟨v_8, e_8, hf⟩ := lt_inv hf
      refine al_X_54 hx hb hK hC hi_8 e_8 dX1_spill_40 ?_
      obtain ⟨v_9, s_9, hc_9, hf⟩ := calv_inv hf
      refine cc_Vi (r_X1_putAside (D := D) (y := y) (o := o) (ad := ad) (av := av) hc_9 l) hx hb hml hta hown hK hN hV hA hC hRc hRs (by omega) (by omega) wq_126 (q := 48) (ci := 1) rfl rfl wq_127 wq_128 wq_120 wq_115 hd_X1_putAside (As := [.int v_8]) (rest := [.int x2_1, .ref (o 54)]) rfl rfl hl.1 rfl dX1_spill_41 (fun H locs hC => ?_)
      obtain ⟨hi_10, hf⟩ := ix_inv hf
      obtain ⟨s_10, e_10, hf⟩ := lt_inv hf
      refine as_X_54 hx hb hK hC hi_10 e_10 dX1_spill_44 (fun H locs hC => ?_)
      exact hj_45 _ _ _ _ hf hC hl

set_option maxHeartbeats 8000000 in
set_option maxRecDepth 100000 in
theorem r_X1_twice {D : va_G} {y : Nat → ClassId} {o : Nat → Nat} {ad av : Nat → Nat} {σ : Sto} {σ2 : Sto} (hf : f_X1_twice σ = some σ2) (l : Launch) (sz : Nat) : Met l yX1_twice (Cond.code yX1_twice cX1_twice 2 none :: ALW) { frames := 3, cells := 0, slots := 0, locals := 68 } (va_Pc [.ref (o 48)] (PZ D y ad av (WX y o σ) sz)) (QZv D (WX y o σ) (WX y o σ2) sz) 0 0 (va_A (WX y o σ) sz) := by
  refine met_v (by decide) (Nat.le_of_ble_eq_true rfl) ?_
  intro p e R s m args below meth c Q A ls hx hb hml hta hown hRc hRs hRf hRl hN hK hV hA hret hC hl
  have hl : lv_has ls 2 [(0, .ref (o 48))] := hl
  unfold f_X1_twice at hf
  refine lv_aload_n hx hb dX1_twice_0 rfl (lv_at hl 0 rfl) ?_
  obtain ⟨v_1, s_1, hc_1, hf⟩ := calv_inv hf
  refine cc_Vi (r_X1_pop (D := D) (y := y) (o := o) (ad := ad) (av := av) hc_1 l) hx hb hml hta hown hK hN hV hA hC hRc hRs (by omega) (by omega) wq_141 (q := 48) (ci := 1) rfl rfl wq_142 wq_143 wq_120 wq_112 hd_X1_pop (As := []) (rest := []) rfl rfl hl.1 rfl dX1_twice_1 (fun H locs hC => ?_)
  refine lv_istore_n (lv' := [(1, .int v_1), (0, .ref (o 48))]) hx hb dX1_twice_4 rfl hl (by decide) rfl (fun ls hl => ?_)
  refine lv_aload_n hx hb dX1_twice_5 rfl (lv_at hl 1 rfl) ?_
  refine gt_X1_42_lifted hx hb hta hown hK hC dX1_twice_6 ?_
  refine gt_X1_141_pool hx hb hta hown hK hC dX1_twice_9 ?_
  refine lv_iload_n hx hb dX1_twice_12 rfl (lv_at hl 0 rfl) ?_
  obtain ⟨hi_2, hf⟩ := ix_inv hf
  obtain ⟨v_2, e_2, hf⟩ := lt_inv hf
  refine al_X_43 hx hb hK hC hi_2 e_2 dX1_twice_13 ?_
  refine lv_bipush (v := 107) hx hb dX1_twice_14 (by decide) ?_
  obtain ⟨k_43, hk_43, hf⟩ := jn_inv2 hf
  have hj_43 : ∀ (x1_3 : Int32) (s_3 : Sto) (H : Heap) (locs : List Loc) (ls : Array Slot), k_43 x1_3 s_3 = some σ2 → CZ D A s H locs (WX y o s_3) → lv_has ls 2 [(0, .ref (o 48)), (1, .int x1_3)] → W p l e R s m args below meth c H locs 0 0 Q (F0 m 43 ls []) := by
    intro x1_3 s_3 H locs ls hf hC hl
    have hf := hk_43 _ _ hf
    refine lv_aload_n hx hb dX1_twice_43 rfl (lv_at hl 0 rfl) ?_
    refine lv_iload_n hx hb dX1_twice_44 rfl (lv_at hl 1 rfl) ?_
    obtain ⟨s_4, hc_4, hf⟩ := cals_inv hf
    refine cc_Vv (r_X1_push (D := D) (y := y) (o := o) (ad := ad) (av := av) hc_4 l) hx hb hml hta hown hK hN hV hA hC hRc hRs (by omega) (by omega) wq_147 (q := 48) (ci := 1) rfl rfl wq_148 wq_149 wq_120 wq_110 hd_X1_push (As := [.int x1_3]) (rest := []) rfl rfl hl.1 rfl dX1_twice_45 (fun H locs hC => ?_)
    refine lv_aload_n hx hb dX1_twice_48 rfl (lv_at hl 0 rfl) ?_
    refine lv_iload_n hx hb dX1_twice_49 rfl (lv_at hl 1 rfl) ?_
    obtain ⟨s_5, hc_5, hf⟩ := cals_inv hf
    refine cc_Vv (r_X1_push (D := D) (y := y) (o := o) (ad := ad) (av := av) hc_5 l) hx hb hml hta hown hK hN hV hA hC hRc hRs (by omega) (by omega) wq_147 (q := 48) (ci := 1) rfl rfl wq_148 wq_149 wq_120 wq_110 hd_X1_push (As := [.int x1_3]) (rest := []) rfl rfl hl.1 rfl dX1_twice_50 (fun H locs hC => ?_)
    exact hret _ _ _ _ _ (congrArg (WX y o) (Option.some.inj hf)) dX1_twice_53 hC
  refine lv_icmp_eq (tgt := 43) hx hb dX1_twice_16 (by decide) (fun c_6 => ?_) (fun c_6 => ?_)
  · have hf := it_t c_6 hf
    exact hj_43 _ _ _ _ _ hf hC (lv_sub hl [1, 0] rfl)
  · have hf := it_f c_6 hf
    refine lv_aload_n hx hb dX1_twice_19 rfl (lv_at hl 1 rfl) ?_
    refine gt_X1_42_lifted hx hb hta hown hK hC dX1_twice_20 ?_
    refine lv_iload_n hx hb dX1_twice_23 rfl (lv_at hl 0 rfl) ?_
    obtain ⟨v_7, hc_7, hf⟩ := calp_inv hf
    refine cc_Vi (r_X7_isName (D := D) (y := y) (o := o) (ad := ad) (av := av) hc_7 l) hx hb hml hta hown hK hN hV hA hC hRc hRs (by omega) (by omega) wq_144 (q := 42) (ci := 7) rfl rfl wq_145 wq_146 wq_124 wq_139 hd_X7_isName (As := [.int v_1]) (rest := []) rfl rfl hl.1 rfl dX1_twice_24 (fun H locs hC => ?_)
    refine lv_if_ne (tgt := 43) hx hb dX1_twice_27 (by decide) (fun c_8 => ?_) (fun c_8 => ?_)
    · have hf := it_f c_8 hf
      exact hj_43 _ _ _ _ _ hf hC (lv_sub hl [1, 0] rfl)
    · have hf := it_t c_8 hf
      refine lv_aload_n hx hb dX1_twice_30 rfl (lv_at hl 1 rfl) ?_
      refine lv_sipush (v := 4096) hx hb dX1_twice_31 (by decide) ?_
      obtain ⟨s_9, hc_9, hf⟩ := cals_inv hf
      refine cc_Vv (r_X1_spill (D := D) (y := y) (o := o) (ad := ad) (av := av) hc_9 l) hx hb hml hta hown hK hN hV hA hC hRc hRs (by omega) (by omega) wq_130 (q := 48) (ci := 1) rfl rfl wq_131 wq_132 wq_120 wq_129 hd_X1_spill (As := [.int 4096]) (rest := []) rfl rfl hl.1 rfl dX1_twice_34 (fun H locs hC => ?_)
      refine lv_aload_n hx hb dX1_twice_37 rfl (lv_at hl 1 rfl) ?_
      refine lv_iload_n hx hb dX1_twice_38 rfl (lv_at hl 0 rfl) ?_
      obtain ⟨v_10, s_10, hc_10, hf⟩ := calv_inv hf
      refine cc_Vi (r_X1_putAside (D := D) (y := y) (o := o) (ad := ad) (av := av) hc_10 l) hx hb hml hta hown hK hN hV hA hC hRc hRs (by omega) (by omega) wq_126 (q := 48) (ci := 1) rfl rfl wq_127 wq_128 wq_120 wq_115 hd_X1_putAside (As := [.int v_1]) (rest := []) rfl rfl hl.1 rfl dX1_twice_39 (fun H locs hC => ?_)
      refine lv_istore_n (lv' := [(1, .int v_10), (0, .ref (o 48))]) hx hb dX1_twice_42 rfl hl (by decide) rfl (fun ls hl => ?_)
      exact hj_43 _ _ _ _ _ hf hC (lv_sub hl [1, 0] rfl)

set_option maxHeartbeats 8000000 in
set_option maxRecDepth 100000 in
theorem r_X1_state {D : va_G} {y : Nat → ClassId} {o : Nat → Nat} {ad av : Nat → Nat} {x1 : Int32} {x2 : Int32} {x3 : Int32} {σ : Sto} {σ2 : Sto} (hf : f_X1_state x1 x2 x3 σ = some σ2) (l : Launch) (sz : Nat) : Met l yX1_state (Cond.code yX1_state cX1_state 5 none :: ALW) { frames := 3, cells := 0, slots := 0, locals := 68 } (va_Pc [.ref (o 48), .int x1, .int x2, .int x3] (PZ D y ad av (WX y o σ) sz)) (QZv D (WX y o σ) (WX y o σ2) sz) 0 0 (va_A (WX y o σ) sz) := by
  refine met_v (by decide) (Nat.le_of_ble_eq_true rfl) ?_
  intro p e R s m args below meth c Q A ls hx hb hml hta hown hRc hRs hRf hRl hN hK hV hA hret hC hl
  have hl : lv_has ls 5 [(0, .ref (o 48)), (1, .int x1), (2, .int x2), (3, .int x3)] := hl
  unfold f_X1_state at hf
  refine lv_iload_n hx hb dX1_state_0 rfl (lv_at hl 1 rfl) ?_
  obtain ⟨k_11, hk_11, hf⟩ := jn_inv1 hf
  have hj_11 : ∀ (t0_1 : Int32) (H : Heap) (locs : List Loc) (ls : Array Slot), k_11 t0_1 = some σ2 → CZ D A s H locs (WX y o σ) → lv_has ls 5 [(0, .ref (o 48)), (1, .int x1), (2, .int x2), (3, .int x3)] → W p l e R s m args below meth c H locs 0 0 Q (F0 m 11 ls [.int t0_1]) := by
    intro t0_1 H locs ls hf hC hl
    have hf := hk_11 _ hf
    refine lv_istore (lv' := [(4, .int t0_1), (0, .ref (o 48)), (1, .int x1), (2, .int x2), (3, .int x3)]) hx hb dX1_state_11 hl (by decide) rfl (fun ls hl => ?_)
    refine lv_aload_n hx hb dX1_state_13 rfl (lv_at hl 1 rfl) ?_
    refine lv_sipush (v := 4096) hx hb dX1_state_14 (by decide) ?_
    refine lv_iload hx hb dX1_state_17 (lv_at hl 0 rfl) ?_
    refine lv_ior hx hb dX1_state_19 ?_
    obtain ⟨s_2, hc_2, hf⟩ := cals_inv hf
    refine cc_Vv (r_X1_spill (D := D) (y := y) (o := o) (ad := ad) (av := av) hc_2 l) hx hb hml hta hown hK hN hV hA hC hRc hRs (by omega) (by omega) wq_130 (q := 48) (ci := 1) rfl rfl wq_131 wq_132 wq_120 wq_129 hd_X1_spill (As := [.int ((4096 : Int32) ||| t0_1)]) (rest := []) rfl rfl hl.1 rfl dX1_state_20 (fun H locs hC => ?_)
    refine lv_aload_n hx hb dX1_state_23 rfl (lv_at hl 1 rfl) ?_
    refine lv_iload_n hx hb dX1_state_24 rfl (lv_at hl 2 rfl) ?_
    refine lv_iload_n hx hb dX1_state_25 rfl (lv_at hl 3 rfl) ?_
    refine lv_iload_n hx hb dX1_state_26 rfl (lv_at hl 4 rfl) ?_
    obtain ⟨s_3, hc_3, hf⟩ := cals_inv hf
    refine cc_Vv (r_X1_add (D := D) (y := y) (o := o) (ad := ad) (av := av) hc_3 l) hx hb hml hta hown hK hN hV hA hC hRc hRs (by omega) (by omega) wq_117 (q := 48) (ci := 1) rfl rfl wq_118 wq_119 wq_120 wq_113 hd_X1_add (As := [.int x1, .int x2, .int x3]) (rest := []) rfl rfl hl.1 rfl dX1_state_27 (fun H locs hC => ?_)
    exact hret _ _ _ _ _ (congrArg (WX y o) (Option.some.inj hf)) dX1_state_30 hC
  refine lv_if_ne (tgt := 10) hx hb dX1_state_1 (by decide) (fun c_4 => ?_) (fun c_4 => ?_)
  · have hf := it_f c_4 hf
    refine lv_iconst (v := 0) hx hb dX1_state_10 (by decide) ?_
    exact hj_11 _ _ _ _ hf hC hl
  · have hf := it_t c_4 hf
    refine lv_iconst (v := 1) hx hb dX1_state_4 (by decide) ?_
    refine lv_iload_n hx hb dX1_state_5 rfl (lv_at hl 2 rfl) ?_
    refine lv_ishl hx hb dX1_state_6 ?_
    refine lv_goto (tgt := 11) hx hb dX1_state_7 (by decide) ?_
    exact hj_11 _ _ _ _ hf hC hl

set_option maxHeartbeats 8000000 in
set_option maxRecDepth 100000 in
theorem r_X1_drop {D : va_G} {y : Nat → ClassId} {o : Nat → Nat} {ad av : Nat → Nat} {x1 : Int32} {σ : Sto} {σ2 : Sto} (hf : f_X1_drop x1 σ = some σ2) (l : Launch) (sz : Nat) : Met l yX1_drop (Cond.code yX1_drop cX1_drop 2 none :: ALW) { frames := 3, cells := 0, slots := 0, locals := 68 } (va_Pc [.ref (o 48), .int x1] (PZ D y ad av (WX y o σ) sz)) (QZv D (WX y o σ) (WX y o σ2) sz) 0 0 (va_A (WX y o σ) sz) := by
  refine met_v (by decide) (Nat.le_of_ble_eq_true rfl) ?_
  intro p e R s m args below meth c Q A ls hx hb hml hta hown hRc hRs hRf hRl hN hK hV hA hret hC hl
  have hl : lv_has ls 2 [(0, .ref (o 48)), (1, .int x1)] := hl
  unfold f_X1_drop at hf
  refine lv_aload_n hx hb dX1_drop_0 rfl (lv_at hl 0 rfl) ?_
  refine gt_X1_42_lifted hx hb hta hown hK hC dX1_drop_1 ?_
  refine lv_iload_n hx hb dX1_drop_4 rfl (lv_at hl 1 rfl) ?_
  obtain ⟨v_1, hc_1, hf⟩ := calp_inv hf
  refine cc_Vi (r_X7_hasEffects (D := D) (y := y) (o := o) (ad := ad) (av := av) hc_1 l) hx hb hml hta hown hK hN hV hA hC hRc hRs (by omega) (by omega) wq_135 (q := 42) (ci := 7) rfl rfl wq_136 wq_137 wq_124 wq_134 hd_X7_hasEffects (As := [.int x1]) (rest := []) rfl rfl hl.1 rfl dX1_drop_5 (fun H locs hC => ?_)
  refine lv_if_eq (tgt := 25) hx hb dX1_drop_8 (by decide) (fun c_2 => ?_) (fun c_2 => ?_)
  · have hf := it_t c_2 hf
    exact hret _ _ _ _ _ (congrArg (WX y o) (Option.some.inj hf)) dX1_drop_25 hC
  · have hf := it_f c_2 hf
    refine lv_aload_n hx hb dX1_drop_11 rfl (lv_at hl 0 rfl) ?_
    refine lv_sipush (v := 4096) hx hb dX1_drop_12 (by decide) ?_
    obtain ⟨s_3, hc_3, hf⟩ := cals_inv hf
    refine cc_Vv (r_X1_spill (D := D) (y := y) (o := o) (ad := ad) (av := av) hc_3 l) hx hb hml hta hown hK hN hV hA hC hRc hRs (by omega) (by omega) wq_130 (q := 48) (ci := 1) rfl rfl wq_131 wq_132 wq_120 wq_129 hd_X1_spill (As := [.int 4096]) (rest := []) rfl rfl hl.1 rfl dX1_drop_15 (fun H locs hC => ?_)
    refine lv_aload_n hx hb dX1_drop_18 rfl (lv_at hl 0 rfl) ?_
    refine lv_iconst (v := 4) hx hb dX1_drop_19 (by decide) ?_
    refine lv_iconst (v := (-1)) hx hb dX1_drop_20 (by decide) ?_
    refine lv_iload_n hx hb dX1_drop_21 rfl (lv_at hl 1 rfl) ?_
    obtain ⟨s_4, hc_4, hf⟩ := cals_inv hf
    refine cc_Vv (r_X1_add (D := D) (y := y) (o := o) (ad := ad) (av := av) hc_4 l) hx hb hml hta hown hK hN hV hA hC hRc hRs (by omega) (by omega) wq_117 (q := 48) (ci := 1) rfl rfl wq_118 wq_119 wq_120 wq_113 hd_X1_add (As := [.int 4, .int (-1), .int x1]) (rest := []) rfl rfl hl.1 rfl dX1_drop_22 (fun H locs hC => ?_)
    exact hret _ _ _ _ _ (congrArg (WX y o) (Option.some.inj hf)) dX1_drop_25 hC

set_option maxHeartbeats 8000000 in
set_option maxRecDepth 100000 in
theorem r_X1_exchange {D : va_G} {y : Nat → ClassId} {o : Nat → Nat} {ad av : Nat → Nat} {σ : Sto} {σ2 : Sto} (hf : f_X1_exchange σ = some σ2) (l : Launch) (sz : Nat) : Met l yX1_exchange (Cond.code yX1_exchange cX1_exchange 3 none :: ALW) { frames := 3, cells := 0, slots := 0, locals := 68 } (va_Pc [.ref (o 48)] (PZ D y ad av (WX y o σ) sz)) (QZv D (WX y o σ) (WX y o σ2) sz) 0 0 (va_A (WX y o σ) sz) := by
  refine met_v (by decide) (Nat.le_of_ble_eq_true rfl) ?_
  intro p e R s m args below meth c Q A ls hx hb hml hta hown hRc hRs hRf hRl hN hK hV hA hret hC hl
  have hl : lv_has ls 3 [(0, .ref (o 48))] := hl
  unfold f_X1_exchange at hf
  refine lv_aload_n hx hb dX1_exchange_0 rfl (lv_at hl 0 rfl) ?_
  obtain ⟨v_1, s_1, hc_1, hf⟩ := calv_inv hf
  refine cc_Vi (r_X1_pop (D := D) (y := y) (o := o) (ad := ad) (av := av) hc_1 l) hx hb hml hta hown hK hN hV hA hC hRc hRs (by omega) (by omega) wq_141 (q := 48) (ci := 1) rfl rfl wq_142 wq_143 wq_120 wq_112 hd_X1_pop (As := []) (rest := []) rfl rfl hl.1 rfl dX1_exchange_1 (fun H locs hC => ?_)
  refine lv_istore_n (lv' := [(1, .int v_1), (0, .ref (o 48))]) hx hb dX1_exchange_4 rfl hl (by decide) rfl (fun ls hl => ?_)
  refine lv_aload_n hx hb dX1_exchange_5 rfl (lv_at hl 1 rfl) ?_
  refine gt_X1_59_lifted hx hb hta hown hK hC dX1_exchange_6 ?_
  obtain ⟨k_51, hk_51, hf⟩ := jn_inv1 hf
  have hj_51 : ∀ (s_2 : Sto) (H : Heap) (locs : List Loc) (ls : Array Slot), k_51 s_2 = some σ2 → CZ D A s H locs (WX y o s_2) → lv_has ls 3 [(0, .ref (o 48)), (1, .int v_1)] → W p l e R s m args below meth c H locs 0 0 Q (F0 m 51 ls []) := by
    intro s_2 H locs ls hf hC hl
    have hf := hk_51 _ hf
    refine lv_aload_n hx hb dX1_exchange_51 rfl (lv_at hl 0 rfl) ?_
    obtain ⟨v_3, s_3, hc_3, hf⟩ := calv_inv hf
    refine cc_Vi (r_X1_pop (D := D) (y := y) (o := o) (ad := ad) (av := av) hc_3 l) hx hb hml hta hown hK hN hV hA hC hRc hRs (by omega) (by omega) wq_141 (q := 48) (ci := 1) rfl rfl wq_142 wq_143 wq_120 wq_112 hd_X1_pop (As := []) (rest := []) rfl rfl hl.1 rfl dX1_exchange_52 (fun H locs hC => ?_)
    refine lv_istore_n (lv' := [(2, .int v_3), (0, .ref (o 48)), (1, .int v_1)]) hx hb dX1_exchange_55 rfl hl (by decide) rfl (fun ls hl => ?_)
    refine lv_aload_n hx hb dX1_exchange_56 rfl (lv_at hl 1 rfl) ?_
    refine lv_iload_n hx hb dX1_exchange_57 rfl (lv_at hl 2 rfl) ?_
    obtain ⟨s_4, hc_4, hf⟩ := cals_inv hf
    refine cc_Vv (r_X1_push (D := D) (y := y) (o := o) (ad := ad) (av := av) hc_4 l) hx hb hml hta hown hK hN hV hA hC hRc hRs (by omega) (by omega) wq_147 (q := 48) (ci := 1) rfl rfl wq_148 wq_149 wq_120 wq_110 hd_X1_push (As := [.int v_1]) (rest := []) rfl rfl hl.1 rfl dX1_exchange_58 (fun H locs hC => ?_)
    refine lv_aload_n hx hb dX1_exchange_61 rfl (lv_at hl 1 rfl) ?_
    refine lv_iload_n hx hb dX1_exchange_62 rfl (lv_at hl 0 rfl) ?_
    obtain ⟨s_5, hc_5, hf⟩ := cals_inv hf
    refine cc_Vv (r_X1_push (D := D) (y := y) (o := o) (ad := ad) (av := av) hc_5 l) hx hb hml hta hown hK hN hV hA hC hRc hRs (by omega) (by omega) wq_147 (q := 48) (ci := 1) rfl rfl wq_148 wq_149 wq_120 wq_110 hd_X1_push (As := [.int v_3]) (rest := []) rfl rfl hl.1 rfl dX1_exchange_63 (fun H locs hC => ?_)
    exact hret _ _ _ _ _ (congrArg (WX y o) (Option.some.inj hf)) dX1_exchange_66 hC
  refine lv_if_le (tgt := 51) hx hb dX1_exchange_9 (by decide) (fun c_6 => ?_) (fun c_6 => ?_)
  · have hf := it_t c_6 hf
    exact hj_51 _ _ _ _ hf hC (lv_sub hl [1, 0] rfl)
  · have hf := it_f c_6 hf
    refine lv_aload_n hx hb dX1_exchange_12 rfl (lv_at hl 1 rfl) ?_
    refine gt_X1_42_lifted hx hb hta hown hK hC dX1_exchange_13 ?_
    refine lv_iload_n hx hb dX1_exchange_16 rfl (lv_at hl 0 rfl) ?_
    obtain ⟨v_7, hc_7, hf⟩ := calp_inv hf
    refine cc_Vi (r_X7_hasEffects (D := D) (y := y) (o := o) (ad := ad) (av := av) hc_7 l) hx hb hml hta hown hK hN hV hA hC hRc hRs (by omega) (by omega) wq_135 (q := 42) (ci := 7) rfl rfl wq_136 wq_137 wq_124 wq_134 hd_X7_hasEffects (As := [.int v_1]) (rest := []) rfl rfl hl.1 rfl dX1_exchange_17 (fun H locs hC => ?_)
    refine lv_if_eq (tgt := 51) hx hb dX1_exchange_20 (by decide) (fun c_8 => ?_) (fun c_8 => ?_)
    · have hf := it_t c_8 hf
      exact hj_51 _ _ _ _ hf hC (lv_sub hl [1, 0] rfl)
    · have hf := it_f c_8 hf
      refine lv_aload_n hx hb dX1_exchange_23 rfl (lv_at hl 1 rfl) ?_
      refine gt_X1_42_lifted hx hb hta hown hK hC dX1_exchange_24 ?_
      refine lv_aload_n hx hb dX1_exchange_27 rfl (lv_at hl 1 rfl) ?_
      refine gt_X1_27_lifted hx hb hta hown hK hC dX1_exchange_28 ?_
      refine lv_aload_n hx hb dX1_exchange_31 rfl (lv_at hl 1 rfl) ?_
      refine gt_X1_59_lifted hx hb hta hown hK hC dX1_exchange_32 ?_
      refine lv_iconst (v := 1) hx hb dX1_exchange_35 (by decide) ?_
      refine lv_isub hx hb dX1_exchange_36 ?_
      obtain ⟨hi_9, hf⟩ := ix_inv hf
      obtain ⟨v_9, e_9, hf⟩ := lt_inv hf
      refine al_X_54 hx hb hK hC hi_9 e_9 dX1_exchange_37 ?_
      obtain ⟨v_10, hc_10, hf⟩ := calp_inv hf
      refine cc_Vi (r_X7_hasEffects (D := D) (y := y) (o := o) (ad := ad) (av := av) hc_10 l) hx hb hml hta hown hK hN hV hA hC hRc hRs (by omega) (by omega) wq_135 (q := 42) (ci := 7) rfl rfl wq_136 wq_137 wq_124 wq_134 hd_X7_hasEffects (As := [.int v_9]) (rest := []) rfl rfl hl.1 rfl dX1_exchange_38 (fun H locs hC => ?_)
      refine lv_if_eq (tgt := 51) hx hb dX1_exchange_41 (by decide) (fun c_11 => ?_) (fun c_11 => ?_)
      · have hf := it_t c_11 hf
        exact hj_51 _ _ _ _ hf hC (lv_sub hl [1, 0] rfl)
      · have hf := it_f c_11 hf
        refine lv_aload_n hx hb dX1_exchange_44 rfl (lv_at hl 1 rfl) ?_
        refine lv_sipush (v := 4096) hx hb dX1_exchange_45 (by decide) ?_
        obtain ⟨s_12, hc_12, hf⟩ := cals_inv hf
        refine cc_Vv (r_X1_spill (D := D) (y := y) (o := o) (ad := ad) (av := av) hc_12 l) hx hb hml hta hown hK hN hV hA hC hRc hRs (by omega) (by omega) wq_130 (q := 48) (ci := 1) rfl rfl wq_131 wq_132 wq_120 wq_129 hd_X1_spill (As := [.int 4096]) (rest := []) rfl rfl hl.1 rfl dX1_exchange_48 (fun H locs hC => ?_)
        exact hj_51 _ _ _ _ hf hC (lv_sub hl [1, 0] rfl)

set_option maxHeartbeats 8000000 in
set_option maxRecDepth 100000 in
theorem r_X3_chooses {D : va_G} {y : Nat → ClassId} {o : Nat → Nat} {ad av : Nat → Nat} {x1 : Int32} {σ : Sto} {v : Int32} (hf : f_X3_chooses x1 σ = some v) (l : Launch) (sz : Nat) : Met l yX3_chooses (Cond.code yX3_chooses cX3_chooses 2 (some .boolean) :: ALW) { frames := 0, cells := 0, slots := 0, locals := 0 } (va_Pc [.ref (o 3), .int x1] (PZ D y ad av (WX y o σ) sz)) (QZi D (WX y o σ) v (WX y o σ) sz) 0 0 (va_A (WX y o σ) sz) := by
  refine met_i (by decide) (Nat.le_of_ble_eq_true rfl) ?_
  intro p e R s m args below meth c Q A ls hx hb hml hta hown hRc hRs hRf hRl hN hK hV hA hret hC hl
  have hl : lv_has ls 2 [(0, .ref (o 3)), (1, .int x1)] := hl
  unfold f_X3_chooses at hf
  refine lv_aload_n hx hb dX3_chooses_0 rfl (lv_at hl 0 rfl) ?_
  refine gt_X3_9_listing hx hb hta hown hK hC dX3_chooses_1 ?_
  refine lv_iload_n hx hb dX3_chooses_4 rfl (lv_at hl 1 rfl) ?_
  obtain ⟨hi_1, hf⟩ := ix_inv hf
  obtain ⟨v_1, e_1, hf⟩ := lt_inv hf
  refine al_X_4 hx hb hK hC hi_1 e_1 dX3_chooses_5 ?_
  refine lv_bipush (v := 122) hx hb dX3_chooses_6 (by decide) ?_
  obtain ⟨k_27, hk_27, hf⟩ := jn_inv0 hf
  have hj_27 : ∀  (H : Heap) (locs : List Loc) (ls : Array Slot), k_27 = some v → CZ D A s H locs (WX y o σ) → lv_has ls 2 [] → W p l e R s m args below meth c H locs 0 0 Q (F0 m 27 ls []) := by
    intro H locs ls hf hC hl
    have hf := hk_27 hf
    refine lv_iconst (v := 0) hx hb dX3_chooses_27 (by decide) ?_
    exact hret _ _ _ _ _ _ (Option.some.inj hf) rfl rfl dX3_chooses_28 hC
  refine lv_icmp_ne (tgt := 27) hx hb dX3_chooses_8 (by decide) (fun c_3 => ?_) (fun c_3 => ?_)
  · have hf := it_f c_3 hf
    exact hj_27 _ _ _ hf hC (lv_sub hl [] rfl)
  · have hf := it_t c_3 hf
    refine lv_aload_n hx hb dX3_chooses_11 rfl (lv_at hl 0 rfl) ?_
    refine gt_X3_15_listing hx hb hta hown hK hC dX3_chooses_12 ?_
    refine lv_iload_n hx hb dX3_chooses_15 rfl (lv_at hl 1 rfl) ?_
    obtain ⟨hi_4, hf⟩ := ix_inv hf
    obtain ⟨v_4, e_4, hf⟩ := lt_inv hf
    refine al_X_5 hx hb hK hC hi_4 e_4 dX3_chooses_16 ?_
    refine lv_iload_n hx hb dX3_chooses_17 rfl (lv_at hl 1 rfl) ?_
    refine lv_iconst (v := 1) hx hb dX3_chooses_18 (by decide) ?_
    refine lv_iadd hx hb dX3_chooses_19 ?_
    refine lv_icmp_eq (tgt := 27) hx hb dX3_chooses_20 (by decide) (fun c_5 => ?_) (fun c_5 => ?_)
    · have hf := it_t c_5 hf
      exact hj_27 _ _ _ hf hC (lv_sub hl [] rfl)
    · have hf := it_f c_5 hf
      refine lv_iconst (v := 1) hx hb dX3_chooses_23 (by decide) ?_
      refine lv_goto (tgt := 28) hx hb dX3_chooses_24 (by decide) ?_
      exact hret _ _ _ _ _ _ (Option.some.inj hf) rfl rfl dX3_chooses_28 hC

set_option maxHeartbeats 8000000 in
set_option maxRecDepth 100000 in
theorem r_X1_operate {D : va_G} {y : Nat → ClassId} {o : Nat → Nat} {ad av : Nat → Nat} {x1 : Int32} {σ : Sto} {σ2 : Sto} (hf : f_X1_operate x1 σ = some σ2) (l : Launch) (sz : Nat) : Met l yX1_operate (Cond.code yX1_operate cX1_operate 4 none :: ALW) { frames := 1, cells := 0, slots := 0, locals := 24 } (va_Pc [.ref (o 48), .int x1] (PZ D y ad av (WX y o σ) sz)) (QZv D (WX y o σ) (WX y o σ2) sz) 0 0 (va_A (WX y o σ) sz) := by
  refine met_v (by decide) (Nat.le_of_ble_eq_true rfl) ?_
  intro p e R s m args below meth c Q A ls hx hb hml hta hown hRc hRs hRf hRl hN hK hV hA hret hC hl
  have hl : lv_has ls 4 [(0, .ref (o 48)), (1, .int x1)] := hl
  unfold f_X1_operate at hf
  refine lv_aload_n hx hb dX1_operate_0 rfl (lv_at hl 0 rfl) ?_
  obtain ⟨v_1, s_1, hc_1, hf⟩ := calv_inv hf
  refine cc_Vi (r_X1_pop (D := D) (y := y) (o := o) (ad := ad) (av := av) hc_1 l) hx hb hml hta hown hK hN hV hA hC hRc hRs (by omega) (by omega) wq_141 (q := 48) (ci := 1) rfl rfl wq_142 wq_143 wq_120 wq_112 hd_X1_pop (As := []) (rest := []) rfl rfl hl.1 rfl dX1_operate_1 (fun H locs hC => ?_)
  refine lv_istore_n (lv' := [(2, .int v_1), (0, .ref (o 48)), (1, .int x1)]) hx hb dX1_operate_4 rfl hl (by decide) rfl (fun ls hl => ?_)
  refine lv_iload_n hx hb dX1_operate_5 rfl (lv_at hl 2 rfl) ?_
  obtain ⟨v_2, hc_2, hf⟩ := calp_inv hf
  refine cc_SiN (r_X11_isBinary (D := D) (y := y) (w := WX y o s_1) (ad := ad) (av := av) hc_2 l) hx hb hml hta hown hK hN hV hA hC hRc hRs (by omega) (by omega) (nw_X1_122 hN) wq_67 wq_38 wq_65 hd_X11_isBinary (As := [.int x1]) (rest := []) rfl rfl hl.1 rfl dX1_operate_6 (fun H locs hC => ?_)
  refine lv_if_eq (tgt := 34) hx hb dX1_operate_9 (by decide) (fun c_3 => ?_) (fun c_3 => ?_)
  · have hf := it_t c_3 hf
    refine lv_aload_n hx hb dX1_operate_34 rfl (lv_at hl 1 rfl) ?_
    refine lv_aload_n hx hb dX1_operate_35 rfl (lv_at hl 1 rfl) ?_
    refine gt_X1_42_lifted hx hb hta hown hK hC dX1_operate_36 ?_
    refine lv_iload_n hx hb dX1_operate_39 rfl (lv_at hl 2 rfl) ?_
    refine lv_iload_n hx hb dX1_operate_40 rfl (lv_at hl 0 rfl) ?_
    refine lv_iconst (v := 0) hx hb dX1_operate_41 (by decide) ?_
    obtain ⟨v_4, s_4, hc_4, hf⟩ := calv_inv hf
    refine cc_Vi (r_X7_make (D := D) (y := y) (o := o) (ad := ad) (av := av) hc_4 l) hx hb hml hta hown hK hN hV hA hC hRc hRs (by omega) (by omega) wq_121 (q := 42) (ci := 7) rfl rfl wq_122 wq_123 wq_124 wq_103 hd_X7_make (As := [.int x1, .int v_1, .int 0]) (rest := [.ref (o 48)]) rfl rfl hl.1 rfl dX1_operate_42 (fun H locs hC => ?_)
    obtain ⟨s_5, hc_5, hf⟩ := cals_inv hf
    refine cc_Vv (r_X1_push (D := D) (y := y) (o := o) (ad := ad) (av := av) hc_5 l) hx hb hml hta hown hK hN hV hA hC hRc hRs (by omega) (by omega) wq_147 (q := 48) (ci := 1) rfl rfl wq_148 wq_149 wq_120 wq_110 hd_X1_push (As := [.int v_4]) (rest := []) rfl rfl hl.1 rfl dX1_operate_45 (fun H locs hC => ?_)
    exact hret _ _ _ _ _ (congrArg (WX y o) (Option.some.inj hf)) dX1_operate_48 hC
  · have hf := it_f c_3 hf
    refine lv_aload_n hx hb dX1_operate_12 rfl (lv_at hl 1 rfl) ?_
    obtain ⟨v_6, s_6, hc_6, hf⟩ := calv_inv hf
    refine cc_Vi (r_X1_pop (D := D) (y := y) (o := o) (ad := ad) (av := av) hc_6 l) hx hb hml hta hown hK hN hV hA hC hRc hRs (by omega) (by omega) wq_141 (q := 48) (ci := 1) rfl rfl wq_142 wq_143 wq_120 wq_112 hd_X1_pop (As := []) (rest := []) rfl rfl hl.1 rfl dX1_operate_13 (fun H locs hC => ?_)
    refine lv_istore_n (lv' := [(3, .int v_6), (2, .int v_1), (0, .ref (o 48)), (1, .int x1)]) hx hb dX1_operate_16 rfl hl (by decide) rfl (fun ls hl => ?_)
    refine lv_aload_n hx hb dX1_operate_17 rfl (lv_at hl 2 rfl) ?_
    refine lv_aload_n hx hb dX1_operate_18 rfl (lv_at hl 2 rfl) ?_
    refine gt_X1_42_lifted hx hb hta hown hK hC dX1_operate_19 ?_
    refine lv_iload_n hx hb dX1_operate_22 rfl (lv_at hl 3 rfl) ?_
    refine lv_iload_n hx hb dX1_operate_23 rfl (lv_at hl 0 rfl) ?_
    refine lv_iload_n hx hb dX1_operate_24 rfl (lv_at hl 1 rfl) ?_
    obtain ⟨v_7, s_7, hc_7, hf⟩ := calv_inv hf
    refine cc_Vi (r_X7_make (D := D) (y := y) (o := o) (ad := ad) (av := av) hc_7 l) hx hb hml hta hown hK hN hV hA hC hRc hRs (by omega) (by omega) wq_121 (q := 42) (ci := 7) rfl rfl wq_122 wq_123 wq_124 wq_103 hd_X7_make (As := [.int x1, .int v_6, .int v_1]) (rest := [.ref (o 48)]) rfl rfl hl.1 rfl dX1_operate_25 (fun H locs hC => ?_)
    obtain ⟨s_8, hc_8, hf⟩ := cals_inv hf
    refine cc_Vv (r_X1_push (D := D) (y := y) (o := o) (ad := ad) (av := av) hc_8 l) hx hb hml hta hown hK hN hV hA hC hRc hRs (by omega) (by omega) wq_147 (q := 48) (ci := 1) rfl rfl wq_148 wq_149 wq_120 wq_110 hd_X1_push (As := [.int v_7]) (rest := []) rfl rfl hl.1 rfl dX1_operate_28 (fun H locs hC => ?_)
    refine lv_goto (tgt := 48) hx hb dX1_operate_31 (by decide) ?_
    exact hret _ _ _ _ _ (congrArg (WX y o) (Option.some.inj hf)) dX1_operate_48 hC

set_option maxHeartbeats 8000000 in
set_option maxRecDepth 100000 in
theorem r_X1_step {D : va_G} {y : Nat → ClassId} {o : Nat → Nat} {ad av : Nat → Nat} {x1 : Int32} {x2 : Int32} {σ : Sto} {σ2 : Sto} (hf : f_X1_step x1 x2 σ = some σ2) (l : Launch) (sz : Nat) : Met l yX1_step (Cond.code yX1_step cX1_step 5 none :: ALW) { frames := 4, cells := 0, slots := 0, locals := 92 } (va_Pc [.ref (o 48), .int x1, .int x2] (PZ D y ad av (WX y o σ) sz)) (QZv D (WX y o σ) (WX y o σ2) sz) 0 0 (va_A (WX y o σ) sz) := by
  refine met_v (by decide) (Nat.le_of_ble_eq_true rfl) ?_
  intro p e R s m args below meth c Q A ls hx hb hml hta hown hRc hRs hRf hRl hN hK hV hA hret hC hl
  have hl : lv_has ls 5 [(0, .ref (o 48)), (1, .int x1), (2, .int x2)] := hl
  unfold f_X1_step at hf
  refine lv_aload_n hx hb dX1_step_0 rfl (lv_at hl 0 rfl) ?_
  refine gt_X1_34_lifted hx hb hta hown hK hC dX1_step_1 ?_
  refine gt_X1_93_listing hx hb hta hown hK hC dX1_step_4 ?_
  refine lv_iload_n hx hb dX1_step_7 rfl (lv_at hl 2 rfl) ?_
  obtain ⟨hi_1, hf⟩ := ix_inv hf
  obtain ⟨v_1, e_1, hf⟩ := lt_inv hf
  refine al_X_4 hx hb hK hC hi_1 e_1 dX1_step_8 ?_
  refine lv_istore_n (lv' := [(3, .int v_1), (0, .ref (o 48)), (1, .int x1), (2, .int x2)]) hx hb dX1_step_9 rfl hl (by decide) rfl (fun ls hl => ?_)
  refine lv_aload_n hx hb dX1_step_10 rfl (lv_at hl 1 rfl) ?_
  refine gt_X1_34_lifted hx hb hta hown hK hC dX1_step_11 ?_
  refine gt_X1_96_listing hx hb hta hown hK hC dX1_step_14 ?_
  refine lv_iload_n hx hb dX1_step_17 rfl (lv_at hl 3 rfl) ?_
  obtain ⟨hi_2, hf⟩ := ix_inv hf
  obtain ⟨v_2, e_2, hf⟩ := lt_inv hf
  refine al_X_5 hx hb hK hC hi_2 e_2 dX1_step_18 ?_
  refine lv_istore (lv' := [(4, .int v_2), (3, .int v_1), (0, .ref (o 48)), (1, .int x1), (2, .int x2)]) hx hb dX1_step_19 hl (by decide) rfl (fun ls hl => ?_)
  refine lv_iload_n hx hb dX1_step_21 rfl (lv_at hl 1 rfl) ?_
  by_cases h_3_0 : v_1.toInt = 100
  · have hf := it_t h_3_0 hf
    refine lv_tab (tgt := 208) hx hb dX1_step_22 (Or.inr ⟨186, by omega, by omega, by (rw [h_3_0]; decide), by decide⟩) ?_
    refine lv_aload_n hx hb dX1_step_208 rfl (lv_at hl 2 rfl) ?_
    obtain ⟨s_4, hc_4, hf⟩ := cals_inv hf
    refine cc_Vv (r_X1_twice (D := D) (y := y) (o := o) (ad := ad) (av := av) hc_4 l) hx hb hml hta hown hK hN hV hA hC hRc hRs (by omega) (by omega) wq_163 (q := 48) (ci := 1) rfl rfl wq_164 wq_165 wq_120 wq_150 hd_X1_twice (As := []) (rest := []) rfl rfl hl.1 rfl dX1_step_209 (fun H locs hC => ?_)
    refine lv_goto (tgt := 265) hx hb dX1_step_212 (by decide) ?_
    exact hret _ _ _ _ _ (congrArg (WX y o) (Option.some.inj hf)) dX1_step_265 hC
  have hf := it_f h_3_0 hf
  by_cases h_3_1 : v_1.toInt = 103
  · have hf := it_t h_3_1 hf
    refine lv_tab (tgt := 222) hx hb dX1_step_22 (Or.inr ⟨200, by omega, by omega, by (rw [h_3_1]; decide), by decide⟩) ?_
    refine lv_goto (tgt := 265) hx hb dX1_step_222 (by decide) ?_
    exact hret _ _ _ _ _ (congrArg (WX y o) (Option.some.inj hf)) dX1_step_265 hC
  have hf := it_f h_3_1 hf
  by_cases h_3_2 : v_1.toInt = 105 ∨ v_1.toInt = 107 ∨ v_1.toInt = 108
  · have hf := it_t h_3_2 hf
    refine lv_tab (tgt := 128) hx hb dX1_step_22 (Or.inr ⟨106, by omega, by omega, by rcases h_3_2 with h_3_2 | h_3_2 | h_3_2 <;> (rw [h_3_2]; decide), by decide⟩) ?_
    refine lv_aload_n hx hb dX1_step_128 rfl (lv_at hl 2 rfl) ?_
    refine lv_aload_n hx hb dX1_step_129 rfl (lv_at hl 2 rfl) ?_
    refine gt_X1_42_lifted hx hb hta hown hK hC dX1_step_130 ?_
    refine lv_iload_n hx hb dX1_step_133 rfl (lv_at hl 1 rfl) ?_
    refine lv_iload hx hb dX1_step_134 (lv_at hl 0 rfl) ?_
    refine lv_iconst (v := 0) hx hb dX1_step_136 (by decide) ?_
    obtain ⟨v_5, s_5, hc_5, hf⟩ := calv_inv hf
    refine cc_Vi (r_X7_make (D := D) (y := y) (o := o) (ad := ad) (av := av) hc_5 l) hx hb hml hta hown hK hN hV hA hC hRc hRs (by omega) (by omega) wq_121 (q := 42) (ci := 7) rfl rfl wq_122 wq_123 wq_124 wq_103 hd_X7_make (As := [.int v_1, .int v_2, .int 0]) (rest := [.ref (o 48)]) rfl rfl hl.1 rfl dX1_step_137 (fun H locs hC => ?_)
    obtain ⟨s_6, hc_6, hf⟩ := cals_inv hf
    refine cc_Vv (r_X1_push (D := D) (y := y) (o := o) (ad := ad) (av := av) hc_6 l) hx hb hml hta hown hK hN hV hA hC hRc hRs (by omega) (by omega) wq_147 (q := 48) (ci := 1) rfl rfl wq_148 wq_149 wq_120 wq_110 hd_X1_push (As := [.int v_5]) (rest := []) rfl rfl hl.1 rfl dX1_step_140 (fun H locs hC => ?_)
    refine lv_goto (tgt := 265) hx hb dX1_step_143 (by decide) ?_
    exact hret _ _ _ _ _ (congrArg (WX y o) (Option.some.inj hf)) dX1_step_265 hC
  have hf := it_f h_3_2 hf
  by_cases h_3_3 : v_1.toInt = 111
  · have hf := it_t h_3_3 hf
    refine lv_tab (tgt := 160) hx hb dX1_step_22 (Or.inr ⟨138, by omega, by omega, by (rw [h_3_3]; decide), by decide⟩) ?_
    refine lv_aload_n hx hb dX1_step_160 rfl (lv_at hl 2 rfl) ?_
    refine lv_iconst (v := 3) hx hb dX1_step_161 (by decide) ?_
    refine lv_iconst (v := (-1)) hx hb dX1_step_162 (by decide) ?_
    refine lv_aload_n hx hb dX1_step_163 rfl (lv_at hl 2 rfl) ?_
    obtain ⟨v_7, s_7, hc_7, hf⟩ := calv_inv hf
    refine cc_Vi (r_X1_pop (D := D) (y := y) (o := o) (ad := ad) (av := av) hc_7 l) hx hb hml hta hown hK hN hV hA hC hRc hRs (by omega) (by omega) wq_141 (q := 48) (ci := 1) rfl rfl wq_142 wq_143 wq_120 wq_112 hd_X1_pop (As := []) (rest := [.int (-1), .int 3, .ref (o 48)]) rfl rfl hl.1 rfl dX1_step_164 (fun H locs hC => ?_)
    obtain ⟨s_8, hc_8, hf⟩ := cals_inv hf
    refine cc_Vv (r_X1_state (D := D) (y := y) (o := o) (ad := ad) (av := av) hc_8 l) hx hb hml hta hown hK hN hV hA hC hRc hRs (by omega) (by omega) wq_157 (q := 48) (ci := 1) rfl rfl wq_158 wq_159 wq_120 wq_133 hd_X1_state (As := [.int 3, .int (-1), .int v_7]) (rest := []) rfl rfl hl.1 rfl dX1_step_167 (fun H locs hC => ?_)
    refine lv_goto (tgt := 265) hx hb dX1_step_170 (by decide) ?_
    exact hret _ _ _ _ _ (congrArg (WX y o) (Option.some.inj hf)) dX1_step_265 hC
  have hf := it_f h_3_3 hf
  by_cases h_3_4 : v_1.toInt = 112
  · have hf := it_t h_3_4 hf
    refine lv_tab (tgt := 197) hx hb dX1_step_22 (Or.inr ⟨175, by omega, by omega, by (rw [h_3_4]; decide), by decide⟩) ?_
    refine lv_aload_n hx hb dX1_step_197 rfl (lv_at hl 2 rfl) ?_
    refine lv_aload_n hx hb dX1_step_198 rfl (lv_at hl 2 rfl) ?_
    obtain ⟨v_9, s_9, hc_9, hf⟩ := calv_inv hf
    refine cc_Vi (r_X1_pop (D := D) (y := y) (o := o) (ad := ad) (av := av) hc_9 l) hx hb hml hta hown hK hN hV hA hC hRc hRs (by omega) (by omega) wq_141 (q := 48) (ci := 1) rfl rfl wq_142 wq_143 wq_120 wq_112 hd_X1_pop (As := []) (rest := [.ref (o 48)]) rfl rfl hl.1 rfl dX1_step_199 (fun H locs hC => ?_)
    obtain ⟨s_10, hc_10, hf⟩ := cals_inv hf
    refine cc_Vv (r_X1_drop (D := D) (y := y) (o := o) (ad := ad) (av := av) hc_10 l) hx hb hml hta hown hK hN hV hA hC hRc hRs (by omega) (by omega) wq_160 (q := 48) (ci := 1) rfl rfl wq_161 wq_162 wq_120 wq_138 hd_X1_drop (As := [.int v_9]) (rest := []) rfl rfl hl.1 rfl dX1_step_202 (fun H locs hC => ?_)
    refine lv_goto (tgt := 265) hx hb dX1_step_205 (by decide) ?_
    exact hret _ _ _ _ _ (congrArg (WX y o) (Option.some.inj hf)) dX1_step_265 hC
  have hf := it_f h_3_4 hf
  by_cases h_3_5 : v_1.toInt = 114
  · have hf := it_t h_3_5 hf
    refine lv_tab (tgt := 186) hx hb dX1_step_22 (Or.inr ⟨164, by omega, by omega, by (rw [h_3_5]; decide), by decide⟩) ?_
    refine lv_aload_n hx hb dX1_step_186 rfl (lv_at hl 2 rfl) ?_
    refine lv_bipush (v := 6) hx hb dX1_step_187 (by decide) ?_
    refine lv_iconst (v := (-1)) hx hb dX1_step_189 (by decide) ?_
    refine lv_iconst (v := (-1)) hx hb dX1_step_190 (by decide) ?_
    obtain ⟨s_11, hc_11, hf⟩ := cals_inv hf
    refine cc_Vv (r_X1_state (D := D) (y := y) (o := o) (ad := ad) (av := av) hc_11 l) hx hb hml hta hown hK hN hV hA hC hRc hRs (by omega) (by omega) wq_157 (q := 48) (ci := 1) rfl rfl wq_158 wq_159 wq_120 wq_133 hd_X1_state (As := [.int 6, .int (-1), .int (-1)]) (rest := []) rfl rfl hl.1 rfl dX1_step_191 (fun H locs hC => ?_)
    refine lv_goto (tgt := 265) hx hb dX1_step_194 (by decide) ?_
    exact hret _ _ _ _ _ (congrArg (WX y o) (Option.some.inj hf)) dX1_step_265 hC
  have hf := it_f h_3_5 hf
  by_cases h_3_6 : v_1.toInt = 115
  · have hf := it_t h_3_6 hf
    refine lv_tab (tgt := 146) hx hb dX1_step_22 (Or.inr ⟨124, by omega, by omega, by (rw [h_3_6]; decide), by decide⟩) ?_
    refine lv_aload_n hx hb dX1_step_146 rfl (lv_at hl 2 rfl) ?_
    refine lv_iconst (v := 0) hx hb dX1_step_147 (by decide) ?_
    refine lv_iload hx hb dX1_step_148 (lv_at hl 0 rfl) ?_
    refine lv_aload_n hx hb dX1_step_150 rfl (lv_at hl 2 rfl) ?_
    obtain ⟨v_12, s_12, hc_12, hf⟩ := calv_inv hf
    refine cc_Vi (r_X1_pop (D := D) (y := y) (o := o) (ad := ad) (av := av) hc_12 l) hx hb hml hta hown hK hN hV hA hC hRc hRs (by omega) (by omega) wq_141 (q := 48) (ci := 1) rfl rfl wq_142 wq_143 wq_120 wq_112 hd_X1_pop (As := []) (rest := [.int v_2, .int 0, .ref (o 48)]) rfl rfl hl.1 rfl dX1_step_151 (fun H locs hC => ?_)
    obtain ⟨s_13, hc_13, hf⟩ := cals_inv hf
    refine cc_Vv (r_X1_state (D := D) (y := y) (o := o) (ad := ad) (av := av) hc_13 l) hx hb hml hta hown hK hN hV hA hC hRc hRs (by omega) (by omega) wq_157 (q := 48) (ci := 1) rfl rfl wq_158 wq_159 wq_120 wq_133 hd_X1_state (As := [.int 0, .int v_2, .int v_12]) (rest := []) rfl rfl hl.1 rfl dX1_step_154 (fun H locs hC => ?_)
    refine lv_goto (tgt := 265) hx hb dX1_step_157 (by decide) ?_
    exact hret _ _ _ _ _ (congrArg (WX y o) (Option.some.inj hf)) dX1_step_265 hC
  have hf := it_f h_3_6 hf
  by_cases h_3_7 : v_1.toInt = 116
  · have hf := it_t h_3_7 hf
    refine lv_tab (tgt := 173) hx hb dX1_step_22 (Or.inr ⟨151, by omega, by omega, by (rw [h_3_7]; decide), by decide⟩) ?_
    refine lv_aload_n hx hb dX1_step_173 rfl (lv_at hl 2 rfl) ?_
    refine lv_iconst (v := 5) hx hb dX1_step_174 (by decide) ?_
    refine lv_iconst (v := (-1)) hx hb dX1_step_175 (by decide) ?_
    refine lv_aload_n hx hb dX1_step_176 rfl (lv_at hl 2 rfl) ?_
    obtain ⟨v_14, s_14, hc_14, hf⟩ := calv_inv hf
    refine cc_Vi (r_X1_pop (D := D) (y := y) (o := o) (ad := ad) (av := av) hc_14 l) hx hb hml hta hown hK hN hV hA hC hRc hRs (by omega) (by omega) wq_141 (q := 48) (ci := 1) rfl rfl wq_142 wq_143 wq_120 wq_112 hd_X1_pop (As := []) (rest := [.int (-1), .int 5, .ref (o 48)]) rfl rfl hl.1 rfl dX1_step_177 (fun H locs hC => ?_)
    obtain ⟨s_15, hc_15, hf⟩ := cals_inv hf
    refine cc_Vv (r_X1_state (D := D) (y := y) (o := o) (ad := ad) (av := av) hc_15 l) hx hb hml hta hown hK hN hV hA hC hRc hRs (by omega) (by omega) wq_157 (q := 48) (ci := 1) rfl rfl wq_158 wq_159 wq_120 wq_133 hd_X1_state (As := [.int 5, .int (-1), .int v_14]) (rest := []) rfl rfl hl.1 rfl dX1_step_180 (fun H locs hC => ?_)
    refine lv_goto (tgt := 265) hx hb dX1_step_183 (by decide) ?_
    exact hret _ _ _ _ _ (congrArg (WX y o) (Option.some.inj hf)) dX1_step_265 hC
  have hf := it_f h_3_7 hf
  by_cases h_3_8 : v_1.toInt = 119
  · have hf := it_t h_3_8 hf
    refine lv_tab (tgt := 215) hx hb dX1_step_22 (Or.inr ⟨193, by omega, by omega, by (rw [h_3_8]; decide), by decide⟩) ?_
    refine lv_aload_n hx hb dX1_step_215 rfl (lv_at hl 2 rfl) ?_
    obtain ⟨s_16, hc_16, hf⟩ := cals_inv hf
    refine cc_Vv (r_X1_exchange (D := D) (y := y) (o := o) (ad := ad) (av := av) hc_16 l) hx hb hml hta hown hK hN hV hA hC hRc hRs (by omega) (by omega) wq_166 (q := 48) (ci := 1) rfl rfl wq_167 wq_168 wq_120 wq_151 hd_X1_exchange (As := []) (rest := []) rfl rfl hl.1 rfl dX1_step_216 (fun H locs hC => ?_)
    refine lv_goto (tgt := 265) hx hb dX1_step_219 (by decide) ?_
    exact hret _ _ _ _ _ (congrArg (WX y o) (Option.some.inj hf)) dX1_step_265 hC
  have hf := it_f h_3_8 hf
  by_cases h_3_9 : v_1.toInt = 122
  · have hf := it_t h_3_9 hf
    refine lv_tab (tgt := 225) hx hb dX1_step_22 (Or.inr ⟨203, by omega, by omega, by (rw [h_3_9]; decide), by decide⟩) ?_
    refine lv_aload_n hx hb dX1_step_225 rfl (lv_at hl 2 rfl) ?_
    refine gt_X1_34_lifted hx hb hta hown hK hC dX1_step_226 ?_
    refine lv_iload_n hx hb dX1_step_229 rfl (lv_at hl 4 rfl) ?_
    obtain ⟨v_17, hc_17, hf⟩ := calp_inv hf
    refine cc_Vi (r_X3_chooses (D := D) (y := y) (o := o) (ad := ad) (av := av) hc_17 l) hx hb hml hta hown hK hN hV hA hC hRc hRs (by omega) (by omega) wq_169 (q := 3) (ci := 3) rfl rfl wq_170 wq_171 wq_27 wq_152 hd_X3_chooses (As := [.int x2]) (rest := []) rfl rfl hl.1 rfl dX1_step_230 (fun H locs hC => ?_)
    refine lv_if_eq (tgt := 249) hx hb dX1_step_233 (by decide) (fun c_18 => ?_) (fun c_18 => ?_)
    · have hf := it_t c_18 hf
      refine lv_aload_n hx hb dX1_step_249 rfl (lv_at hl 2 rfl) ?_
      refine lv_aload_n hx hb dX1_step_250 rfl (lv_at hl 2 rfl) ?_
      obtain ⟨v_19, s_19, hc_19, hf⟩ := calv_inv hf
      refine cc_Vi (r_X1_pop (D := D) (y := y) (o := o) (ad := ad) (av := av) hc_19 l) hx hb hml hta hown hK hN hV hA hC hRc hRs (by omega) (by omega) wq_141 (q := 48) (ci := 1) rfl rfl wq_142 wq_143 wq_120 wq_112 hd_X1_pop (As := []) (rest := [.ref (o 48)]) rfl rfl hl.1 rfl dX1_step_251 (fun H locs hC => ?_)
      obtain ⟨s_20, hc_20, hf⟩ := cals_inv hf
      refine cc_Vv (r_X1_drop (D := D) (y := y) (o := o) (ad := ad) (av := av) hc_20 l) hx hb hml hta hown hK hN hV hA hC hRc hRs (by omega) (by omega) wq_160 (q := 48) (ci := 1) rfl rfl wq_161 wq_162 wq_120 wq_138 hd_X1_drop (As := [.int v_19]) (rest := []) rfl rfl hl.1 rfl dX1_step_254 (fun H locs hC => ?_)
      refine lv_goto (tgt := 265) hx hb dX1_step_257 (by decide) ?_
      exact hret _ _ _ _ _ (congrArg (WX y o) (Option.some.inj hf)) dX1_step_265 hC
    · have hf := it_f c_18 hf
      refine lv_aload_n hx hb dX1_step_236 rfl (lv_at hl 2 rfl) ?_
      refine gt_X1_24_lifted hx hb hta hown hK hC dX1_step_237 ?_
      refine lv_iload_n hx hb dX1_step_240 rfl (lv_at hl 3 rfl) ?_
      refine lv_aload_n hx hb dX1_step_241 rfl (lv_at hl 2 rfl) ?_
      obtain ⟨v_21, s_21, hc_21, hf⟩ := calv_inv hf
      refine cc_Vi (r_X1_pop (D := D) (y := y) (o := o) (ad := ad) (av := av) hc_21 l) hx hb hml hta hown hK hN hV hA hC hRc hRs (by omega) (by omega) wq_141 (q := 48) (ci := 1) rfl rfl wq_142 wq_143 wq_120 wq_112 hd_X1_pop (As := []) (rest := [.int x1, .ref (o 53)]) rfl rfl hl.1 rfl dX1_step_242 (fun H locs hC => ?_)
      obtain ⟨hi_22, hf⟩ := ix_inv hf
      obtain ⟨s_22, e_22, hf⟩ := lt_inv hf
      refine as_X_53 hx hb hK hC hi_22 e_22 dX1_step_245 (fun H locs hC => ?_)
      refine lv_goto (tgt := 265) hx hb dX1_step_246 (by decide) ?_
      exact hret _ _ _ _ _ (congrArg (WX y o) (Option.some.inj hf)) dX1_step_265 hC
  have hf := it_f h_3_9 hf
  refine lv_tab (tgt := 260) hx hb dX1_step_22 (by rcases (show (v_1.toInt < 100 ∨ 122 < v_1.toInt ∨ v_1.toInt = 101 ∨ v_1.toInt = 102 ∨ v_1.toInt = 104 ∨ v_1.toInt = 106 ∨ v_1.toInt = 109 ∨ v_1.toInt = 110 ∨ v_1.toInt = 113 ∨ v_1.toInt = 117 ∨ v_1.toInt = 118 ∨ v_1.toInt = 120 ∨ v_1.toInt = 121) by omega) with h | h | h | h | h | h | h | h | h | h | h | h | h; exact Or.inl ⟨Or.inl h, by decide⟩; exact Or.inl ⟨Or.inr h, by decide⟩; all_goals exact Or.inr ⟨238, by omega, by omega, by rw [h]; decide, by decide⟩) ?_
  refine lv_aload_n hx hb dX1_step_260 rfl (lv_at hl 2 rfl) ?_
  refine lv_iload_n hx hb dX1_step_261 rfl (lv_at hl 1 rfl) ?_
  obtain ⟨s_23, hc_23, hf⟩ := cals_inv hf
  refine cc_Vv (r_X1_operate (D := D) (y := y) (o := o) (ad := ad) (av := av) hc_23 l) hx hb hml hta hown hK hN hV hA hC hRc hRs (by omega) (by omega) wq_172 (q := 48) (ci := 1) rfl rfl wq_173 wq_174 wq_120 wq_154 hd_X1_operate (As := [.int v_1]) (rest := []) rfl rfl hl.1 rfl dX1_step_262 (fun H locs hC => ?_)
  exact hret _ _ _ _ _ (congrArg (WX y o) (Option.some.inj hf)) dX1_step_265 hC

set_option maxHeartbeats 8000000 in
set_option maxRecDepth 100000 in
theorem r_X1_lift {D : va_G} {y : Nat → ClassId} {o : Nat → Nat} {ad av : Nat → Nat} {σ : Sto} {σ2 : Sto} (hf : f_X1_lift σ = some σ2) (l : Launch) (sz : Nat) : Met l yX1_lift (Cond.code yX1_lift cX1_lift 3 none :: ALW) { frames := 254, cells := 0, slots := 0, locals := 6597 } (va_Pc [.ref (o 48)] (PZ D y ad av (WX y o σ) sz)) (QZv D (WX y o σ) (WX y o σ2) sz) 0 0 (va_A (WX y o σ) sz) := by
  refine met_v (by decide) (Nat.le_of_ble_eq_true rfl) ?_
  intro p e R s m args below meth c Q A ls hx hb hml hta hown hRc hRs hRf hRl hN hK hV hA hret hC hl
  have hl : lv_has ls 3 [(0, .ref (o 48))] := hl
  unfold f_X1_lift at hf
  refine lv_aload_n hx hb dX1_lift_0 rfl (lv_at hl 0 rfl) ?_
  refine lv_iconst (v := 0) hx hb dX1_lift_1 (by decide) ?_
  obtain ⟨s_1, e_1, hf⟩ := lt_inv hf
  refine pt_X1_46_lifted hx hb hta hown hK hC e_1 dX1_lift_2 (fun H locs hC => ?_)
  refine lv_aload_n hx hb dX1_lift_5 rfl (lv_at hl 0 rfl) ?_
  refine lv_iconst (v := 0) hx hb dX1_lift_6 (by decide) ?_
  obtain ⟨s_2, e_2, hf⟩ := lt_inv hf
  refine pt_X1_50_lifted hx hb hta hown hK hC e_2 dX1_lift_7 (fun H locs hC => ?_)
  refine lv_aload_n hx hb dX1_lift_10 rfl (lv_at hl 0 rfl) ?_
  refine gt_X1_42_lifted hx hb hta hown hK hC dX1_lift_11 ?_
  refine lv_iconst (v := 0) hx hb dX1_lift_14 (by decide) ?_
  obtain ⟨s_3, e_3, hf⟩ := lt_inv hf
  refine pt_X1_53_pool hx hb hta hown hK hC e_3 dX1_lift_15 (fun H locs hC => ?_)
  refine lv_iconst (v := 0) hx hb dX1_lift_18 (by decide) ?_
  refine lv_istore_n (lv' := [(1, .int 0), (0, .ref (o 48))]) hx hb dX1_lift_19 rfl hl (by decide) rfl (fun ls hl => ?_)
  refine itr_inv2 (P := fun (x1_4 : Int32) (s_4 : Sto) => ∀ (H : Heap) (locs : List Loc) (ls : Array Slot), CZ D A s H locs (WX y o s_4) → lv_has ls 3 [(0, .ref (o 48)), (1, .int x1_4)] → W p l e R s m args below meth c H locs 0 0 Q (F0 m 20 ls [])) hf ?_ _ _ _ hC (lv_sub hl [1, 0] rfl)
  intro a_20 x1_4 s_4 ha_20 hf H locs ls hC hl
  refine lv_iload_n hx hb dX1_lift_20 rfl (lv_at hl 1 rfl) ?_
  refine lv_aload_n hx hb dX1_lift_21 rfl (lv_at hl 0 rfl) ?_
  refine gt_X1_38_lifted hx hb hta hown hK hC dX1_lift_22 ?_
  refine gt_X1_56_blocks hx hb hta hown hK hC dX1_lift_25 ?_
  refine lv_icmp_ge (tgt := 162) hx hb dX1_lift_28 (by decide) (fun c_5 => ?_) (fun c_5 => ?_)
  · have hf := it_t c_5 hf
    refine lv_aload_n hx hb dX1_lift_162 rfl (lv_at hl 0 rfl) ?_
    refine gt_X1_21_lifted hx hb hta hown hK hC dX1_lift_163 ?_
    refine lv_aload_n hx hb dX1_lift_166 rfl (lv_at hl 0 rfl) ?_
    refine gt_X1_38_lifted hx hb hta hown hK hC dX1_lift_167 ?_
    refine gt_X1_56_blocks hx hb hta hown hK hC dX1_lift_170 ?_
    refine lv_aload_n hx hb dX1_lift_173 rfl (lv_at hl 0 rfl) ?_
    refine gt_X1_46_lifted hx hb hta hown hK hC dX1_lift_174 ?_
    obtain ⟨hi_6, hf⟩ := ix_inv hf
    obtain ⟨s_6, e_6, hf⟩ := lt_inv hf
    refine as_X_52 hx hb hK hC hi_6 e_6 dX1_lift_177 (fun H locs hC => ?_)
    refine lv_aload_n hx hb dX1_lift_178 rfl (lv_at hl 0 rfl) ?_
    obtain ⟨s_7, hc_7, hf⟩ := cals_inv hf
    refine cc_Vv (r_X1_countUnlike (D := D) (y := y) (o := o) (ad := ad) (av := av) hc_7 l) hx hb hml hta hown hK hN hV hA hC hRc hRs (by omega) (by omega) wq_216 (q := 48) (ci := 1) rfl rfl wq_217 wq_218 wq_120 wq_205 hd_X1_countUnlike (As := []) (rest := []) rfl rfl hl.1 rfl dX1_lift_179 (fun H locs hC => ?_)
    exact hret _ _ _ _ _ (congrArg (WX y o) (Option.some.inj hf)) dX1_lift_182 hC
  · have hf := it_f c_5 hf
    refine lv_aload_n hx hb dX1_lift_31 rfl (lv_at hl 0 rfl) ?_
    refine gt_X1_21_lifted hx hb hta hown hK hC dX1_lift_32 ?_
    refine lv_iload_n hx hb dX1_lift_35 rfl (lv_at hl 1 rfl) ?_
    refine lv_aload_n hx hb dX1_lift_36 rfl (lv_at hl 0 rfl) ?_
    refine gt_X1_46_lifted hx hb hta hown hK hC dX1_lift_37 ?_
    obtain ⟨hi_8, hf⟩ := ix_inv hf
    obtain ⟨s_8, e_8, hf⟩ := lt_inv hf
    refine as_X_52 hx hb hK hC hi_8 e_8 dX1_lift_40 (fun H locs hC => ?_)
    refine lv_aload_n hx hb dX1_lift_41 rfl (lv_at hl 0 rfl) ?_
    refine gt_X1_24_lifted hx hb hta hown hK hC dX1_lift_42 ?_
    refine lv_iload_n hx hb dX1_lift_45 rfl (lv_at hl 1 rfl) ?_
    refine lv_iconst (v := (-1)) hx hb dX1_lift_46 (by decide) ?_
    obtain ⟨hi_9, hf⟩ := ix_inv hf
    obtain ⟨s_9, e_9, hf⟩ := lt_inv hf
    refine as_X_53 hx hb hK hC hi_9 e_9 dX1_lift_47 (fun H locs hC => ?_)
    refine lv_aload_n hx hb dX1_lift_48 rfl (lv_at hl 0 rfl) ?_
    refine lv_iconst (v := 0) hx hb dX1_lift_49 (by decide) ?_
    obtain ⟨s_10, e_10, hf⟩ := lt_inv hf
    refine pt_X1_59_lifted hx hb hta hown hK hC e_10 dX1_lift_50 (fun H locs hC => ?_)
    refine lv_iconst (v := 0) hx hb dX1_lift_53 (by decide) ?_
    refine lv_istore_n (lv' := [(2, .int 0), (0, .ref (o 48)), (1, .int x1_4)]) hx hb dX1_lift_54 rfl hl (by decide) rfl (fun ls hl => ?_)
    refine itr_inv2 (P := fun (x2_11 : Int32) (s_11 : Sto) => ∀ (H : Heap) (locs : List Loc) (ls : Array Slot), CZ D A s H locs (WX y o s_11) → lv_has ls 3 [(0, .ref (o 48)), (1, .int x1_4), (2, .int x2_11)] → W p l e R s m args below meth c H locs 0 0 Q (F0 m 55 ls [])) hf ?_ _ _ _ hC (lv_sub hl [1, 2, 0] rfl)
    intro a_55 x2_11 s_11 ha_55 hf H locs ls hC hl
    refine lv_iload_n hx hb dX1_lift_55 rfl (lv_at hl 2 rfl) ?_
    refine lv_aload_n hx hb dX1_lift_56 rfl (lv_at hl 0 rfl) ?_
    refine gt_X1_34_lifted hx hb hta hown hK hC dX1_lift_57 ?_
    refine gt_X1_62_listing hx hb hta hown hK hC dX1_lift_60 ?_
    refine lv_aload_n hx hb dX1_lift_63 rfl (lv_at hl 0 rfl) ?_
    refine gt_X1_38_lifted hx hb hta hown hK hC dX1_lift_64 ?_
    refine gt_X1_67_blocks hx hb hta hown hK hC dX1_lift_67 ?_
    refine lv_iload_n hx hb dX1_lift_70 rfl (lv_at hl 1 rfl) ?_
    obtain ⟨hi_12, hf⟩ := ix_inv hf
    obtain ⟨v_12, e_12, hf⟩ := lt_inv hf
    refine al_X_18 hx hb hK hC hi_12 e_12 dX1_lift_71 ?_
    obtain ⟨hi_13, hf⟩ := ix_inv hf
    obtain ⟨v_13, e_13, hf⟩ := lt_inv hf
    refine al_X_6 hx hb hK hC hi_13 e_13 dX1_lift_72 ?_
    refine lv_icmp_ge (tgt := 97) hx hb dX1_lift_73 (by decide) (fun c_14 => ?_) (fun c_14 => ?_)
    · have hf := it_t c_14 hf
      refine lv_aload_n hx hb dX1_lift_97 rfl (lv_at hl 0 rfl) ?_
      refine gt_X1_38_lifted hx hb hta hown hK hC dX1_lift_98 ?_
      refine gt_X1_67_blocks hx hb hta hown hK hC dX1_lift_101 ?_
      refine lv_iload_n hx hb dX1_lift_104 rfl (lv_at hl 1 rfl) ?_
      obtain ⟨hi_15, hf⟩ := ix_inv hf
      obtain ⟨v_15, e_15, hf⟩ := lt_inv hf
      refine al_X_18 hx hb hK hC hi_15 e_15 dX1_lift_105 ?_
      refine lv_istore_n (lv' := [(2, .int v_15), (0, .ref (o 48)), (1, .int x1_4)]) hx hb dX1_lift_106 rfl hl (by decide) rfl (fun ls hl => ?_)
      refine itr_inv2 (P := fun (x2_16 : Int32) (s_16 : Sto) => ∀ (H : Heap) (locs : List Loc) (ls : Array Slot), CZ D A s H locs (WX y o s_16) → lv_has ls 3 [(0, .ref (o 48)), (1, .int x1_4), (2, .int x2_16)] → W p l e R s m args below meth c H locs 0 0 Q (F0 m 107 ls [])) hf ?_ _ _ _ hC (lv_sub hl [1, 2, 0] rfl)
      intro a_107 x2_16 s_16 ha_107 hf H locs ls hC hl
      refine lv_iload_n hx hb dX1_lift_107 rfl (lv_at hl 2 rfl) ?_
      refine lv_aload_n hx hb dX1_lift_108 rfl (lv_at hl 0 rfl) ?_
      refine gt_X1_38_lifted hx hb hta hown hK hC dX1_lift_109 ?_
      refine gt_X1_76_blocks hx hb hta hown hK hC dX1_lift_112 ?_
      refine lv_iload_n hx hb dX1_lift_115 rfl (lv_at hl 1 rfl) ?_
      obtain ⟨hi_17, hf⟩ := ix_inv hf
      obtain ⟨v_17, e_17, hf⟩ := lt_inv hf
      refine al_X_19 hx hb hK hC hi_17 e_17 dX1_lift_116 ?_
      refine lv_icmp_gt (tgt := 132) hx hb dX1_lift_117 (by decide) (fun c_18 => ?_) (fun c_18 => ?_)
      · have hf := it_t c_18 hf
        refine lv_aload_n hx hb dX1_lift_132 rfl (lv_at hl 0 rfl) ?_
        refine gt_X1_34_lifted hx hb hta hown hK hC dX1_lift_133 ?_
        refine lv_aload_n hx hb dX1_lift_136 rfl (lv_at hl 0 rfl) ?_
        refine gt_X1_38_lifted hx hb hta hown hK hC dX1_lift_137 ?_
        refine gt_X1_76_blocks hx hb hta hown hK hC dX1_lift_140 ?_
        refine lv_iload_n hx hb dX1_lift_143 rfl (lv_at hl 1 rfl) ?_
        obtain ⟨hi_19, hf⟩ := ix_inv hf
        obtain ⟨v_19, e_19, hf⟩ := lt_inv hf
        refine al_X_19 hx hb hK hC hi_19 e_19 dX1_lift_144 ?_
        obtain ⟨v_20, hc_20, hf⟩ := calp_inv hf
        refine cc_Vi (r_X3_ends (D := D) (y := y) (o := o) (ad := ad) (av := av) hc_20 l) hx hb hml hta hown hK hN hV hA hC hRc hRs (by omega) (by omega) wq_212 (q := 3) (ci := 3) rfl rfl wq_29 wq_30 wq_27 wq_15 hd_X3_ends (As := [.int v_19]) (rest := []) rfl rfl hl.1 rfl dX1_lift_145 (fun H locs hC => ?_)
        obtain ⟨k_156, hk_156, hf⟩ := jn_inv1 hf
        have hj_156 : ∀ (s_21 : Sto) (H : Heap) (locs : List Loc) (ls : Array Slot), k_156 s_21 = some σ2 → CZ D A s H locs (WX y o s_21) → lv_has ls 3 [(0, .ref (o 48)), (1, .int x1_4)] → W p l e R s m args below meth c H locs 0 0 Q (F0 m 156 ls []) := by
          intro s_21 H locs ls hf hC hl
          have hf := hk_156 _ hf
          obtain ⟨x1_22, e_22, hf⟩ := lt_inv hf
          refine lv_iinc (v := x1_22) (lv' := [(1, .int x1_22), (0, .ref (o 48))]) hx hb dX1_lift_156 hl (k := 1) rfl e_22.symm (by decide) rfl (fun ls hl => ?_)
          refine lv_goto (tgt := 20) hx hb dX1_lift_159 (by decide) ?_
          exact ha_20 _ _ hf _ _ _ hC (lv_sub hl [1, 0] rfl)
        refine lv_if_ne (tgt := 156) hx hb dX1_lift_148 (by decide) (fun c_23 => ?_) (fun c_23 => ?_)
        · have hf := it_f c_23 hf
          exact hj_156 _ _ _ _ hf hC (lv_sub hl [0, 1] rfl)
        · have hf := it_t c_23 hf
          refine lv_aload_n hx hb dX1_lift_151 rfl (lv_at hl 0 rfl) ?_
          refine lv_iload_n hx hb dX1_lift_152 rfl (lv_at hl 1 rfl) ?_
          obtain ⟨s_24, hc_24, hf⟩ := cals_inv hf
          refine cc_Vv (r_X1_handOver (D := D) (y := y) (o := o) (ad := ad) (av := av) hc_24 l) hx hb hml hta hown hK hN hV hA hC hRc hRs (by omega) (by omega) wq_213 (q := 48) (ci := 1) rfl rfl wq_214 wq_215 wq_120 wq_195 hd_X1_handOver (As := [.int x1_4]) (rest := []) rfl rfl hl.1 rfl dX1_lift_153 (fun H locs hC => ?_)
          exact hj_156 _ _ _ _ hf hC (lv_sub hl [0, 1] rfl)
      · have hf := it_f c_18 hf
        refine lv_aload_n hx hb dX1_lift_120 rfl (lv_at hl 0 rfl) ?_
        refine lv_iload_n hx hb dX1_lift_121 rfl (lv_at hl 1 rfl) ?_
        refine lv_iload_n hx hb dX1_lift_122 rfl (lv_at hl 2 rfl) ?_
        obtain ⟨s_25, hc_25, hf⟩ := cals_inv hf
        refine cc_Vv (r_X1_step (D := D) (y := y) (o := o) (ad := ad) (av := av) hc_25 l) hx hb hml hta hown hK hN hV hA hC hRc hRs (by omega) (by omega) wq_209 (q := 48) (ci := 1) rfl rfl wq_210 wq_211 wq_120 wq_175 hd_X1_step (As := [.int x1_4, .int x2_16]) (rest := []) rfl rfl hl.1 rfl dX1_lift_123 (fun H locs hC => ?_)
        obtain ⟨x2_26, e_26, hf⟩ := lt_inv hf
        refine lv_iinc (v := x2_26) (lv' := [(2, .int x2_26), (0, .ref (o 48)), (1, .int x1_4)]) hx hb dX1_lift_126 hl (k := 2) rfl e_26.symm (by decide) rfl (fun ls hl => ?_)
        refine lv_goto (tgt := 107) hx hb dX1_lift_129 (by decide) ?_
        exact ha_107 _ _ hf _ _ _ hC (lv_sub hl [1, 2, 0] rfl)
    · have hf := it_f c_14 hf
      refine lv_aload_n hx hb dX1_lift_76 rfl (lv_at hl 0 rfl) ?_
      refine lv_aload_n hx hb dX1_lift_77 rfl (lv_at hl 0 rfl) ?_
      refine gt_X1_42_lifted hx hb hta hown hK hC dX1_lift_78 ?_
      refine lv_bipush (v := 84) hx hb dX1_lift_81 (by decide) ?_
      refine lv_iload_n hx hb dX1_lift_83 rfl (lv_at hl 2 rfl) ?_
      refine lv_iconst (v := 0) hx hb dX1_lift_84 (by decide) ?_
      obtain ⟨v_27, s_27, hc_27, hf⟩ := calv_inv hf
      refine cc_Vi (r_X7_make (D := D) (y := y) (o := o) (ad := ad) (av := av) hc_27 l) hx hb hml hta hown hK hN hV hA hC hRc hRs (by omega) (by omega) wq_121 (q := 42) (ci := 7) rfl rfl wq_122 wq_123 wq_124 wq_103 hd_X7_make (As := [.int 84, .int x2_11, .int 0]) (rest := [.ref (o 48)]) rfl rfl hl.1 rfl dX1_lift_85 (fun H locs hC => ?_)
      obtain ⟨s_28, hc_28, hf⟩ := cals_inv hf
      refine cc_Vv (r_X1_push (D := D) (y := y) (o := o) (ad := ad) (av := av) hc_28 l) hx hb hml hta hown hK hN hV hA hC hRc hRs (by omega) (by omega) wq_147 (q := 48) (ci := 1) rfl rfl wq_148 wq_149 wq_120 wq_110 hd_X1_push (As := [.int v_27]) (rest := []) rfl rfl hl.1 rfl dX1_lift_88 (fun H locs hC => ?_)
      obtain ⟨x2_29, e_29, hf⟩ := lt_inv hf
      refine lv_iinc (v := x2_29) (lv' := [(2, .int x2_29), (0, .ref (o 48)), (1, .int x1_4)]) hx hb dX1_lift_91 hl (k := 2) rfl e_29.symm (by decide) rfl (fun ls hl => ?_)
      refine lv_goto (tgt := 55) hx hb dX1_lift_94 (by decide) ?_
      exact ha_55 _ _ hf _ _ _ hC (lv_sub hl [1, 2, 0] rfl)

set_option maxHeartbeats 8000000 in
set_option maxRecDepth 100000 in
theorem r_X10_assumeAll {D : va_G} {y : Nat → ClassId} {o : Nat → Nat} {ad av : Nat → Nat} {σ : Sto} {σ2 : Sto} (hf : f_X10_assumeAll σ = some σ2) (l : Launch) (sz : Nat) : Met l yX10_assumeAll (Cond.code yX10_assumeAll cX10_assumeAll 2 none :: ALW) { frames := 0, cells := 0, slots := 0, locals := 0 } (va_Pc [.ref (o 56)] (PZ D y ad av (WX y o σ) sz)) (QZv D (WX y o σ) (WX y o σ2) sz) 0 0 (va_A (WX y o σ) sz) := by
  refine met_v (by decide) (Nat.le_of_ble_eq_true rfl) ?_
  intro p e R s m args below meth c Q A ls hx hb hml hta hown hRc hRs hRf hRl hN hK hV hA hret hC hl
  have hl : lv_has ls 2 [(0, .ref (o 56))] := hl
  unfold f_X10_assumeAll at hf
  refine lv_iconst (v := 0) hx hb dX10_assumeAll_0 (by decide) ?_
  refine lv_istore_n (lv' := [(1, .int 0), (0, .ref (o 56))]) hx hb dX10_assumeAll_1 rfl hl (by decide) rfl (fun ls hl => ?_)
  refine itr_inv2 (P := fun (x1_1 : Int32) (s_1 : Sto) => ∀ (H : Heap) (locs : List Loc) (ls : Array Slot), CZ D A s H locs (WX y o s_1) → lv_has ls 2 [(0, .ref (o 56)), (1, .int x1_1)] → W p l e R s m args below meth c H locs 0 0 Q (F0 m 2 ls [])) hf ?_ _ _ _ hC (lv_sub hl [1, 0] rfl)
  intro a_2 x1_1 s_1 ha_2 hf H locs ls hC hl
  refine lv_iload_n hx hb dX10_assumeAll_2 rfl (lv_at hl 1 rfl) ?_
  refine lv_bipush (v := 6) hx hb dX10_assumeAll_3 (by decide) ?_
  refine lv_icmp_ge (tgt := 30) hx hb dX10_assumeAll_5 (by decide) (fun c_2 => ?_) (fun c_2 => ?_)
  · have hf := it_t c_2 hf
    refine lv_iconst (v := 0) hx hb dX10_assumeAll_30 (by decide) ?_
    refine lv_istore_n (lv' := [(1, .int 0), (0, .ref (o 56))]) hx hb dX10_assumeAll_31 rfl hl (by decide) rfl (fun ls hl => ?_)
    refine itr_inv2 (P := fun (x1_3 : Int32) (s_3 : Sto) => ∀ (H : Heap) (locs : List Loc) (ls : Array Slot), CZ D A s H locs (WX y o s_3) → lv_has ls 2 [(0, .ref (o 56)), (1, .int x1_3)] → W p l e R s m args below meth c H locs 0 0 Q (F0 m 32 ls [])) hf ?_ _ _ _ hC (lv_sub hl [1, 0] rfl)
    intro a_32 x1_3 s_3 ha_32 hf H locs ls hC hl
    refine lv_iload_n hx hb dX10_assumeAll_32 rfl (lv_at hl 1 rfl) ?_
    refine lv_bipush (v := 6) hx hb dX10_assumeAll_33 (by decide) ?_
    refine lv_icmp_ge (tgt := 51) hx hb dX10_assumeAll_35 (by decide) (fun c_4 => ?_) (fun c_4 => ?_)
    · have hf := it_t c_4 hf
      refine lv_iconst (v := 0) hx hb dX10_assumeAll_51 (by decide) ?_
      refine lv_istore_n (lv' := [(1, .int 0), (0, .ref (o 56))]) hx hb dX10_assumeAll_52 rfl hl (by decide) rfl (fun ls hl => ?_)
      refine itr_inv2 (P := fun (x1_5 : Int32) (s_5 : Sto) => ∀ (H : Heap) (locs : List Loc) (ls : Array Slot), CZ D A s H locs (WX y o s_5) → lv_has ls 2 [(0, .ref (o 56)), (1, .int x1_5)] → W p l e R s m args below meth c H locs 0 0 Q (F0 m 53 ls [])) hf ?_ _ _ _ hC (lv_sub hl [1, 0] rfl)
      intro a_53 x1_5 s_5 ha_53 hf H locs ls hC hl
      refine lv_iload_n hx hb dX10_assumeAll_53 rfl (lv_at hl 1 rfl) ?_
      refine lv_sipush (v := 160) hx hb dX10_assumeAll_54 (by decide) ?_
      refine lv_icmp_ge (tgt := 73) hx hb dX10_assumeAll_57 (by decide) (fun c_6 => ?_) (fun c_6 => ?_)
      · have hf := it_t c_6 hf
        refine lv_iconst (v := 0) hx hb dX10_assumeAll_73 (by decide) ?_
        refine lv_istore_n (lv' := [(1, .int 0), (0, .ref (o 56))]) hx hb dX10_assumeAll_74 rfl hl (by decide) rfl (fun ls hl => ?_)
        refine itr_inv2 (P := fun (x1_7 : Int32) (s_7 : Sto) => ∀ (H : Heap) (locs : List Loc) (ls : Array Slot), CZ D A s H locs (WX y o s_7) → lv_has ls 2 [(0, .ref (o 56)), (1, .int x1_7)] → W p l e R s m args below meth c H locs 0 0 Q (F0 m 75 ls [])) hf ?_ _ _ _ hC (lv_sub hl [1, 0] rfl)
        intro a_75 x1_7 s_7 ha_75 hf H locs ls hC hl
        refine lv_iload_n hx hb dX10_assumeAll_75 rfl (lv_at hl 1 rfl) ?_
        refine lv_aload_n hx hb dX10_assumeAll_76 rfl (lv_at hl 0 rfl) ?_
        refine gt_X10_21_truths hx hb hta hown hK hC dX10_assumeAll_77 ?_
        refine gt_X10_61_blocks hx hb hta hown hK hC dX10_assumeAll_80 ?_
        refine lv_icmp_ge (tgt := 111) hx hb dX10_assumeAll_83 (by decide) (fun c_8 => ?_) (fun c_8 => ?_)
        · have hf := it_t c_8 hf
          exact hret _ _ _ _ _ (congrArg (WX y o) (Option.some.inj hf)) dX10_assumeAll_111 hC
        · have hf := it_f c_8 hf
          refine lv_aload_n hx hb dX10_assumeAll_86 rfl (lv_at hl 0 rfl) ?_
          refine gt_X10_21_truths hx hb hta hown hK hC dX10_assumeAll_87 ?_
          refine gt_X10_66_blocks hx hb hta hown hK hC dX10_assumeAll_90 ?_
          refine lv_iload_n hx hb dX10_assumeAll_93 rfl (lv_at hl 1 rfl) ?_
          obtain ⟨hi_9, hf⟩ := ix_inv hf
          obtain ⟨v_9, e_9, hf⟩ := lt_inv hf
          refine al_X_28 hx hb hK hC hi_9 e_9 dX10_assumeAll_94 ?_
          obtain ⟨k_105, hk_105, hf⟩ := jn_inv1 hf
          have hj_105 : ∀ (s_10 : Sto) (H : Heap) (locs : List Loc) (ls : Array Slot), k_105 s_10 = some σ2 → CZ D A s H locs (WX y o s_10) → lv_has ls 2 [(0, .ref (o 56)), (1, .int x1_7)] → W p l e R s m args below meth c H locs 0 0 Q (F0 m 105 ls []) := by
            intro s_10 H locs ls hf hC hl
            have hf := hk_105 _ hf
            obtain ⟨x1_11, e_11, hf⟩ := lt_inv hf
            refine lv_iinc (v := x1_11) (lv' := [(1, .int x1_11), (0, .ref (o 56))]) hx hb dX10_assumeAll_105 hl (k := 1) rfl e_11.symm (by decide) rfl (fun ls hl => ?_)
            refine lv_goto (tgt := 75) hx hb dX10_assumeAll_108 (by decide) ?_
            exact ha_75 _ _ hf _ _ _ hC (lv_sub hl [1, 0] rfl)
          refine lv_if_eq (tgt := 105) hx hb dX10_assumeAll_95 (by decide) (fun c_12 => ?_) (fun c_12 => ?_)
          · have hf := it_t c_12 hf
            exact hj_105 _ _ _ _ hf hC hl
          · have hf := it_f c_12 hf
            refine lv_aload_n hx hb dX10_assumeAll_98 rfl (lv_at hl 0 rfl) ?_
            refine gt_X10_15_truths hx hb hta hown hK hC dX10_assumeAll_99 ?_
            refine lv_iconst (v := 0) hx hb dX10_assumeAll_102 (by decide) ?_
            refine lv_iconst (v := 0) hx hb dX10_assumeAll_103 (by decide) ?_
            obtain ⟨hi_13, hf⟩ := ix_inv hf
            obtain ⟨s_13, e_13, hf⟩ := lt_inv hf
            refine as_X_58 hx hb hK hC hi_13 (Or.inl rfl) e_13 dX10_assumeAll_104 (fun H locs hC => ?_)
            exact hj_105 _ _ _ _ hf hC hl
      · have hf := it_f c_6 hf
        refine lv_aload_n hx hb dX10_assumeAll_60 rfl (lv_at hl 0 rfl) ?_
        refine gt_X10_18_truths hx hb hta hown hK hC dX10_assumeAll_61 ?_
        refine lv_iload_n hx hb dX10_assumeAll_64 rfl (lv_at hl 1 rfl) ?_
        refine lv_iconst (v := 1) hx hb dX10_assumeAll_65 (by decide) ?_
        obtain ⟨hi_14, hf⟩ := ix_inv hf
        obtain ⟨s_14, e_14, hf⟩ := lt_inv hf
        refine as_X_59 hx hb hK hC hi_14 (Or.inr rfl) e_14 dX10_assumeAll_66 (fun H locs hC => ?_)
        obtain ⟨x1_15, e_15, hf⟩ := lt_inv hf
        refine lv_iinc (v := x1_15) (lv' := [(1, .int x1_15), (0, .ref (o 56))]) hx hb dX10_assumeAll_67 hl (k := 1) rfl e_15.symm (by decide) rfl (fun ls hl => ?_)
        refine lv_goto (tgt := 53) hx hb dX10_assumeAll_70 (by decide) ?_
        exact ha_53 _ _ hf _ _ _ hC (lv_sub hl [1, 0] rfl)
    · have hf := it_f c_4 hf
      refine lv_aload_n hx hb dX10_assumeAll_38 rfl (lv_at hl 0 rfl) ?_
      refine gt_X10_15_truths hx hb hta hown hK hC dX10_assumeAll_39 ?_
      refine lv_iload_n hx hb dX10_assumeAll_42 rfl (lv_at hl 1 rfl) ?_
      refine lv_iconst (v := 1) hx hb dX10_assumeAll_43 (by decide) ?_
      obtain ⟨hi_16, hf⟩ := ix_inv hf
      obtain ⟨s_16, e_16, hf⟩ := lt_inv hf
      refine as_X_58 hx hb hK hC hi_16 (Or.inr rfl) e_16 dX10_assumeAll_44 (fun H locs hC => ?_)
      obtain ⟨x1_17, e_17, hf⟩ := lt_inv hf
      refine lv_iinc (v := x1_17) (lv' := [(1, .int x1_17), (0, .ref (o 56))]) hx hb dX10_assumeAll_45 hl (k := 1) rfl e_17.symm (by decide) rfl (fun ls hl => ?_)
      refine lv_goto (tgt := 32) hx hb dX10_assumeAll_48 (by decide) ?_
      exact ha_32 _ _ hf _ _ _ hC (lv_sub hl [1, 0] rfl)
  · have hf := it_f c_2 hf
    refine lv_aload_n hx hb dX10_assumeAll_8 rfl (lv_at hl 0 rfl) ?_
    refine gt_X10_9_truths hx hb hta hown hK hC dX10_assumeAll_9 ?_
    refine lv_iload_n hx hb dX10_assumeAll_12 rfl (lv_at hl 1 rfl) ?_
    refine lv_iload_n hx hb dX10_assumeAll_13 rfl (lv_at hl 1 rfl) ?_
    refine lv_iconst (v := 1) hx hb dX10_assumeAll_14 (by decide) ?_
    obtain ⟨k_23, hk_23, hf⟩ := jn_inv1 hf
    have hj_23 : ∀ (t0_18 : Int32) (H : Heap) (locs : List Loc) (ls : Array Slot), k_23 t0_18 = some σ2 → CZ D A s H locs (WX y o s_1) → lv_has ls 2 [(0, .ref (o 56)), (1, .int x1_1)] → W p l e R s m args below meth c H locs 0 0 Q (F0 m 23 ls [.int t0_18, .int x1_1, .ref (o 57)]) := by
      intro t0_18 H locs ls hf hC hl
      have hf := hk_23 _ hf
      obtain ⟨hb_20, hf⟩ := bz_inv hf
      obtain ⟨hi_19, hf⟩ := ix_inv hf
      obtain ⟨s_19, e_19, hf⟩ := lt_inv hf
      refine as_X_57 hx hb hK hC hi_19 hb_20 e_19 dX10_assumeAll_23 (fun H locs hC => ?_)
      obtain ⟨x1_21, e_21, hf⟩ := lt_inv hf
      refine lv_iinc (v := x1_21) (lv' := [(1, .int x1_21), (0, .ref (o 56))]) hx hb dX10_assumeAll_24 hl (k := 1) rfl e_21.symm (by decide) rfl (fun ls hl => ?_)
      refine lv_goto (tgt := 2) hx hb dX10_assumeAll_27 (by decide) ?_
      exact ha_2 _ _ hf _ _ _ hC (lv_sub hl [1, 0] rfl)
    refine lv_icmp_le (tgt := 22) hx hb dX10_assumeAll_15 (by decide) (fun c_22 => ?_) (fun c_22 => ?_)
    · have hf := it_t c_22 hf
      refine lv_iconst (v := 0) hx hb dX10_assumeAll_22 (by decide) ?_
      exact hj_23 _ _ _ _ hf hC hl
    · have hf := it_f c_22 hf
      refine lv_iconst (v := 1) hx hb dX10_assumeAll_18 (by decide) ?_
      refine lv_goto (tgt := 23) hx hb dX10_assumeAll_19 (by decide) ?_
      exact hj_23 _ _ _ _ hf hC hl

set_option maxHeartbeats 8000000 in
set_option maxRecDepth 100000 in
theorem r_X10_holds {D : va_G} {y : Nat → ClassId} {o : Nat → Nat} {ad av : Nat → Nat} {x1 : Int32} {σ : Sto} {v : Int32} (hf : f_X10_holds x1 σ = some v) (l : Launch) (sz : Nat) : Met l yX10_holds (Cond.code yX10_holds cX10_holds 3 (some .boolean) :: ALW) { frames := 0, cells := 0, slots := 0, locals := 0 } (va_Pc [.ref (o 56), .int x1] (PZ D y ad av (WX y o σ) sz)) (QZi D (WX y o σ) v (WX y o σ) sz) 0 0 (va_A (WX y o σ) sz) := by
  refine met_i (by decide) (Nat.le_of_ble_eq_true rfl) ?_
  intro p e R s m args below meth c Q A ls hx hb hml hta hown hRc hRs hRf hRl hN hK hV hA hret hC hl
  have hl : lv_has ls 3 [(0, .ref (o 56)), (1, .int x1)] := hl
  unfold f_X10_holds at hf
  refine lv_aload_n hx hb dX10_holds_0 rfl (lv_at hl 0 rfl) ?_
  refine gt_X10_25_truths hx hb hta hown hK hC dX10_holds_1 ?_
  refine gt_X10_69_pool hx hb hta hown hK hC dX10_holds_4 ?_
  refine lv_iload_n hx hb dX10_holds_7 rfl (lv_at hl 1 rfl) ?_
  obtain ⟨hi_1, hf⟩ := ix_inv hf
  obtain ⟨v_1, e_1, hf⟩ := lt_inv hf
  refine al_X_44 hx hb hK hC hi_1 e_1 dX10_holds_8 ?_
  refine lv_istore_n (lv' := [(2, .int v_1), (0, .ref (o 56)), (1, .int x1)]) hx hb dX10_holds_9 rfl hl (by decide) rfl (fun ls hl => ?_)
  refine lv_aload_n hx hb dX10_holds_10 rfl (lv_at hl 1 rfl) ?_
  refine gt_X10_25_truths hx hb hta hown hK hC dX10_holds_11 ?_
  refine gt_X10_74_pool hx hb hta hown hK hC dX10_holds_14 ?_
  refine lv_iload_n hx hb dX10_holds_17 rfl (lv_at hl 2 rfl) ?_
  obtain ⟨hi_2, hf⟩ := ix_inv hf
  obtain ⟨v_2, e_2, hf⟩ := lt_inv hf
  refine al_X_43 hx hb hK hC hi_2 e_2 dX10_holds_18 ?_
  by_cases h_3_0 : v_2.toInt = 33 ∨ v_2.toInt = 60 ∨ v_2.toInt = 61
  · have hf := it_t h_3_0 hf
    refine lv_lookup (off := 76) (tgt := 95) hx hb dX10_holds_19 (by decide) (by rcases h_3_0 with h_3_0 | h_3_0 | h_3_0 <;> (rw [h_3_0]; decide)) (by decide) ?_
    refine lv_iconst (v := 1) hx hb dX10_holds_95 (by decide) ?_
    exact hret _ _ _ _ _ _ (Option.some.inj hf) rfl rfl dX10_holds_96 hC
  have hf := it_f h_3_0 hf
  by_cases h_3_1 : v_2.toInt = 84
  · have hf := it_t h_3_1 hf
    refine lv_lookup (off := 85) (tgt := 104) hx hb dX10_holds_19 (by decide) (by (rw [h_3_1]; decide)) (by decide) ?_
    refine lv_aload_n hx hb dX10_holds_104 rfl (lv_at hl 1 rfl) ?_
    refine gt_X10_15_truths hx hb hta hown hK hC dX10_holds_105 ?_
    refine lv_iload_n hx hb dX10_holds_108 rfl (lv_at hl 0 rfl) ?_
    obtain ⟨hi_4, hf⟩ := ix_inv hf
    obtain ⟨v_4, e_4, hf⟩ := lt_inv hf
    refine al_X_58 hx hb hK hC hi_4 e_4 dX10_holds_109 ?_
    obtain ⟨hb_5, hf⟩ := bz_inv hf
    exact hret _ _ _ _ _ _ (Option.some.inj hf) rfl (bz_nar hb_5) dX10_holds_110 hC
  have hf := it_f h_3_1 hf
  by_cases h_3_2 : v_2.toInt = 88
  · have hf := it_t h_3_2 hf
    refine lv_lookup (off := 92) (tgt := 111) hx hb dX10_holds_19 (by decide) (by (rw [h_3_2]; decide)) (by decide) ?_
    refine lv_iload_n hx hb dX10_holds_111 rfl (lv_at hl 0 rfl) ?_
    refine lv_sipush (v := 160) hx hb dX10_holds_112 (by decide) ?_
    obtain ⟨k_131, hk_131, hf⟩ := jn_inv0 hf
    have hj_131 : ∀  (H : Heap) (locs : List Loc) (ls : Array Slot), k_131 = some v → CZ D A s H locs (WX y o σ) → lv_has ls 3 [] → W p l e R s m args below meth c H locs 0 0 Q (F0 m 131 ls []) := by
      intro H locs ls hf hC hl
      have hf := hk_131 hf
      refine lv_iconst (v := 0) hx hb dX10_holds_131 (by decide) ?_
      exact hret _ _ _ _ _ _ (Option.some.inj hf) rfl rfl dX10_holds_132 hC
    refine lv_icmp_ge (tgt := 131) hx hb dX10_holds_115 (by decide) (fun c_7 => ?_) (fun c_7 => ?_)
    · have hf := it_t c_7 hf
      exact hj_131 _ _ _ hf hC (lv_sub hl [] rfl)
    · have hf := it_f c_7 hf
      refine lv_aload_n hx hb dX10_holds_118 rfl (lv_at hl 1 rfl) ?_
      refine gt_X10_18_truths hx hb hta hown hK hC dX10_holds_119 ?_
      refine lv_iload_n hx hb dX10_holds_122 rfl (lv_at hl 0 rfl) ?_
      obtain ⟨hi_8, hf⟩ := ix_inv hf
      obtain ⟨v_8, e_8, hf⟩ := lt_inv hf
      refine al_X_59 hx hb hK hC hi_8 e_8 dX10_holds_123 ?_
      refine lv_if_eq (tgt := 131) hx hb dX10_holds_124 (by decide) (fun c_9 => ?_) (fun c_9 => ?_)
      · have hf := it_t c_9 hf
        exact hj_131 _ _ _ hf hC (lv_sub hl [] rfl)
      · have hf := it_f c_9 hf
        refine lv_iconst (v := 1) hx hb dX10_holds_127 (by decide) ?_
        refine lv_goto (tgt := 132) hx hb dX10_holds_128 (by decide) ?_
        exact hret _ _ _ _ _ _ (Option.some.inj hf) rfl rfl dX10_holds_132 hC
  have hf := it_f h_3_2 hf
  by_cases h_3_3 : v_2.toInt = 107
  · have hf := it_t h_3_3 hf
    refine lv_lookup (off := 65) (tgt := 84) hx hb dX10_holds_19 (by decide) (by (rw [h_3_3]; decide)) (by decide) ?_
    refine lv_iload_n hx hb dX10_holds_84 rfl (lv_at hl 0 rfl) ?_
    refine lv_iconst (v := 1) hx hb dX10_holds_85 (by decide) ?_
    refine lv_icmp_gt (tgt := 93) hx hb dX10_holds_86 (by decide) (fun c_10 => ?_) (fun c_10 => ?_)
    · have hf := it_t c_10 hf
      refine lv_iconst (v := 0) hx hb dX10_holds_93 (by decide) ?_
      exact hret _ _ _ _ _ _ (Option.some.inj hf) rfl rfl dX10_holds_94 hC
    · have hf := it_f c_10 hf
      refine lv_iconst (v := 1) hx hb dX10_holds_89 (by decide) ?_
      refine lv_goto (tgt := 94) hx hb dX10_holds_90 (by decide) ?_
      exact hret _ _ _ _ _ _ (Option.some.inj hf) rfl rfl dX10_holds_94 hC
  have hf := it_f h_3_3 hf
  by_cases h_3_4 : v_2.toInt = 108
  · have hf := it_t h_3_4 hf
    refine lv_lookup (off := 78) (tgt := 97) hx hb dX10_holds_19 (by decide) (by (rw [h_3_4]; decide)) (by decide) ?_
    refine lv_aload_n hx hb dX10_holds_97 rfl (lv_at hl 1 rfl) ?_
    refine gt_X10_9_truths hx hb hta hown hK hC dX10_holds_98 ?_
    refine lv_iload_n hx hb dX10_holds_101 rfl (lv_at hl 0 rfl) ?_
    obtain ⟨hi_11, hf⟩ := ix_inv hf
    obtain ⟨v_11, e_11, hf⟩ := lt_inv hf
    refine al_X_57 hx hb hK hC hi_11 e_11 dX10_holds_102 ?_
    obtain ⟨hb_12, hf⟩ := bz_inv hf
    exact hret _ _ _ _ _ _ (Option.some.inj hf) rfl (bz_nar hb_12) dX10_holds_103 hC
  have hf := it_f h_3_4 hf
  refine lv_lookup (off := 114) (tgt := 133) hx hb dX10_holds_19 (by decide) (lk_none (by intro a ha; simp only [List.mem_cons, List.not_mem_nil, or_false] at ha; rcases ha with rfl | rfl | rfl | rfl | rfl | rfl | rfl <;> (simp only; omega))) (by decide) ?_
  refine lv_iconst (v := 0) hx hb dX10_holds_133 (by decide) ?_
  exact hret _ _ _ _ _ _ (Option.some.inj hf) rfl rfl dX10_holds_134 hC

set_option maxHeartbeats 8000000 in
set_option maxRecDepth 100000 in
theorem r_X10_isTaken {D : va_G} {y : Nat → ClassId} {o : Nat → Nat} {ad av : Nat → Nat} {x1 : Int32} {σ : Sto} {v : Int32} (hf : f_X10_isTaken x1 σ = some v) (l : Launch) (sz : Nat) : Met l yX10_isTaken (Cond.code yX10_isTaken cX10_isTaken 3 (some .boolean) :: ALW) { frames := 0, cells := 0, slots := 0, locals := 0 } (va_Pc [.ref (o 56), .int x1] (PZ D y ad av (WX y o σ) sz)) (QZi D (WX y o σ) v (WX y o σ) sz) 0 0 (va_A (WX y o σ) sz) := by
  refine met_i (by decide) (Nat.le_of_ble_eq_true rfl) ?_
  intro p e R s m args below meth c Q A ls hx hb hml hta hown hRc hRs hRf hRl hN hK hV hA hret hC hl
  have hl : lv_has ls 3 [(0, .ref (o 56)), (1, .int x1)] := hl
  unfold f_X10_isTaken at hf
  refine lv_aload_n hx hb dX10_isTaken_0 rfl (lv_at hl 0 rfl) ?_
  refine gt_X10_29_truths hx hb hta hown hK hC dX10_isTaken_1 ?_
  refine gt_X10_77_lifted hx hb hta hown hK hC dX10_isTaken_4 ?_
  refine lv_iload_n hx hb dX10_isTaken_7 rfl (lv_at hl 1 rfl) ?_
  obtain ⟨hi_1, hf⟩ := ix_inv hf
  obtain ⟨v_1, e_1, hf⟩ := lt_inv hf
  refine al_X_50 hx hb hK hC hi_1 e_1 dX10_isTaken_8 ?_
  refine lv_istore_n (lv' := [(2, .int v_1), (0, .ref (o 56)), (1, .int x1)]) hx hb dX10_isTaken_9 rfl hl (by decide) rfl (fun ls hl => ?_)
  refine lv_aload_n hx hb dX10_isTaken_10 rfl (lv_at hl 1 rfl) ?_
  refine gt_X10_29_truths hx hb hta hown hK hC dX10_isTaken_11 ?_
  refine gt_X10_43_lifted hx hb hta hown hK hC dX10_isTaken_14 ?_
  refine lv_iload_n hx hb dX10_isTaken_17 rfl (lv_at hl 2 rfl) ?_
  obtain ⟨hi_2, hf⟩ := ix_inv hf
  obtain ⟨v_2, e_2, hf⟩ := lt_inv hf
  refine al_X_49 hx hb hK hC hi_2 e_2 dX10_isTaken_18 ?_
  by_cases h_3_0 : v_2.toInt = 0
  · have hf := it_t h_3_0 hf
    refine lv_lookup (off := 25) (tgt := 44) hx hb dX10_isTaken_19 (by decide) (by (rw [h_3_0]; decide)) (by decide) ?_
    refine lv_aload_n hx hb dX10_isTaken_44 rfl (lv_at hl 1 rfl) ?_
    refine gt_X10_9_truths hx hb hta hown hK hC dX10_isTaken_45 ?_
    refine lv_iload_n hx hb dX10_isTaken_48 rfl (lv_at hl 0 rfl) ?_
    obtain ⟨hi_4, hf⟩ := ix_inv hf
    obtain ⟨v_4, e_4, hf⟩ := lt_inv hf
    refine al_X_57 hx hb hK hC hi_4 e_4 dX10_isTaken_49 ?_
    obtain ⟨hb_5, hf⟩ := bz_inv hf
    exact hret _ _ _ _ _ _ (Option.some.inj hf) rfl (bz_nar hb_5) dX10_isTaken_50 hC
  have hf := it_f h_3_0 hf
  by_cases h_3_1 : v_2.toInt = 1
  · have hf := it_t h_3_1 hf
    refine lv_lookup (off := 32) (tgt := 51) hx hb dX10_isTaken_19 (by decide) (by (rw [h_3_1]; decide)) (by decide) ?_
    refine lv_aload_n hx hb dX10_isTaken_51 rfl (lv_at hl 1 rfl) ?_
    refine gt_X10_15_truths hx hb hta hown hK hC dX10_isTaken_52 ?_
    refine lv_iload_n hx hb dX10_isTaken_55 rfl (lv_at hl 0 rfl) ?_
    obtain ⟨hi_6, hf⟩ := ix_inv hf
    obtain ⟨v_6, e_6, hf⟩ := lt_inv hf
    refine al_X_58 hx hb hK hC hi_6 e_6 dX10_isTaken_56 ?_
    obtain ⟨hb_7, hf⟩ := bz_inv hf
    exact hret _ _ _ _ _ _ (Option.some.inj hf) rfl (bz_nar hb_7) dX10_isTaken_57 hC
  have hf := it_f h_3_1 hf
  refine lv_lookup (off := 39) (tgt := 58) hx hb dX10_isTaken_19 (by decide) (lk_none (by intro a ha; simp only [List.mem_cons, List.not_mem_nil, or_false] at ha; rcases ha with rfl | rfl <;> (simp only; omega))) (by decide) ?_
  refine lv_iload_n hx hb dX10_isTaken_58 rfl (lv_at hl 0 rfl) ?_
  refine lv_sipush (v := 160) hx hb dX10_isTaken_59 (by decide) ?_
  obtain ⟨k_78, hk_78, hf⟩ := jn_inv0 hf
  have hj_78 : ∀  (H : Heap) (locs : List Loc) (ls : Array Slot), k_78 = some v → CZ D A s H locs (WX y o σ) → lv_has ls 3 [] → W p l e R s m args below meth c H locs 0 0 Q (F0 m 78 ls []) := by
    intro H locs ls hf hC hl
    have hf := hk_78 hf
    refine lv_iconst (v := 0) hx hb dX10_isTaken_78 (by decide) ?_
    exact hret _ _ _ _ _ _ (Option.some.inj hf) rfl rfl dX10_isTaken_79 hC
  refine lv_icmp_ge (tgt := 78) hx hb dX10_isTaken_62 (by decide) (fun c_9 => ?_) (fun c_9 => ?_)
  · have hf := it_t c_9 hf
    exact hj_78 _ _ _ hf hC (lv_sub hl [] rfl)
  · have hf := it_f c_9 hf
    refine lv_aload_n hx hb dX10_isTaken_65 rfl (lv_at hl 1 rfl) ?_
    refine gt_X10_18_truths hx hb hta hown hK hC dX10_isTaken_66 ?_
    refine lv_iload_n hx hb dX10_isTaken_69 rfl (lv_at hl 0 rfl) ?_
    obtain ⟨hi_10, hf⟩ := ix_inv hf
    obtain ⟨v_10, e_10, hf⟩ := lt_inv hf
    refine al_X_59 hx hb hK hC hi_10 e_10 dX10_isTaken_70 ?_
    refine lv_if_eq (tgt := 78) hx hb dX10_isTaken_71 (by decide) (fun c_11 => ?_) (fun c_11 => ?_)
    · have hf := it_t c_11 hf
      exact hj_78 _ _ _ hf hC (lv_sub hl [] rfl)
    · have hf := it_f c_11 hf
      refine lv_iconst (v := 1) hx hb dX10_isTaken_74 (by decide) ?_
      refine lv_goto (tgt := 79) hx hb dX10_isTaken_75 (by decide) ?_
      exact hret _ _ _ _ _ _ (Option.some.inj hf) rfl rfl dX10_isTaken_79 hC

set_option maxHeartbeats 8000000 in
set_option maxRecDepth 100000 in
theorem r_X10_deny {D : va_G} {y : Nat → ClassId} {o : Nat → Nat} {ad av : Nat → Nat} {x1 : Int32} {σ : Sto} {σ2 : Sto} (hf : f_X10_deny x1 σ = some σ2) (l : Launch) (sz : Nat) : Met l yX10_deny (Cond.code yX10_deny cX10_deny 3 none :: ALW) { frames := 0, cells := 0, slots := 0, locals := 0 } (va_Pc [.ref (o 56), .int x1] (PZ D y ad av (WX y o σ) sz)) (QZv D (WX y o σ) (WX y o σ2) sz) 0 0 (va_A (WX y o σ) sz) := by
  refine met_v (by decide) (Nat.le_of_ble_eq_true rfl) ?_
  intro p e R s m args below meth c Q A ls hx hb hml hta hown hRc hRs hRf hRl hN hK hV hA hret hC hl
  have hl : lv_has ls 3 [(0, .ref (o 56)), (1, .int x1)] := hl
  unfold f_X10_deny at hf
  refine lv_aload_n hx hb dX10_deny_0 rfl (lv_at hl 0 rfl) ?_
  refine gt_X10_29_truths hx hb hta hown hK hC dX10_deny_1 ?_
  refine gt_X10_77_lifted hx hb hta hown hK hC dX10_deny_4 ?_
  refine lv_iload_n hx hb dX10_deny_7 rfl (lv_at hl 1 rfl) ?_
  obtain ⟨hi_1, hf⟩ := ix_inv hf
  obtain ⟨v_1, e_1, hf⟩ := lt_inv hf
  refine al_X_50 hx hb hK hC hi_1 e_1 dX10_deny_8 ?_
  refine lv_istore_n (lv' := [(2, .int v_1), (0, .ref (o 56)), (1, .int x1)]) hx hb dX10_deny_9 rfl hl (by decide) rfl (fun ls hl => ?_)
  refine lv_aload_n hx hb dX10_deny_10 rfl (lv_at hl 1 rfl) ?_
  refine gt_X10_29_truths hx hb hta hown hK hC dX10_deny_11 ?_
  refine gt_X10_43_lifted hx hb hta hown hK hC dX10_deny_14 ?_
  refine lv_iload_n hx hb dX10_deny_17 rfl (lv_at hl 2 rfl) ?_
  obtain ⟨hi_2, hf⟩ := ix_inv hf
  obtain ⟨v_2, e_2, hf⟩ := lt_inv hf
  refine al_X_49 hx hb hK hC hi_2 e_2 dX10_deny_18 ?_
  by_cases h_3_0 : v_2.toInt = 0
  · have hf := it_t h_3_0 hf
    refine lv_lookup (off := 25) (tgt := 44) hx hb dX10_deny_19 (by decide) (by (rw [h_3_0]; decide)) (by decide) ?_
    refine lv_aload_n hx hb dX10_deny_44 rfl (lv_at hl 1 rfl) ?_
    refine gt_X10_9_truths hx hb hta hown hK hC dX10_deny_45 ?_
    refine lv_iload_n hx hb dX10_deny_48 rfl (lv_at hl 0 rfl) ?_
    refine lv_iconst (v := 0) hx hb dX10_deny_49 (by decide) ?_
    obtain ⟨hi_4, hf⟩ := ix_inv hf
    obtain ⟨s_4, e_4, hf⟩ := lt_inv hf
    refine as_X_57 hx hb hK hC hi_4 (Or.inl rfl) e_4 dX10_deny_50 (fun H locs hC => ?_)
    refine lv_goto (tgt := 71) hx hb dX10_deny_51 (by decide) ?_
    exact hret _ _ _ _ _ (congrArg (WX y o) (Option.some.inj hf)) dX10_deny_71 hC
  have hf := it_f h_3_0 hf
  by_cases h_3_1 : v_2.toInt = 1
  · have hf := it_t h_3_1 hf
    refine lv_lookup (off := 35) (tgt := 54) hx hb dX10_deny_19 (by decide) (by (rw [h_3_1]; decide)) (by decide) ?_
    refine lv_aload_n hx hb dX10_deny_54 rfl (lv_at hl 1 rfl) ?_
    refine gt_X10_15_truths hx hb hta hown hK hC dX10_deny_55 ?_
    refine lv_iload_n hx hb dX10_deny_58 rfl (lv_at hl 0 rfl) ?_
    refine lv_iconst (v := 0) hx hb dX10_deny_59 (by decide) ?_
    obtain ⟨hi_5, hf⟩ := ix_inv hf
    obtain ⟨s_5, e_5, hf⟩ := lt_inv hf
    refine as_X_58 hx hb hK hC hi_5 (Or.inl rfl) e_5 dX10_deny_60 (fun H locs hC => ?_)
    refine lv_goto (tgt := 71) hx hb dX10_deny_61 (by decide) ?_
    exact hret _ _ _ _ _ (congrArg (WX y o) (Option.some.inj hf)) dX10_deny_71 hC
  have hf := it_f h_3_1 hf
  refine lv_lookup (off := 45) (tgt := 64) hx hb dX10_deny_19 (by decide) (lk_none (by intro a ha; simp only [List.mem_cons, List.not_mem_nil, or_false] at ha; rcases ha with rfl | rfl <;> (simp only; omega))) (by decide) ?_
  refine lv_aload_n hx hb dX10_deny_64 rfl (lv_at hl 1 rfl) ?_
  refine gt_X10_18_truths hx hb hta hown hK hC dX10_deny_65 ?_
  refine lv_iload_n hx hb dX10_deny_68 rfl (lv_at hl 0 rfl) ?_
  refine lv_iconst (v := 0) hx hb dX10_deny_69 (by decide) ?_
  obtain ⟨hi_6, hf⟩ := ix_inv hf
  obtain ⟨s_6, e_6, hf⟩ := lt_inv hf
  refine as_X_59 hx hb hK hC hi_6 (Or.inl rfl) e_6 dX10_deny_70 (fun H locs hC => ?_)
  exact hret _ _ _ _ _ (congrArg (WX y o) (Option.some.inj hf)) dX10_deny_71 hC

set_option maxHeartbeats 8000000 in
set_option maxRecDepth 100000 in
theorem r_X10_judge {D : va_G} {y : Nat → ClassId} {o : Nat → Nat} {ad av : Nat → Nat} {σ : Sto} {σ2 : Sto} (hf : f_X10_judge σ = some σ2) (l : Launch) (sz : Nat) : Met l yX10_judge (Cond.code yX10_judge cX10_judge 5 none :: ALW) { frames := 1, cells := 0, slots := 0, locals := 22 } (va_Pc [.ref (o 56)] (PZ D y ad av (WX y o σ) sz)) (QZv D (WX y o σ) (WX y o σ2) sz) 0 0 (va_A (WX y o σ) sz) := by
  refine met_v (by decide) (Nat.le_of_ble_eq_true rfl) ?_
  intro p e R s m args below meth c Q A ls hx hb hml hta hown hRc hRs hRf hRl hN hK hV hA hret hC hl
  have hl : lv_has ls 5 [(0, .ref (o 56))] := hl
  unfold f_X10_judge at hf
  refine lv_aload_n hx hb dX10_judge_0 rfl (lv_at hl 0 rfl) ?_
  obtain ⟨s_1, hc_1, hf⟩ := cals_inv hf
  refine cc_Vv (r_X10_assumeAll (D := D) (y := y) (o := o) (ad := ad) (av := av) hc_1 l) hx hb hml hta hown hK hN hV hA hC hRc hRs (by omega) (by omega) wq_726 (q := 56) (ci := 10) rfl rfl wq_727 wq_728 wq_729 wq_713 hd_X10_assumeAll (As := []) (rest := []) rfl rfl hl.1 rfl dX10_judge_1 (fun H locs hC => ?_)
  refine lv_iconst (v := 1) hx hb dX10_judge_4 (by decide) ?_
  refine lv_istore_n (lv' := [(1, .int 1), (0, .ref (o 56))]) hx hb dX10_judge_5 rfl hl (by decide) rfl (fun ls hl => ?_)
  refine lv_iconst (v := 0) hx hb dX10_judge_6 (by decide) ?_
  refine lv_istore_n (lv' := [(2, .int 0), (1, .int 1), (0, .ref (o 56))]) hx hb dX10_judge_7 rfl hl (by decide) rfl (fun ls hl => ?_)
  refine itr_inv3 (P := fun (x1_2 : Int32) (x2_2 : Int32) (s_2 : Sto) => ∀ (H : Heap) (locs : List Loc) (ls : Array Slot), CZ D A s H locs (WX y o s_2) → lv_has ls 5 [(0, .ref (o 56)), (1, .int x1_2), (2, .int x2_2)] → W p l e R s m args below meth c H locs 0 0 Q (F0 m 8 ls [])) hf ?_ _ _ _ hC (lv_sub hl [2, 1, 0] rfl)
  intro a_8 x1_2 x2_2 s_2 ha_8 hf H locs ls hC hl
  refine lv_iload_n hx hb dX10_judge_8 rfl (lv_at hl 2 rfl) ?_
  refine lv_ldc hx hb hown (hta _ wq_723) dX10_judge_9 ?_
  refine lv_icmp_ge (tgt := 101) hx hb dX10_judge_11 (by decide) (fun c_3 => ?_) (fun c_3 => ?_)
  · have hf := it_t c_3 hf
    exact hret _ _ _ _ _ (congrArg (WX y o) (Option.some.inj hf)) dX10_judge_101 hC
  · have hf := it_f c_3 hf
    refine lv_iload_n hx hb dX10_judge_14 rfl (lv_at hl 1 rfl) ?_
    refine lv_if_eq (tgt := 101) hx hb dX10_judge_15 (by decide) (fun c_4 => ?_) (fun c_4 => ?_)
    · have hf := it_t c_4 hf
      exact hret _ _ _ _ _ (congrArg (WX y o) (Option.some.inj hf)) dX10_judge_101 hC
    · have hf := it_f c_4 hf
      refine lv_iconst (v := 0) hx hb dX10_judge_18 (by decide) ?_
      refine lv_istore_n (lv' := [(1, .int 0), (0, .ref (o 56)), (2, .int x2_2)]) hx hb dX10_judge_19 rfl hl (by decide) rfl (fun ls hl => ?_)
      refine lv_iconst (v := 0) hx hb dX10_judge_20 (by decide) ?_
      refine lv_istore_n (lv' := [(3, .int 0), (1, .int 0), (0, .ref (o 56)), (2, .int x2_2)]) hx hb dX10_judge_21 rfl hl (by decide) rfl (fun ls hl => ?_)
      refine itr_inv3 (P := fun (x1_5 : Int32) (x3_5 : Int32) (s_5 : Sto) => ∀ (H : Heap) (locs : List Loc) (ls : Array Slot), CZ D A s H locs (WX y o s_5) → lv_has ls 5 [(0, .ref (o 56)), (1, .int x1_5), (2, .int x2_2), (3, .int x3_5)] → W p l e R s m args below meth c H locs 0 0 Q (F0 m 22 ls [])) hf ?_ _ _ _ hC (lv_sub hl [2, 1, 3, 0] rfl)
      intro a_22 x1_5 x3_5 s_5 ha_22 hf H locs ls hC hl
      refine lv_iload_n hx hb dX10_judge_22 rfl (lv_at hl 3 rfl) ?_
      refine lv_aload_n hx hb dX10_judge_23 rfl (lv_at hl 0 rfl) ?_
      refine gt_X10_29_truths hx hb hta hown hK hC dX10_judge_24 ?_
      refine gt_X10_37_lifted hx hb hta hown hK hC dX10_judge_27 ?_
      refine lv_icmp_ge (tgt := 95) hx hb dX10_judge_30 (by decide) (fun c_6 => ?_) (fun c_6 => ?_)
      · have hf := it_t c_6 hf
        obtain ⟨x2_7, e_7, hf⟩ := lt_inv hf
        refine lv_iinc (v := x2_7) (lv' := [(2, .int x2_7), (0, .ref (o 56)), (1, .int x1_5), (3, .int x3_5)]) hx hb dX10_judge_95 hl (k := 2) rfl e_7.symm (by decide) rfl (fun ls hl => ?_)
        refine lv_goto (tgt := 8) hx hb dX10_judge_98 (by decide) ?_
        exact ha_8 _ _ _ hf _ _ _ hC (lv_sub hl [1, 2, 0] rfl)
      · have hf := it_f c_6 hf
        refine lv_aload_n hx hb dX10_judge_33 rfl (lv_at hl 0 rfl) ?_
        refine gt_X10_29_truths hx hb hta hown hK hC dX10_judge_34 ?_
        refine gt_X10_43_lifted hx hb hta hown hK hC dX10_judge_37 ?_
        refine lv_iload_n hx hb dX10_judge_40 rfl (lv_at hl 3 rfl) ?_
        obtain ⟨hi_8, hf⟩ := ix_inv hf
        obtain ⟨v_8, e_8, hf⟩ := lt_inv hf
        refine al_X_49 hx hb hK hC hi_8 e_8 dX10_judge_41 ?_
        refine lv_iconst (v := 2) hx hb dX10_judge_42 (by decide) ?_
        obtain ⟨k_51, hk_51, hf⟩ := jn_inv1 hf
        have hj_51 : ∀ (t0_9 : Int32) (H : Heap) (locs : List Loc) (ls : Array Slot), k_51 t0_9 = some σ2 → CZ D A s H locs (WX y o s_5) → lv_has ls 5 [(0, .ref (o 56)), (1, .int x1_5), (2, .int x2_2), (3, .int x3_5)] → W p l e R s m args below meth c H locs 0 0 Q (F0 m 51 ls [.int t0_9]) := by
          intro t0_9 H locs ls hf hC hl
          have hf := hk_51 _ hf
          refine lv_istore (lv' := [(4, .int t0_9), (0, .ref (o 56)), (1, .int x1_5), (2, .int x2_2), (3, .int x3_5)]) hx hb dX10_judge_51 hl (by decide) rfl (fun ls hl => ?_)
          refine lv_iload hx hb dX10_judge_53 (lv_at hl 0 rfl) ?_
          obtain ⟨k_89, hk_89, hf⟩ := jn_inv2 hf
          have hj_89 : ∀ (x1_10 : Int32) (s_10 : Sto) (H : Heap) (locs : List Loc) (ls : Array Slot), k_89 x1_10 s_10 = some σ2 → CZ D A s H locs (WX y o s_10) → lv_has ls 5 [(0, .ref (o 56)), (1, .int x1_10), (2, .int x2_2), (3, .int x3_5)] → W p l e R s m args below meth c H locs 0 0 Q (F0 m 89 ls []) := by
            intro x1_10 s_10 H locs ls hf hC hl
            have hf := hk_89 _ _ hf
            obtain ⟨x3_11, e_11, hf⟩ := lt_inv hf
            refine lv_iinc (v := x3_11) (lv' := [(3, .int x3_11), (0, .ref (o 56)), (1, .int x1_10), (2, .int x2_2)]) hx hb dX10_judge_89 hl (k := 3) rfl e_11.symm (by decide) rfl (fun ls hl => ?_)
            refine lv_goto (tgt := 22) hx hb dX10_judge_92 (by decide) ?_
            exact ha_22 _ _ _ hf _ _ _ hC (lv_sub hl [1, 2, 3, 0] rfl)
          refine lv_if_eq (tgt := 89) hx hb dX10_judge_55 (by decide) (fun c_12 => ?_) (fun c_12 => ?_)
          · have hf := it_t c_12 hf
            exact hj_89 _ _ _ _ _ hf hC (lv_sub hl [1, 2, 3, 4] rfl)
          · have hf := it_f c_12 hf
            refine lv_aload_n hx hb dX10_judge_58 rfl (lv_at hl 1 rfl) ?_
            refine lv_aload_n hx hb dX10_judge_59 rfl (lv_at hl 1 rfl) ?_
            refine gt_X10_29_truths hx hb hta hown hK hC dX10_judge_60 ?_
            refine gt_X10_47_lifted hx hb hta hown hK hC dX10_judge_63 ?_
            refine lv_iload_n hx hb dX10_judge_66 rfl (lv_at hl 4 rfl) ?_
            obtain ⟨hi_13, hf⟩ := ix_inv hf
            obtain ⟨v_13, e_13, hf⟩ := lt_inv hf
            refine al_X_51 hx hb hK hC hi_13 e_13 dX10_judge_67 ?_
            obtain ⟨v_14, hc_14, hf⟩ := calp_inv hf
            refine cc_Vi (r_X10_holds (D := D) (y := y) (o := o) (ad := ad) (av := av) hc_14 l) hx hb hml hta hown hK hN hV hA hC hRc hRs (by omega) (by omega) wq_730 (q := 56) (ci := 10) rfl rfl wq_731 wq_732 wq_729 wq_716 hd_X10_holds (As := [.int v_13]) (rest := []) rfl rfl hl.1 rfl dX10_judge_68 (fun H locs hC => ?_)
            refine lv_if_ne (tgt := 89) hx hb dX10_judge_71 (by decide) (fun c_15 => ?_) (fun c_15 => ?_)
            · have hf := it_f c_15 hf
              exact hj_89 _ _ _ _ _ hf hC (lv_sub hl [1, 2, 3, 4] rfl)
            · have hf := it_t c_15 hf
              refine lv_aload_n hx hb dX10_judge_74 rfl (lv_at hl 1 rfl) ?_
              refine lv_iload_n hx hb dX10_judge_75 rfl (lv_at hl 4 rfl) ?_
              obtain ⟨v_16, hc_16, hf⟩ := calp_inv hf
              refine cc_Vi (r_X10_isTaken (D := D) (y := y) (o := o) (ad := ad) (av := av) hc_16 l) hx hb hml hta hown hK hN hV hA hC hRc hRs (by omega) (by omega) wq_733 (q := 56) (ci := 10) rfl rfl wq_734 wq_735 wq_729 wq_719 hd_X10_isTaken (As := [.int x3_5]) (rest := []) rfl rfl hl.1 rfl dX10_judge_76 (fun H locs hC => ?_)
              refine lv_if_eq (tgt := 89) hx hb dX10_judge_79 (by decide) (fun c_17 => ?_) (fun c_17 => ?_)
              · have hf := it_t c_17 hf
                exact hj_89 _ _ _ _ _ hf hC (lv_sub hl [1, 2, 3, 4] rfl)
              · have hf := it_f c_17 hf
                refine lv_aload_n hx hb dX10_judge_82 rfl (lv_at hl 1 rfl) ?_
                refine lv_iload_n hx hb dX10_judge_83 rfl (lv_at hl 4 rfl) ?_
                obtain ⟨s_18, hc_18, hf⟩ := cals_inv hf
                refine cc_Vv (r_X10_deny (D := D) (y := y) (o := o) (ad := ad) (av := av) hc_18 l) hx hb hml hta hown hK hN hV hA hC hRc hRs (by omega) (by omega) wq_736 (q := 56) (ci := 10) rfl rfl wq_737 wq_738 wq_729 wq_722 hd_X10_deny (As := [.int x3_5]) (rest := []) rfl rfl hl.1 rfl dX10_judge_84 (fun H locs hC => ?_)
                refine lv_iconst (v := 1) hx hb dX10_judge_87 (by decide) ?_
                refine lv_istore_n (lv' := [(1, .int 1), (4, .int t0_9), (0, .ref (o 56)), (2, .int x2_2), (3, .int x3_5)]) hx hb dX10_judge_88 rfl hl (by decide) rfl (fun ls hl => ?_)
                exact hj_89 _ _ _ _ _ hf hC (lv_sub hl [2, 0, 3, 4] rfl)
        refine lv_icmp_gt (tgt := 50) hx hb dX10_judge_43 (by decide) (fun c_19 => ?_) (fun c_19 => ?_)
        · have hf := it_t c_19 hf
          refine lv_iconst (v := 0) hx hb dX10_judge_50 (by decide) ?_
          exact hj_51 _ _ _ _ hf hC hl
        · have hf := it_f c_19 hf
          refine lv_iconst (v := 1) hx hb dX10_judge_46 (by decide) ?_
          refine lv_goto (tgt := 51) hx hb dX10_judge_47 (by decide) ?_
          exact hj_51 _ _ _ _ hf hC hl

set_option maxHeartbeats 8000000 in
set_option maxRecDepth 100000 in
theorem r_X4_flowThrough {D : va_G} {y : Nat → ClassId} {o : Nat → Nat} {ad av : Nat → Nat} {x1 : Int32} {σ : Sto} {σ2 : Sto} (hf : f_X4_flowThrough x1 σ = some σ2) (l : Launch) (sz : Nat) : Met l yX4_flowThrough (Cond.code yX4_flowThrough cX4_flowThrough 6 none :: ALW) { frames := 0, cells := 0, slots := 0, locals := 0 } (va_Pc [.ref (o 60), .int x1] (PZ D y ad av (WX y o σ) sz)) (QZv D (WX y o σ) (WX y o σ2) sz) 0 0 (va_A (WX y o σ) sz) := by
  refine met_v (by decide) (Nat.le_of_ble_eq_true rfl) ?_
  intro p e R s m args below meth c Q A ls hx hb hml hta hown hRc hRs hRf hRl hN hK hV hA hret hC hl
  have hl : lv_has ls 6 [(0, .ref (o 60)), (1, .int x1)] := hl
  unfold f_X4_flowThrough at hf
  refine lv_aload_n hx hb dX4_flowThrough_0 rfl (lv_at hl 0 rfl) ?_
  refine gt_X4_15_liveness hx hb hta hown hK hC dX4_flowThrough_1 ?_
  refine lv_iload_n hx hb dX4_flowThrough_4 rfl (lv_at hl 1 rfl) ?_
  refine lv_iconst (v := 0) hx hb dX4_flowThrough_5 (by decide) ?_
  obtain ⟨hi_1, hf⟩ := ix_inv hf
  obtain ⟨s_1, e_1, hf⟩ := lt_inv hf
  refine as_X_62 hx hb hK hC hi_1 e_1 dX4_flowThrough_6 (fun H locs hC => ?_)
  refine lv_aload_n hx hb dX4_flowThrough_7 rfl (lv_at hl 0 rfl) ?_
  refine gt_X4_22_liveness hx hb hta hown hK hC dX4_flowThrough_8 ?_
  refine gt_X4_41_blocks hx hb hta hown hK hC dX4_flowThrough_11 ?_
  refine lv_iload_n hx hb dX4_flowThrough_14 rfl (lv_at hl 1 rfl) ?_
  obtain ⟨hi_2, hf⟩ := ix_inv hf
  obtain ⟨v_2, e_2, hf⟩ := lt_inv hf
  refine al_X_25 hx hb hK hC hi_2 e_2 dX4_flowThrough_15 ?_
  refine lv_istore_n (lv' := [(2, .int v_2), (0, .ref (o 60)), (1, .int x1)]) hx hb dX4_flowThrough_16 rfl hl (by decide) rfl (fun ls hl => ?_)
  refine itr_inv2 (P := fun (x2_3 : Int32) (s_3 : Sto) => ∀ (H : Heap) (locs : List Loc) (ls : Array Slot), CZ D A s H locs (WX y o s_3) → lv_has ls 6 [(0, .ref (o 60)), (1, .int x1), (2, .int x2_3)] → W p l e R s m args below meth c H locs 0 0 Q (F0 m 17 ls [])) hf ?_ _ _ _ hC (lv_sub hl [1, 2, 0] rfl)
  intro a_17 x2_3 s_3 ha_17 hf H locs ls hC hl
  refine lv_iload_n hx hb dX4_flowThrough_17 rfl (lv_at hl 2 rfl) ?_
  refine lv_aload_n hx hb dX4_flowThrough_18 rfl (lv_at hl 0 rfl) ?_
  refine gt_X4_22_liveness hx hb hta hown hK hC dX4_flowThrough_19 ?_
  refine gt_X4_41_blocks hx hb hta hown hK hC dX4_flowThrough_22 ?_
  refine lv_iload_n hx hb dX4_flowThrough_25 rfl (lv_at hl 1 rfl) ?_
  refine lv_iconst (v := 1) hx hb dX4_flowThrough_26 (by decide) ?_
  refine lv_iadd hx hb dX4_flowThrough_27 ?_
  obtain ⟨hi_4, hf⟩ := ix_inv hf
  obtain ⟨v_4, e_4, hf⟩ := lt_inv hf
  refine al_X_25 hx hb hK hC hi_4 e_4 dX4_flowThrough_28 ?_
  refine lv_icmp_ge (tgt := 61) hx hb dX4_flowThrough_29 (by decide) (fun c_5 => ?_) (fun c_5 => ?_)
  · have hf := it_t c_5 hf
    refine lv_aload_n hx hb dX4_flowThrough_61 rfl (lv_at hl 0 rfl) ?_
    refine gt_X4_22_liveness hx hb hta hown hK hC dX4_flowThrough_62 ?_
    refine gt_X4_47_blocks hx hb hta hown hK hC dX4_flowThrough_65 ?_
    refine lv_iload_n hx hb dX4_flowThrough_68 rfl (lv_at hl 1 rfl) ?_
    obtain ⟨hi_6, hf⟩ := ix_inv hf
    obtain ⟨v_6, e_6, hf⟩ := lt_inv hf
    refine al_X_23 hx hb hK hC hi_6 e_6 dX4_flowThrough_69 ?_
    refine lv_iconst (v := (-1)) hx hb dX4_flowThrough_70 (by decide) ?_
    obtain ⟨k_92, hk_92, hf⟩ := jn_inv1 hf
    have hj_92 : ∀ (t0_7 : Int32) (H : Heap) (locs : List Loc) (ls : Array Slot), k_92 t0_7 = some σ2 → CZ D A s H locs (WX y o s_3) → lv_has ls 6 [(0, .ref (o 60)), (1, .int x1)] → W p l e R s m args below meth c H locs 0 0 Q (F0 m 92 ls [.int t0_7]) := by
      intro t0_7 H locs ls hf hC hl
      have hf := hk_92 _ hf
      refine lv_istore_n (lv' := [(2, .int t0_7), (0, .ref (o 60)), (1, .int x1)]) hx hb dX4_flowThrough_92 rfl hl (by decide) rfl (fun ls hl => ?_)
      refine lv_aload_n hx hb dX4_flowThrough_93 rfl (lv_at hl 1 rfl) ?_
      refine gt_X4_15_liveness hx hb hta hown hK hC dX4_flowThrough_94 ?_
      refine lv_iload_n hx hb dX4_flowThrough_97 rfl (lv_at hl 2 rfl) ?_
      obtain ⟨hi_8, hf⟩ := ix_inv hf
      obtain ⟨v_8, e_8, hf⟩ := lt_inv hf
      refine al_X_62 hx hb hK hC hi_8 e_8 dX4_flowThrough_98 ?_
      refine lv_istore_n (lv' := [(3, .int v_8), (2, .int t0_7), (0, .ref (o 60)), (1, .int x1)]) hx hb dX4_flowThrough_99 rfl hl (by decide) rfl (fun ls hl => ?_)
      refine lv_aload_n hx hb dX4_flowThrough_100 rfl (lv_at hl 2 rfl) ?_
      refine gt_X4_22_liveness hx hb hta hown hK hC dX4_flowThrough_101 ?_
      refine gt_X4_50_blocks hx hb hta hown hK hC dX4_flowThrough_104 ?_
      refine lv_iload_n hx hb dX4_flowThrough_107 rfl (lv_at hl 3 rfl) ?_
      obtain ⟨hi_9, hf⟩ := ix_inv hf
      obtain ⟨v_9, e_9, hf⟩ := lt_inv hf
      refine al_X_19 hx hb hK hC hi_9 e_9 dX4_flowThrough_108 ?_
      refine lv_istore (lv' := [(4, .int v_9), (3, .int v_8), (2, .int t0_7), (0, .ref (o 60)), (1, .int x1)]) hx hb dX4_flowThrough_109 hl (by decide) rfl (fun ls hl => ?_)
      refine itr_inv3 (P := fun (x3_10 : Int32) (x4_10 : Int32) (s_10 : Sto) => ∀ (H : Heap) (locs : List Loc) (ls : Array Slot), CZ D A s H locs (WX y o s_10) → lv_has ls 6 [(0, .ref (o 60)), (1, .int x1), (2, .int t0_7), (3, .int x3_10), (4, .int x4_10)] → W p l e R s m args below meth c H locs 0 0 Q (F0 m 111 ls [])) hf ?_ _ _ _ hC (lv_sub hl [3, 4, 2, 1, 0] rfl)
      intro a_111 x3_10 x4_10 s_10 ha_111 hf H locs ls hC hl
      refine lv_iload hx hb dX4_flowThrough_111 (lv_at hl 4 rfl) ?_
      refine lv_aload_n hx hb dX4_flowThrough_113 rfl (lv_at hl 0 rfl) ?_
      refine gt_X4_22_liveness hx hb hta hown hK hC dX4_flowThrough_114 ?_
      refine gt_X4_53_blocks hx hb hta hown hK hC dX4_flowThrough_117 ?_
      refine lv_iload_n hx hb dX4_flowThrough_120 rfl (lv_at hl 1 rfl) ?_
      obtain ⟨hi_11, hf⟩ := ix_inv hf
      obtain ⟨v_11, e_11, hf⟩ := lt_inv hf
      refine al_X_18 hx hb hK hC hi_11 e_11 dX4_flowThrough_121 ?_
      refine lv_icmp_lt (tgt := 212) hx hb dX4_flowThrough_122 (by decide) (fun c_12 => ?_) (fun c_12 => ?_)
      · have hf := it_t c_12 hf
        refine lv_aload_n hx hb dX4_flowThrough_212 rfl (lv_at hl 0 rfl) ?_
        refine gt_X4_9_liveness hx hb hta hown hK hC dX4_flowThrough_213 ?_
        refine lv_iload_n hx hb dX4_flowThrough_216 rfl (lv_at hl 1 rfl) ?_
        refine lv_iload_n hx hb dX4_flowThrough_217 rfl (lv_at hl 3 rfl) ?_
        refine lv_iload_n hx hb dX4_flowThrough_218 rfl (lv_at hl 2 rfl) ?_
        refine lv_ior hx hb dX4_flowThrough_219 ?_
        obtain ⟨hi_13, hf⟩ := ix_inv hf
        obtain ⟨s_13, e_13, hf⟩ := lt_inv hf
        refine as_X_61 hx hb hK hC hi_13 e_13 dX4_flowThrough_220 (fun H locs hC => ?_)
        exact hret _ _ _ _ _ (congrArg (WX y o) (Option.some.inj hf)) dX4_flowThrough_221 hC
      · have hf := it_f c_12 hf
        refine lv_iconst (v := 1) hx hb dX4_flowThrough_125 (by decide) ?_
        refine lv_aload_n hx hb dX4_flowThrough_126 rfl (lv_at hl 0 rfl) ?_
        refine gt_X4_18_liveness hx hb hta hown hK hC dX4_flowThrough_127 ?_
        refine gt_X4_56_listing hx hb hta hown hK hC dX4_flowThrough_130 ?_
        refine lv_iload hx hb dX4_flowThrough_133 (lv_at hl 4 rfl) ?_
        obtain ⟨hi_14, hf⟩ := ix_inv hf
        obtain ⟨v_14, e_14, hf⟩ := lt_inv hf
        refine al_X_5 hx hb hK hC hi_14 e_14 dX4_flowThrough_135 ?_
        refine lv_ishl hx hb dX4_flowThrough_136 ?_
        obtain ⟨x5_15, e_15, hf⟩ := lt_inv hf
        refine nmi e_15 ?_
        refine lv_istore (lv' := [(5, .int x5_15), (0, .ref (o 60)), (1, .int x1), (2, .int t0_7), (3, .int x3_10), (4, .int x4_10)]) hx hb dX4_flowThrough_137 hl (by decide) rfl (fun ls hl => ?_)
        refine lv_aload_n hx hb dX4_flowThrough_139 rfl (lv_at hl 1 rfl) ?_
        refine gt_X4_18_liveness hx hb hta hown hK hC dX4_flowThrough_140 ?_
        refine gt_X4_61_listing hx hb hta hown hK hC dX4_flowThrough_143 ?_
        refine lv_iload hx hb dX4_flowThrough_146 (lv_at hl 5 rfl) ?_
        obtain ⟨hi_16, hf⟩ := ix_inv hf
        obtain ⟨v_16, e_16, hf⟩ := lt_inv hf
        refine al_X_4 hx hb hK hC hi_16 e_16 dX4_flowThrough_148 ?_
        refine lv_bipush (v := 108) hx hb dX4_flowThrough_149 (by decide) ?_
        obtain ⟨k_206, hk_206, hf⟩ := jn_inv2 hf
        have hj_206 : ∀ (x3_17 : Int32) (s_17 : Sto) (H : Heap) (locs : List Loc) (ls : Array Slot), k_206 x3_17 s_17 = some σ2 → CZ D A s H locs (WX y o s_17) → lv_has ls 6 [(0, .ref (o 60)), (1, .int x1), (2, .int t0_7), (3, .int x3_17), (4, .int x4_10)] → W p l e R s m args below meth c H locs 0 0 Q (F0 m 206 ls []) := by
          intro x3_17 s_17 H locs ls hf hC hl
          have hf := hk_206 _ _ hf
          obtain ⟨x4_18, e_18, hf⟩ := lt_inv hf
          refine lv_iinc (v := x4_18) (lv' := [(4, .int x4_18), (0, .ref (o 60)), (1, .int x1), (2, .int t0_7), (3, .int x3_17)]) hx hb dX4_flowThrough_206 hl (k := 4) rfl e_18.symm (by decide) rfl (fun ls hl => ?_)
          refine lv_goto (tgt := 111) hx hb dX4_flowThrough_209 (by decide) ?_
          exact ha_111 _ _ _ hf _ _ _ hC (lv_sub hl [1, 2, 3, 4, 0] rfl)
        refine lv_icmp_ne (tgt := 162) hx hb dX4_flowThrough_151 (by decide) (fun c_19 => ?_) (fun c_19 => ?_)
        · have hf := it_f c_19 hf
          refine lv_aload_n hx hb dX4_flowThrough_162 rfl (lv_at hl 1 rfl) ?_
          refine gt_X4_18_liveness hx hb hta hown hK hC dX4_flowThrough_163 ?_
          refine gt_X4_61_listing hx hb hta hown hK hC dX4_flowThrough_166 ?_
          refine lv_iload hx hb dX4_flowThrough_169 (lv_at hl 5 rfl) ?_
          obtain ⟨hi_21, hf⟩ := ix_inv hf
          obtain ⟨v_21, e_21, hf⟩ := lt_inv hf
          refine al_X_4 hx hb hK hC hi_21 e_21 dX4_flowThrough_171 ?_
          refine lv_bipush (v := 115) hx hb dX4_flowThrough_172 (by decide) ?_
          refine lv_icmp_ne (tgt := 206) hx hb dX4_flowThrough_174 (by decide) (fun c_22 => ?_) (fun c_22 => ?_)
          · have hf := it_f c_22 hf
            exact hj_206 _ _ _ _ _ hf hC (lv_sub hl [1, 2, 3, 4, 5] rfl)
          · have hf := it_t c_22 hf
            refine lv_iload_n hx hb dX4_flowThrough_177 rfl (lv_at hl 4 rfl) ?_
            refine lv_iload hx hb dX4_flowThrough_178 (lv_at hl 0 rfl) ?_
            refine lv_iand hx hb dX4_flowThrough_180 ?_
            obtain ⟨k_197, hk_197, hf⟩ := jn_inv1 hf
            have hj_197 : ∀ (s_23 : Sto) (H : Heap) (locs : List Loc) (ls : Array Slot), k_197 s_23 = some σ2 → CZ D A s H locs (WX y o s_23) → lv_has ls 6 [(0, .ref (o 60)), (1, .int x1), (2, .int t0_7), (3, .int x3_10), (4, .int x4_10), (5, .int x5_15)] → W p l e R s m args below meth c H locs 0 0 Q (F0 m 197 ls []) := by
              intro s_23 H locs ls hf hC hl
              have hf := hk_197 _ hf
              refine lv_iload_n hx hb dX4_flowThrough_197 rfl (lv_at hl 3 rfl) ?_
              refine lv_iload hx hb dX4_flowThrough_198 (lv_at hl 5 rfl) ?_
              refine lv_iconst (v := (-1)) hx hb dX4_flowThrough_200 (by decide) ?_
              refine lv_ixor hx hb dX4_flowThrough_201 ?_
              refine lv_iand hx hb dX4_flowThrough_202 ?_
              refine lv_iload_n hx hb dX4_flowThrough_203 rfl (lv_at hl 2 rfl) ?_
              refine lv_ior hx hb dX4_flowThrough_204 ?_
              obtain ⟨x3_24, e_24, hf⟩ := lt_inv hf
              refine nmi e_24 ?_
              refine lv_istore_n (lv' := [(3, .int x3_24), (0, .ref (o 60)), (1, .int x1), (2, .int t0_7), (4, .int x4_10), (5, .int x5_15)]) hx hb dX4_flowThrough_205 rfl hl (by decide) rfl (fun ls hl => ?_)
              exact hj_206 _ _ _ _ _ hf hC (lv_sub hl [1, 2, 3, 0, 4] rfl)
            refine lv_if_ne (tgt := 197) hx hb dX4_flowThrough_181 (by decide) (fun c_25 => ?_) (fun c_25 => ?_)
            · have hf := it_f c_25 hf
              exact hj_197 _ _ _ _ hf hC (lv_sub hl [1, 2, 3, 4, 5, 0] rfl)
            · have hf := it_t c_25 hf
              refine lv_aload_n hx hb dX4_flowThrough_184 rfl (lv_at hl 1 rfl) ?_
              refine lv_dup hx hb dX4_flowThrough_185 rfl ?_
              refine gt_X4_33_liveness hx hb hta hown hK hC dX4_flowThrough_186 ?_
              refine lv_lconst (v := 1) hx hb dX4_flowThrough_189 rfl ?_
              refine lv_iload hx hb dX4_flowThrough_190 (lv_at hl 5 rfl) ?_
              refine lv_lshl hx hb dX4_flowThrough_192 rfl ?_
              refine lv_lor hx hb dX4_flowThrough_193 ?_
              obtain ⟨s_26, e_26, hf⟩ := lt_inv hf
              refine pt_X4_33_liveness hx hb hta hown hK hC e_26 dX4_flowThrough_194 (fun H locs hC => ?_)
              exact hj_197 _ _ _ _ hf hC (lv_sub hl [1, 2, 3, 4, 5, 0] rfl)
        · have hf := it_t c_19 hf
          refine lv_iload_n hx hb dX4_flowThrough_154 rfl (lv_at hl 4 rfl) ?_
          refine lv_iload hx hb dX4_flowThrough_155 (lv_at hl 0 rfl) ?_
          refine lv_ior hx hb dX4_flowThrough_157 ?_
          obtain ⟨x3_20, e_20, hf⟩ := lt_inv hf
          refine nmi e_20 ?_
          refine lv_istore_n (lv' := [(3, .int x3_20), (5, .int x5_15), (0, .ref (o 60)), (1, .int x1), (2, .int t0_7), (4, .int x4_10)]) hx hb dX4_flowThrough_158 rfl hl (by decide) rfl (fun ls hl => ?_)
          refine lv_goto (tgt := 206) hx hb dX4_flowThrough_159 (by decide) ?_
          exact hj_206 _ _ _ _ _ hf hC (lv_sub hl [2, 3, 4, 0, 5] rfl)
    refine lv_icmp_ne (tgt := 78) hx hb dX4_flowThrough_71 (by decide) (fun c_27 => ?_) (fun c_27 => ?_)
    · have hf := it_f c_27 hf
      refine lv_aload_n hx hb dX4_flowThrough_78 rfl (lv_at hl 0 rfl) ?_
      refine gt_X4_9_liveness hx hb hta hown hK hC dX4_flowThrough_79 ?_
      refine lv_aload_n hx hb dX4_flowThrough_82 rfl (lv_at hl 0 rfl) ?_
      refine gt_X4_22_liveness hx hb hta hown hK hC dX4_flowThrough_83 ?_
      refine gt_X4_47_blocks hx hb hta hown hK hC dX4_flowThrough_86 ?_
      refine lv_iload_n hx hb dX4_flowThrough_89 rfl (lv_at hl 1 rfl) ?_
      obtain ⟨hi_28, hf⟩ := ix_inv hf
      obtain ⟨v_28, e_28, hf⟩ := lt_inv hf
      refine al_X_23 hx hb hK hC hi_28 e_28 dX4_flowThrough_90 ?_
      obtain ⟨hi_29, hf⟩ := ix_inv hf
      obtain ⟨v_29, e_29, hf⟩ := lt_inv hf
      refine al_X_61 hx hb hK hC hi_29 e_29 dX4_flowThrough_91 ?_
      exact hj_92 _ _ _ _ hf hC (lv_sub hl [0, 1] rfl)
    · have hf := it_t c_27 hf
      refine lv_iconst (v := 0) hx hb dX4_flowThrough_74 (by decide) ?_
      refine lv_goto (tgt := 92) hx hb dX4_flowThrough_75 (by decide) ?_
      exact hj_92 _ _ _ _ hf hC (lv_sub hl [0, 1] rfl)
  · have hf := it_f c_5 hf
    refine lv_aload_n hx hb dX4_flowThrough_32 rfl (lv_at hl 0 rfl) ?_
    refine gt_X4_15_liveness hx hb hta hown hK hC dX4_flowThrough_33 ?_
    refine lv_iload_n hx hb dX4_flowThrough_36 rfl (lv_at hl 1 rfl) ?_
    refine lv_dup2_11 hx hb dX4_flowThrough_37 rfl rfl ?_
    obtain ⟨hi_30, hf⟩ := ix_inv hf
    obtain ⟨v_30, e_30, hf⟩ := lt_inv hf
    refine al_X_62 hx hb hK hC hi_30 e_30 dX4_flowThrough_38 ?_
    refine lv_aload_n hx hb dX4_flowThrough_39 rfl (lv_at hl 0 rfl) ?_
    refine gt_X4_9_liveness hx hb hta hown hK hC dX4_flowThrough_40 ?_
    refine lv_aload_n hx hb dX4_flowThrough_43 rfl (lv_at hl 0 rfl) ?_
    refine gt_X4_22_liveness hx hb hta hown hK hC dX4_flowThrough_44 ?_
    refine gt_X4_44_blocks hx hb hta hown hK hC dX4_flowThrough_47 ?_
    refine lv_iload_n hx hb dX4_flowThrough_50 rfl (lv_at hl 2 rfl) ?_
    obtain ⟨hi_31, hf⟩ := ix_inv hf
    obtain ⟨v_31, e_31, hf⟩ := lt_inv hf
    refine al_X_27 hx hb hK hC hi_31 e_31 dX4_flowThrough_51 ?_
    obtain ⟨hi_32, hf⟩ := ix_inv hf
    obtain ⟨v_32, e_32, hf⟩ := lt_inv hf
    refine al_X_61 hx hb hK hC hi_32 e_32 dX4_flowThrough_52 ?_
    refine lv_ior hx hb dX4_flowThrough_53 ?_
    obtain ⟨hi_33, hf⟩ := ix_inv hf
    obtain ⟨s_33, e_33, hf⟩ := lt_inv hf
    refine as_X_62 hx hb hK hC hi_33 e_33 dX4_flowThrough_54 (fun H locs hC => ?_)
    obtain ⟨x2_34, e_34, hf⟩ := lt_inv hf
    refine lv_iinc (v := x2_34) (lv' := [(2, .int x2_34), (0, .ref (o 60)), (1, .int x1)]) hx hb dX4_flowThrough_55 hl (k := 2) rfl e_34.symm (by decide) rfl (fun ls hl => ?_)
    refine lv_goto (tgt := 17) hx hb dX4_flowThrough_58 (by decide) ?_
    exact ha_17 _ _ hf _ _ _ hC (lv_sub hl [1, 2, 0] rfl)

set_option maxHeartbeats 8000000 in
set_option maxRecDepth 100000 in
theorem r_X4_flow {D : va_G} {y : Nat → ClassId} {o : Nat → Nat} {ad av : Nat → Nat} {σ : Sto} {σ2 : Sto} (hf : f_X4_flow σ = some σ2) (l : Launch) (sz : Nat) : Met l yX4_flow (Cond.code yX4_flow cX4_flow 5 none :: ALW) { frames := 1, cells := 0, slots := 0, locals := 25 } (va_Pc [.ref (o 60)] (PZ D y ad av (WX y o σ) sz)) (QZv D (WX y o σ) (WX y o σ2) sz) 0 0 (va_A (WX y o σ) sz) := by
  refine met_v (by decide) (Nat.le_of_ble_eq_true rfl) ?_
  intro p e R s m args below meth c Q A ls hx hb hml hta hown hRc hRs hRf hRl hN hK hV hA hret hC hl
  have hl : lv_has ls 5 [(0, .ref (o 60))] := hl
  unfold f_X4_flow at hf
  refine lv_iconst (v := 0) hx hb dX4_flow_0 (by decide) ?_
  refine lv_istore_n (lv' := [(1, .int 0), (0, .ref (o 60))]) hx hb dX4_flow_1 rfl hl (by decide) rfl (fun ls hl => ?_)
  refine itr_inv2 (P := fun (x1_1 : Int32) (s_1 : Sto) => ∀ (H : Heap) (locs : List Loc) (ls : Array Slot), CZ D A s H locs (WX y o s_1) → lv_has ls 5 [(0, .ref (o 60)), (1, .int x1_1)] → W p l e R s m args below meth c H locs 0 0 Q (F0 m 2 ls [])) hf ?_ _ _ _ hC (lv_sub hl [1, 0] rfl)
  intro a_2 x1_1 s_1 ha_2 hf H locs ls hC hl
  refine lv_iload_n hx hb dX4_flow_2 rfl (lv_at hl 1 rfl) ?_
  refine lv_aload_n hx hb dX4_flow_3 rfl (lv_at hl 0 rfl) ?_
  refine gt_X4_22_liveness hx hb hta hown hK hC dX4_flow_4 ?_
  refine gt_X4_26_blocks hx hb hta hown hK hC dX4_flow_7 ?_
  refine lv_icmp_ge (tgt := 26) hx hb dX4_flow_10 (by decide) (fun c_2 => ?_) (fun c_2 => ?_)
  · have hf := it_t c_2 hf
    refine lv_iconst (v := 1) hx hb dX4_flow_26 (by decide) ?_
    refine lv_istore_n (lv' := [(1, .int 1), (0, .ref (o 60))]) hx hb dX4_flow_27 rfl hl (by decide) rfl (fun ls hl => ?_)
    refine lv_iconst (v := 0) hx hb dX4_flow_28 (by decide) ?_
    refine lv_istore_n (lv' := [(2, .int 0), (1, .int 1), (0, .ref (o 60))]) hx hb dX4_flow_29 rfl hl (by decide) rfl (fun ls hl => ?_)
    refine itr_inv3 (P := fun (x1_3 : Int32) (x2_3 : Int32) (s_3 : Sto) => ∀ (H : Heap) (locs : List Loc) (ls : Array Slot), CZ D A s H locs (WX y o s_3) → lv_has ls 5 [(0, .ref (o 60)), (1, .int x1_3), (2, .int x2_3)] → W p l e R s m args below meth c H locs 0 0 Q (F0 m 30 ls [])) hf ?_ _ _ _ hC (lv_sub hl [2, 1, 0] rfl)
    intro a_30 x1_3 x2_3 s_3 ha_30 hf H locs ls hC hl
    refine lv_iload_n hx hb dX4_flow_30 rfl (lv_at hl 2 rfl) ?_
    refine lv_ldc hx hb hown (hta _ wq_353) dX4_flow_31 ?_
    refine lv_icmp_ge (tgt := 107) hx hb dX4_flow_33 (by decide) (fun c_4 => ?_) (fun c_4 => ?_)
    · have hf := it_t c_4 hf
      exact hret _ _ _ _ _ (congrArg (WX y o) (Option.some.inj hf)) dX4_flow_107 hC
    · have hf := it_f c_4 hf
      refine lv_iload_n hx hb dX4_flow_36 rfl (lv_at hl 1 rfl) ?_
      refine lv_if_eq (tgt := 107) hx hb dX4_flow_37 (by decide) (fun c_5 => ?_) (fun c_5 => ?_)
      · have hf := it_t c_5 hf
        exact hret _ _ _ _ _ (congrArg (WX y o) (Option.some.inj hf)) dX4_flow_107 hC
      · have hf := it_f c_5 hf
        refine lv_iconst (v := 0) hx hb dX4_flow_40 (by decide) ?_
        refine lv_istore_n (lv' := [(1, .int 0), (0, .ref (o 60)), (2, .int x2_3)]) hx hb dX4_flow_41 rfl hl (by decide) rfl (fun ls hl => ?_)
        refine lv_aload_n hx hb dX4_flow_42 rfl (lv_at hl 1 rfl) ?_
        refine lv_lconst (v := 0) hx hb dX4_flow_43 rfl ?_
        obtain ⟨s_6, e_6, hf⟩ := lt_inv hf
        refine pt_X4_33_liveness hx hb hta hown hK hC e_6 dX4_flow_44 (fun H locs hC => ?_)
        refine lv_aload_n hx hb dX4_flow_47 rfl (lv_at hl 1 rfl) ?_
        refine gt_X4_22_liveness hx hb hta hown hK hC dX4_flow_48 ?_
        refine gt_X4_26_blocks hx hb hta hown hK hC dX4_flow_51 ?_
        refine lv_iconst (v := 1) hx hb dX4_flow_54 (by decide) ?_
        refine lv_isub hx hb dX4_flow_55 ?_
        obtain ⟨x3_7, e_7, hf⟩ := lt_inv hf
        refine nmi e_7 ?_
        refine lv_istore_n (lv' := [(3, .int x3_7), (1, .int 0), (0, .ref (o 60)), (2, .int x2_3)]) hx hb dX4_flow_56 rfl hl (by decide) rfl (fun ls hl => ?_)
        refine itr_inv3 (P := fun (x1_8 : Int32) (x3_8 : Int32) (s_8 : Sto) => ∀ (H : Heap) (locs : List Loc) (ls : Array Slot), CZ D A s H locs (WX y o s_8) → lv_has ls 5 [(0, .ref (o 60)), (1, .int x1_8), (2, .int x2_3), (3, .int x3_8)] → W p l e R s m args below meth c H locs 0 0 Q (F0 m 57 ls [])) hf ?_ _ _ _ hC (lv_sub hl [2, 1, 3, 0] rfl)
        intro a_57 x1_8 x3_8 s_8 ha_57 hf H locs ls hC hl
        refine lv_iload_n hx hb dX4_flow_57 rfl (lv_at hl 3 rfl) ?_
        refine lv_if_lt (tgt := 101) hx hb dX4_flow_58 (by decide) (fun c_9 => ?_) (fun c_9 => ?_)
        · have hf := it_t c_9 hf
          obtain ⟨x2_10, e_10, hf⟩ := lt_inv hf
          refine lv_iinc (v := x2_10) (lv' := [(2, .int x2_10), (0, .ref (o 60)), (1, .int x1_8), (3, .int x3_8)]) hx hb dX4_flow_101 hl (k := 2) rfl e_10.symm (by decide) rfl (fun ls hl => ?_)
          refine lv_goto (tgt := 30) hx hb dX4_flow_104 (by decide) ?_
          exact ha_30 _ _ _ hf _ _ _ hC (lv_sub hl [1, 2, 0] rfl)
        · have hf := it_f c_9 hf
          refine lv_aload_n hx hb dX4_flow_61 rfl (lv_at hl 0 rfl) ?_
          refine gt_X4_9_liveness hx hb hta hown hK hC dX4_flow_62 ?_
          refine lv_iload_n hx hb dX4_flow_65 rfl (lv_at hl 3 rfl) ?_
          obtain ⟨hi_11, hf⟩ := ix_inv hf
          obtain ⟨v_11, e_11, hf⟩ := lt_inv hf
          refine al_X_61 hx hb hK hC hi_11 e_11 dX4_flow_66 ?_
          refine lv_istore (lv' := [(4, .int v_11), (0, .ref (o 60)), (1, .int x1_8), (2, .int x2_3), (3, .int x3_8)]) hx hb dX4_flow_67 hl (by decide) rfl (fun ls hl => ?_)
          refine lv_aload_n hx hb dX4_flow_69 rfl (lv_at hl 1 rfl) ?_
          refine lv_iload_n hx hb dX4_flow_70 rfl (lv_at hl 4 rfl) ?_
          obtain ⟨s_12, hc_12, hf⟩ := cals_inv hf
          refine cc_Vv (r_X4_flowThrough (D := D) (y := y) (o := o) (ad := ad) (av := av) hc_12 l) hx hb hml hta hown hK hN hV hA hC hRc hRs (by omega) (by omega) wq_354 (q := 60) (ci := 4) rfl rfl wq_355 wq_356 wq_357 wq_342 hd_X4_flowThrough (As := [.int x3_8]) (rest := []) rfl rfl hl.1 rfl dX4_flow_71 (fun H locs hC => ?_)
          refine lv_iload_n hx hb dX4_flow_74 rfl (lv_at hl 2 rfl) ?_
          obtain ⟨k_94, hk_94, hf⟩ := jn_inv1 hf
          have hj_94 : ∀ (t0_13 : Int32) (H : Heap) (locs : List Loc) (ls : Array Slot), k_94 t0_13 = some σ2 → CZ D A s H locs (WX y o s_12) → lv_has ls 5 [(0, .ref (o 60)), (2, .int x2_3), (3, .int x3_8)] → W p l e R s m args below meth c H locs 0 0 Q (F0 m 94 ls [.int t0_13]) := by
            intro t0_13 H locs ls hf hC hl
            have hf := hk_94 _ hf
            refine lv_istore_n (lv' := [(1, .int t0_13), (0, .ref (o 60)), (2, .int x2_3), (3, .int x3_8)]) hx hb dX4_flow_94 rfl hl (by decide) rfl (fun ls hl => ?_)
            obtain ⟨x3_14, e_14, hf⟩ := lt_inv hf
            refine lv_iinc (v := x3_14) (lv' := [(3, .int x3_14), (1, .int t0_13), (0, .ref (o 60)), (2, .int x2_3)]) hx hb dX4_flow_95 hl (k := 3) rfl e_14.symm (by decide) rfl (fun ls hl => ?_)
            refine lv_goto (tgt := 57) hx hb dX4_flow_98 (by decide) ?_
            exact ha_57 _ _ _ hf _ _ _ hC (lv_sub hl [2, 1, 3, 0] rfl)
          obtain ⟨k_89, hk_89, hf⟩ := jn_inv0 hf
          have hj_89 : ∀  (H : Heap) (locs : List Loc) (ls : Array Slot), k_89 = some σ2 → CZ D A s H locs (WX y o s_12) → lv_has ls 5 [(0, .ref (o 60)), (2, .int x2_3), (3, .int x3_8)] → W p l e R s m args below meth c H locs 0 0 Q (F0 m 89 ls []) := by
            intro H locs ls hf hC hl
            have hf := hk_89 hf
            refine lv_iconst (v := 1) hx hb dX4_flow_89 (by decide) ?_
            refine lv_goto (tgt := 94) hx hb dX4_flow_90 (by decide) ?_
            exact hj_94 _ _ _ _ hf hC hl
          refine lv_if_ne (tgt := 89) hx hb dX4_flow_75 (by decide) (fun c_16 => ?_) (fun c_16 => ?_)
          · have hf := it_f c_16 hf
            exact hj_89 _ _ _ hf hC (lv_sub hl [1, 3, 4] rfl)
          · have hf := it_t c_16 hf
            refine lv_aload_n hx hb dX4_flow_78 rfl (lv_at hl 1 rfl) ?_
            refine gt_X4_9_liveness hx hb hta hown hK hC dX4_flow_79 ?_
            refine lv_iload_n hx hb dX4_flow_82 rfl (lv_at hl 4 rfl) ?_
            obtain ⟨hi_17, hf⟩ := ix_inv hf
            obtain ⟨v_17, e_17, hf⟩ := lt_inv hf
            refine al_X_61 hx hb hK hC hi_17 e_17 dX4_flow_83 ?_
            refine lv_iload hx hb dX4_flow_84 (lv_at hl 0 rfl) ?_
            refine lv_icmp_eq (tgt := 93) hx hb dX4_flow_86 (by decide) (fun c_18 => ?_) (fun c_18 => ?_)
            · have hf := it_t c_18 hf
              refine lv_iconst (v := 0) hx hb dX4_flow_93 (by decide) ?_
              exact hj_94 _ _ _ _ hf hC (lv_sub hl [1, 3, 4] rfl)
            · have hf := it_f c_18 hf
              exact hj_89 _ _ _ hf hC (lv_sub hl [1, 3, 4] rfl)
  · have hf := it_f c_2 hf
    refine lv_aload_n hx hb dX4_flow_13 rfl (lv_at hl 0 rfl) ?_
    refine gt_X4_9_liveness hx hb hta hown hK hC dX4_flow_14 ?_
    refine lv_iload_n hx hb dX4_flow_17 rfl (lv_at hl 1 rfl) ?_
    refine lv_iconst (v := 0) hx hb dX4_flow_18 (by decide) ?_
    obtain ⟨hi_19, hf⟩ := ix_inv hf
    obtain ⟨s_19, e_19, hf⟩ := lt_inv hf
    refine as_X_61 hx hb hK hC hi_19 e_19 dX4_flow_19 (fun H locs hC => ?_)
    obtain ⟨x1_20, e_20, hf⟩ := lt_inv hf
    refine lv_iinc (v := x1_20) (lv' := [(1, .int x1_20), (0, .ref (o 60))]) hx hb dX4_flow_20 hl (k := 1) rfl e_20.symm (by decide) rfl (fun ls hl => ?_)
    refine lv_goto (tgt := 2) hx hb dX4_flow_23 (by decide) ?_
    exact ha_2 _ _ hf _ _ _ hC (lv_sub hl [1, 0] rfl)
