set_option maxHeartbeats 8000000 in
set_option maxRecDepth 100000 in
theorem r_X2_add {D : va_G} {y : Nat → ClassId} {o : Nat → Nat} {ad av : Nat → Nat} {x1 : Int32} {x2 : Int32} {x3 : Int32} {σ : Sto} {σ2 : Sto} (hf : f_X2_add x1 x2 x3 σ = some σ2) (l : Launch) (sz : Nat) : Met l yX2_add (Cond.code yX2_add cX2_add 4 none :: ALW) { frames := 0, cells := 0, slots := 0, locals := 0 } (va_Pc [.ref (o 63), .int x1, .int x2, .int x3] (PZ D y ad av (WX y o σ) sz)) (QZv D (WX y o σ) (WX y o σ2) sz) 0 0 (va_A (WX y o σ) sz) := by
  refine met_v (by decide) (Nat.le_of_ble_eq_true rfl) ?_
  intro p e R s m args below meth c Q A ls hx hb hml hta hown hRc hRs hRf hRl hN hK hV hA hret hC hl
  have hl : lv_has ls 4 [(0, .ref (o 63)), (1, .int x1), (2, .int x2), (3, .int x3)] := hl
  unfold f_X2_add at hf
  refine lv_aload_n hx hb dX2_add_0 rfl (lv_at hl 0 rfl) ?_
  refine gt_X2_48_lines hx hb hta hown hK hC dX2_add_1 ?_
  refine lv_sipush (v := 800) hx hb dX2_add_4 (by decide) ?_
  refine lv_icmp_ge (tgt := 63) hx hb dX2_add_7 (by decide) (fun c_1 => ?_) (fun c_1 => ?_)
  · have hf := it_t c_1 hf
    exact hret _ _ _ _ _ (congrArg (WX y o) (Option.some.inj hf)) dX2_add_63 hC
  · have hf := it_f c_1 hf
    refine lv_aload_n hx hb dX2_add_10 rfl (lv_at hl 0 rfl) ?_
    refine gt_X2_9_lines hx hb hta hown hK hC dX2_add_11 ?_
    refine lv_aload_n hx hb dX2_add_14 rfl (lv_at hl 0 rfl) ?_
    refine gt_X2_48_lines hx hb hta hown hK hC dX2_add_15 ?_
    refine lv_iload_n hx hb dX2_add_18 rfl (lv_at hl 1 rfl) ?_
    obtain ⟨hi_2, hf⟩ := ix_inv hf
    obtain ⟨s_2, e_2, hf⟩ := lt_inv hf
    refine as_X_64 hx hb hK hC hi_2 e_2 dX2_add_19 (fun H locs hC => ?_)
    refine lv_aload_n hx hb dX2_add_20 rfl (lv_at hl 0 rfl) ?_
    refine gt_X2_15_lines hx hb hta hown hK hC dX2_add_21 ?_
    refine lv_aload_n hx hb dX2_add_24 rfl (lv_at hl 0 rfl) ?_
    refine gt_X2_48_lines hx hb hta hown hK hC dX2_add_25 ?_
    refine lv_iload_n hx hb dX2_add_28 rfl (lv_at hl 2 rfl) ?_
    obtain ⟨hi_3, hf⟩ := ix_inv hf
    obtain ⟨s_3, e_3, hf⟩ := lt_inv hf
    refine as_X_65 hx hb hK hC hi_3 e_3 dX2_add_29 (fun H locs hC => ?_)
    refine lv_aload_n hx hb dX2_add_30 rfl (lv_at hl 0 rfl) ?_
    refine gt_X2_18_lines hx hb hta hown hK hC dX2_add_31 ?_
    refine lv_aload_n hx hb dX2_add_34 rfl (lv_at hl 0 rfl) ?_
    refine gt_X2_48_lines hx hb hta hown hK hC dX2_add_35 ?_
    refine lv_aload_n hx hb dX2_add_38 rfl (lv_at hl 0 rfl) ?_
    refine gt_X2_52_lines hx hb hta hown hK hC dX2_add_39 ?_
    obtain ⟨hi_4, hf⟩ := ix_inv hf
    obtain ⟨s_4, e_4, hf⟩ := lt_inv hf
    refine as_X_66 hx hb hK hC hi_4 e_4 dX2_add_42 (fun H locs hC => ?_)
    refine lv_aload_n hx hb dX2_add_43 rfl (lv_at hl 0 rfl) ?_
    refine gt_X2_21_lines hx hb hta hown hK hC dX2_add_44 ?_
    refine lv_aload_n hx hb dX2_add_47 rfl (lv_at hl 0 rfl) ?_
    refine gt_X2_48_lines hx hb hta hown hK hC dX2_add_48 ?_
    refine lv_iload_n hx hb dX2_add_51 rfl (lv_at hl 3 rfl) ?_
    obtain ⟨hi_5, hf⟩ := ix_inv hf
    obtain ⟨s_5, e_5, hf⟩ := lt_inv hf
    refine as_X_67 hx hb hK hC hi_5 e_5 dX2_add_52 (fun H locs hC => ?_)
    refine lv_aload_n hx hb dX2_add_53 rfl (lv_at hl 0 rfl) ?_
    refine lv_dup hx hb dX2_add_54 rfl ?_
    refine gt_X2_48_lines hx hb hta hown hK hC dX2_add_55 ?_
    refine lv_iconst (v := 1) hx hb dX2_add_58 (by decide) ?_
    refine lv_iadd hx hb dX2_add_59 ?_
    obtain ⟨s_6, e_6, hf⟩ := lt_inv hf
    refine pt_X2_48_lines hx hb hta hown hK hC e_6 dX2_add_60 (fun H locs hC => ?_)
    exact hret _ _ _ _ _ (congrArg (WX y o) (Option.some.inj hf)) dX2_add_63 hC

set_option maxHeartbeats 8000000 in
set_option maxRecDepth 100000 in
theorem r_X2_openLine {D : va_G} {y : Nat → ClassId} {o : Nat → Nat} {ad av : Nat → Nat} {x1 : Int32} {x2 : Int32} {σ : Sto} {σ2 : Sto} (hf : f_X2_openLine x1 x2 σ = some σ2) (l : Launch) (sz : Nat) : Met l yX2_openLine (Cond.code yX2_openLine cX2_openLine 3 none :: ALW) { frames := 1, cells := 0, slots := 0, locals := 23 } (va_Pc [.ref (o 63), .int x1, .int x2] (PZ D y ad av (WX y o σ) sz)) (QZv D (WX y o σ) (WX y o σ2) sz) 0 0 (va_A (WX y o σ) sz) := by
  refine met_v (by decide) (Nat.le_of_ble_eq_true rfl) ?_
  intro p e R s m args below meth c Q A ls hx hb hml hta hown hRc hRs hRf hRl hN hK hV hA hret hC hl
  have hl : lv_has ls 3 [(0, .ref (o 63)), (1, .int x1), (2, .int x2)] := hl
  unfold f_X2_openLine at hf
  refine lv_aload_n hx hb dX2_openLine_0 rfl (lv_at hl 0 rfl) ?_
  refine lv_iload_n hx hb dX2_openLine_1 rfl (lv_at hl 1 rfl) ?_
  refine lv_iload_n hx hb dX2_openLine_2 rfl (lv_at hl 2 rfl) ?_
  refine lv_iconst (v := (-1)) hx hb dX2_openLine_3 (by decide) ?_
  obtain ⟨s_1, hc_1, hf⟩ := cals_inv hf
  refine cc_Vv (r_X2_add (D := D) (y := y) (o := o) (ad := ad) (av := av) hc_1 l) hx hb hml hta hown hK hN hV hA hC hRc hRs (by omega) (by omega) wq_239 (q := 63) (ci := 2) rfl rfl wq_240 wq_241 wq_242 wq_235 hd_X2_add (As := [.int x1, .int x2, .int (-1)]) (rest := []) rfl rfl hl.1 rfl dX2_openLine_4 (fun H locs hC => ?_)
  refine lv_aload_n hx hb dX2_openLine_7 rfl (lv_at hl 0 rfl) ?_
  refine lv_dup hx hb dX2_openLine_8 rfl ?_
  refine gt_X2_52_lines hx hb hta hown hK hC dX2_openLine_9 ?_
  refine lv_iconst (v := 1) hx hb dX2_openLine_12 (by decide) ?_
  refine lv_iadd hx hb dX2_openLine_13 ?_
  obtain ⟨s_2, e_2, hf⟩ := lt_inv hf
  refine pt_X2_52_lines hx hb hta hown hK hC e_2 dX2_openLine_14 (fun H locs hC => ?_)
  exact hret _ _ _ _ _ (congrArg (WX y o) (Option.some.inj hf)) dX2_openLine_17 hC

set_option maxHeartbeats 8000000 in
set_option maxRecDepth 100000 in
theorem r_X2_tellStatements {D : va_G} {y : Nat → ClassId} {o : Nat → Nat} {ad av : Nat → Nat} {x1 : Int32} {σ : Sto} {σ2 : Sto} (hf : f_X2_tellStatements x1 σ = some σ2) (l : Launch) (sz : Nat) : Met l yX2_tellStatements (Cond.code yX2_tellStatements cX2_tellStatements 4 none :: ALW) { frames := 2, cells := 0, slots := 0, locals := 45 } (va_Pc [.ref (o 63), .int x1] (PZ D y ad av (WX y o σ) sz)) (QZv D (WX y o σ) (WX y o σ2) sz) 0 0 (va_A (WX y o σ) sz) := by
  refine met_v (by decide) (Nat.le_of_ble_eq_true rfl) ?_
  intro p e R s m args below meth c Q A ls hx hb hml hta hown hRc hRs hRf hRl hN hK hV hA hret hC hl
  have hl : lv_has ls 4 [(0, .ref (o 63)), (1, .int x1)] := hl
  unfold f_X2_tellStatements at hf
  refine lv_aload_n hx hb dX2_tellStatements_0 rfl (lv_at hl 0 rfl) ?_
  refine lv_bipush (v := 11) hx hb dX2_tellStatements_1 (by decide) ?_
  refine lv_iload_n hx hb dX2_tellStatements_3 rfl (lv_at hl 1 rfl) ?_
  refine lv_iconst (v := (-1)) hx hb dX2_tellStatements_4 (by decide) ?_
  obtain ⟨s_1, hc_1, hf⟩ := cals_inv hf
  refine cc_Vv (r_X2_add (D := D) (y := y) (o := o) (ad := ad) (av := av) hc_1 l) hx hb hml hta hown hK hN hV hA hC hRc hRs (by omega) (by omega) wq_239 (q := 63) (ci := 2) rfl rfl wq_240 wq_241 wq_242 wq_235 hd_X2_add (As := [.int 11, .int x1, .int (-1)]) (rest := []) rfl rfl hl.1 rfl dX2_tellStatements_5 (fun H locs hC => ?_)
  refine lv_aload_n hx hb dX2_tellStatements_8 rfl (lv_at hl 0 rfl) ?_
  refine gt_X2_36_lines hx hb hta hown hK hC dX2_tellStatements_9 ?_
  refine gt_X2_111_blocks hx hb hta hown hK hC dX2_tellStatements_12 ?_
  refine lv_iload_n hx hb dX2_tellStatements_15 rfl (lv_at hl 1 rfl) ?_
  obtain ⟨hi_2, hf⟩ := ix_inv hf
  obtain ⟨v_2, e_2, hf⟩ := lt_inv hf
  refine al_X_23 hx hb hK hC hi_2 e_2 dX2_tellStatements_16 ?_
  refine lv_iconst (v := (-1)) hx hb dX2_tellStatements_17 (by decide) ?_
  obtain ⟨k_26, hk_26, hf⟩ := jn_inv1 hf
  have hj_26 : ∀ (t0_3 : Int32) (H : Heap) (locs : List Loc) (ls : Array Slot), k_26 t0_3 = some σ2 → CZ D A s H locs (WX y o s_1) → lv_has ls 4 [(0, .ref (o 63)), (1, .int x1)] → W p l e R s m args below meth c H locs 0 0 Q (F0 m 26 ls [.int t0_3]) := by
    intro t0_3 H locs ls hf hC hl
    have hf := hk_26 _ hf
    refine lv_istore_n (lv' := [(2, .int t0_3), (0, .ref (o 63)), (1, .int x1)]) hx hb dX2_tellStatements_26 rfl hl (by decide) rfl (fun ls hl => ?_)
    refine lv_iload_n hx hb dX2_tellStatements_27 rfl (lv_at hl 0 rfl) ?_
    obtain ⟨k_38, hk_38, hf⟩ := jn_inv1 hf
    have hj_38 : ∀ (s_4 : Sto) (H : Heap) (locs : List Loc) (ls : Array Slot), k_38 s_4 = some σ2 → CZ D A s H locs (WX y o s_4) → lv_has ls 4 [(0, .ref (o 63)), (1, .int x1), (2, .int t0_3)] → W p l e R s m args below meth c H locs 0 0 Q (F0 m 38 ls []) := by
      intro s_4 H locs ls hf hC hl
      have hf := hk_38 _ hf
      refine lv_aload_n hx hb dX2_tellStatements_38 rfl (lv_at hl 0 rfl) ?_
      refine gt_X2_44_lines hx hb hta hown hK hC dX2_tellStatements_39 ?_
      refine gt_X2_114_lifted hx hb hta hown hK hC dX2_tellStatements_42 ?_
      refine lv_iload_n hx hb dX2_tellStatements_45 rfl (lv_at hl 1 rfl) ?_
      obtain ⟨hi_5, hf⟩ := ix_inv hf
      obtain ⟨v_5, e_5, hf⟩ := lt_inv hf
      refine al_X_52 hx hb hK hC hi_5 e_5 dX2_tellStatements_46 ?_
      refine lv_istore_n (lv' := [(3, .int v_5), (0, .ref (o 63)), (1, .int x1), (2, .int t0_3)]) hx hb dX2_tellStatements_47 rfl hl (by decide) rfl (fun ls hl => ?_)
      refine itr_inv2 (P := fun (x3_6 : Int32) (s_6 : Sto) => ∀ (H : Heap) (locs : List Loc) (ls : Array Slot), CZ D A s H locs (WX y o s_6) → lv_has ls 4 [(0, .ref (o 63)), (1, .int x1), (2, .int t0_3), (3, .int x3_6)] → W p l e R s m args below meth c H locs 0 0 Q (F0 m 48 ls [])) hf ?_ _ _ _ hC (lv_sub hl [1, 2, 3, 0] rfl)
      intro a_48 x3_6 s_6 ha_48 hf H locs ls hC hl
      refine lv_iload_n hx hb dX2_tellStatements_48 rfl (lv_at hl 3 rfl) ?_
      refine lv_aload_n hx hb dX2_tellStatements_49 rfl (lv_at hl 0 rfl) ?_
      refine gt_X2_44_lines hx hb hta hown hK hC dX2_tellStatements_50 ?_
      refine gt_X2_114_lifted hx hb hta hown hK hC dX2_tellStatements_53 ?_
      refine lv_iload_n hx hb dX2_tellStatements_56 rfl (lv_at hl 1 rfl) ?_
      refine lv_iconst (v := 1) hx hb dX2_tellStatements_57 (by decide) ?_
      refine lv_iadd hx hb dX2_tellStatements_58 ?_
      obtain ⟨hi_7, hf⟩ := ix_inv hf
      obtain ⟨v_7, e_7, hf⟩ := lt_inv hf
      refine al_X_52 hx hb hK hC hi_7 e_7 dX2_tellStatements_59 ?_
      refine lv_icmp_ge (tgt := 76) hx hb dX2_tellStatements_60 (by decide) (fun c_8 => ?_) (fun c_8 => ?_)
      · have hf := it_t c_8 hf
        refine lv_iload_n hx hb dX2_tellStatements_76 rfl (lv_at hl 2 rfl) ?_
        refine lv_if_eq (tgt := 106) hx hb dX2_tellStatements_77 (by decide) (fun c_9 => ?_) (fun c_9 => ?_)
        · have hf := it_t c_9 hf
          exact hret _ _ _ _ _ (congrArg (WX y o) (Option.some.inj hf)) dX2_tellStatements_106 hC
        · have hf := it_f c_9 hf
          refine lv_aload_n hx hb dX2_tellStatements_80 rfl (lv_at hl 0 rfl) ?_
          refine lv_dup hx hb dX2_tellStatements_81 rfl ?_
          refine gt_X2_52_lines hx hb hta hown hK hC dX2_tellStatements_82 ?_
          refine lv_iconst (v := 1) hx hb dX2_tellStatements_85 (by decide) ?_
          refine lv_isub hx hb dX2_tellStatements_86 ?_
          obtain ⟨s_10, e_10, hf⟩ := lt_inv hf
          refine pt_X2_52_lines hx hb hta hown hK hC e_10 dX2_tellStatements_87 (fun H locs hC => ?_)
          refine lv_aload_n hx hb dX2_tellStatements_90 rfl (lv_at hl 0 rfl) ?_
          refine lv_bipush (v := 10) hx hb dX2_tellStatements_91 (by decide) ?_
          refine lv_aload_n hx hb dX2_tellStatements_93 rfl (lv_at hl 0 rfl) ?_
          refine gt_X2_36_lines hx hb hta hown hK hC dX2_tellStatements_94 ?_
          refine gt_X2_111_blocks hx hb hta hown hK hC dX2_tellStatements_97 ?_
          refine lv_iload_n hx hb dX2_tellStatements_100 rfl (lv_at hl 1 rfl) ?_
          obtain ⟨hi_11, hf⟩ := ix_inv hf
          obtain ⟨v_11, e_11, hf⟩ := lt_inv hf
          refine al_X_23 hx hb hK hC hi_11 e_11 dX2_tellStatements_101 ?_
          refine lv_iconst (v := (-1)) hx hb dX2_tellStatements_102 (by decide) ?_
          obtain ⟨s_12, hc_12, hf⟩ := cals_inv hf
          refine cc_Vv (r_X2_add (D := D) (y := y) (o := o) (ad := ad) (av := av) hc_12 l) hx hb hml hta hown hK hN hV hA hC hRc hRs (by omega) (by omega) wq_239 (q := 63) (ci := 2) rfl rfl wq_240 wq_241 wq_242 wq_235 hd_X2_add (As := [.int 10, .int v_11, .int (-1)]) (rest := []) rfl rfl hl.1 rfl dX2_tellStatements_103 (fun H locs hC => ?_)
          exact hret _ _ _ _ _ (congrArg (WX y o) (Option.some.inj hf)) dX2_tellStatements_106 hC
      · have hf := it_f c_8 hf
        refine lv_aload_n hx hb dX2_tellStatements_63 rfl (lv_at hl 0 rfl) ?_
        refine lv_iconst (v := 0) hx hb dX2_tellStatements_64 (by decide) ?_
        refine lv_iload_n hx hb dX2_tellStatements_65 rfl (lv_at hl 1 rfl) ?_
        refine lv_iload_n hx hb dX2_tellStatements_66 rfl (lv_at hl 3 rfl) ?_
        obtain ⟨s_13, hc_13, hf⟩ := cals_inv hf
        refine cc_Vv (r_X2_add (D := D) (y := y) (o := o) (ad := ad) (av := av) hc_13 l) hx hb hml hta hown hK hN hV hA hC hRc hRs (by omega) (by omega) wq_239 (q := 63) (ci := 2) rfl rfl wq_240 wq_241 wq_242 wq_235 hd_X2_add (As := [.int 0, .int x1, .int x3_6]) (rest := []) rfl rfl hl.1 rfl dX2_tellStatements_67 (fun H locs hC => ?_)
        obtain ⟨x3_14, e_14, hf⟩ := lt_inv hf
        refine lv_iinc (v := x3_14) (lv' := [(3, .int x3_14), (0, .ref (o 63)), (1, .int x1), (2, .int t0_3)]) hx hb dX2_tellStatements_70 hl (k := 3) rfl e_14.symm (by decide) rfl (fun ls hl => ?_)
        refine lv_goto (tgt := 48) hx hb dX2_tellStatements_73 (by decide) ?_
        exact ha_48 _ _ hf _ _ _ hC (lv_sub hl [1, 2, 3, 0] rfl)
    refine lv_if_eq (tgt := 38) hx hb dX2_tellStatements_28 (by decide) (fun c_15 => ?_) (fun c_15 => ?_)
    · have hf := it_t c_15 hf
      exact hj_38 _ _ _ _ hf hC (lv_sub hl [1, 2, 0] rfl)
    · have hf := it_f c_15 hf
      refine lv_aload_n hx hb dX2_tellStatements_31 rfl (lv_at hl 1 rfl) ?_
      refine lv_bipush (v := 9) hx hb dX2_tellStatements_32 (by decide) ?_
      refine lv_iload_n hx hb dX2_tellStatements_34 rfl (lv_at hl 2 rfl) ?_
      obtain ⟨s_16, hc_16, hf⟩ := cals_inv hf
      refine cc_Vv (r_X2_openLine (D := D) (y := y) (o := o) (ad := ad) (av := av) hc_16 l) hx hb hml hta hown hK hN hV hA hC hRc hRs (by omega) (by omega) wq_249 (q := 63) (ci := 2) rfl rfl wq_250 wq_251 wq_242 wq_238 hd_X2_openLine (As := [.int 9, .int x1]) (rest := []) rfl rfl hl.1 rfl dX2_tellStatements_35 (fun H locs hC => ?_)
      exact hj_38 _ _ _ _ hf hC (lv_sub hl [1, 2, 0] rfl)
  refine lv_icmp_eq (tgt := 25) hx hb dX2_tellStatements_18 (by decide) (fun c_17 => ?_) (fun c_17 => ?_)
  · have hf := it_t c_17 hf
    refine lv_iconst (v := 0) hx hb dX2_tellStatements_25 (by decide) ?_
    exact hj_26 _ _ _ _ hf hC hl
  · have hf := it_f c_17 hf
    refine lv_iconst (v := 1) hx hb dX2_tellStatements_21 (by decide) ?_
    refine lv_goto (tgt := 26) hx hb dX2_tellStatements_22 (by decide) ?_
    exact hj_26 _ _ _ _ hf hC hl

set_option maxHeartbeats 8000000 in
set_option maxRecDepth 100000 in
theorem r_X2_closeLine {D : va_G} {y : Nat → ClassId} {o : Nat → Nat} {ad av : Nat → Nat} {x1 : Int32} {σ : Sto} {σ2 : Sto} (hf : f_X2_closeLine x1 σ = some σ2) (l : Launch) (sz : Nat) : Met l yX2_closeLine (Cond.code yX2_closeLine cX2_closeLine 2 none :: ALW) { frames := 1, cells := 0, slots := 0, locals := 23 } (va_Pc [.ref (o 63), .int x1] (PZ D y ad av (WX y o σ) sz)) (QZv D (WX y o σ) (WX y o σ2) sz) 0 0 (va_A (WX y o σ) sz) := by
  refine met_v (by decide) (Nat.le_of_ble_eq_true rfl) ?_
  intro p e R s m args below meth c Q A ls hx hb hml hta hown hRc hRs hRf hRl hN hK hV hA hret hC hl
  have hl : lv_has ls 2 [(0, .ref (o 63)), (1, .int x1)] := hl
  unfold f_X2_closeLine at hf
  refine lv_aload_n hx hb dX2_closeLine_0 rfl (lv_at hl 0 rfl) ?_
  refine lv_dup hx hb dX2_closeLine_1 rfl ?_
  refine gt_X2_52_lines hx hb hta hown hK hC dX2_closeLine_2 ?_
  refine lv_iconst (v := 1) hx hb dX2_closeLine_5 (by decide) ?_
  refine lv_isub hx hb dX2_closeLine_6 ?_
  obtain ⟨s_1, e_1, hf⟩ := lt_inv hf
  refine pt_X2_52_lines hx hb hta hown hK hC e_1 dX2_closeLine_7 (fun H locs hC => ?_)
  refine lv_aload_n hx hb dX2_closeLine_10 rfl (lv_at hl 0 rfl) ?_
  refine lv_iconst (v := 5) hx hb dX2_closeLine_11 (by decide) ?_
  refine lv_iload_n hx hb dX2_closeLine_12 rfl (lv_at hl 1 rfl) ?_
  refine lv_iconst (v := (-1)) hx hb dX2_closeLine_13 (by decide) ?_
  obtain ⟨s_2, hc_2, hf⟩ := cals_inv hf
  refine cc_Vv (r_X2_add (D := D) (y := y) (o := o) (ad := ad) (av := av) hc_2 l) hx hb hml hta hown hK hN hV hA hC hRc hRs (by omega) (by omega) wq_239 (q := 63) (ci := 2) rfl rfl wq_240 wq_241 wq_242 wq_235 hd_X2_add (As := [.int 5, .int x1, .int (-1)]) (rest := []) rfl rfl hl.1 rfl dX2_closeLine_14 (fun H locs hC => ?_)
  exact hret _ _ _ _ _ (congrArg (WX y o) (Option.some.inj hf)) dX2_closeLine_17 hC

set_option maxHeartbeats 8000000 in
set_option maxRecDepth 100000 in
theorem r_X2_isMergeUnder {D : va_G} {y : Nat → ClassId} {o : Nat → Nat} {ad av : Nat → Nat} {x1 : Int32} {x2 : Int32} {σ : Sto} {v : Int32} (hf : f_X2_isMergeUnder x1 x2 σ = some v) (l : Launch) (sz : Nat) : Met l yX2_isMergeUnder (Cond.code yX2_isMergeUnder cX2_isMergeUnder 3 (some .boolean) :: ALW) { frames := 1, cells := 0, slots := 0, locals := 22 } (va_Pc [.ref (o 63), .int x1, .int x2] (PZ D y ad av (WX y o σ) sz)) (QZi D (WX y o σ) v (WX y o σ) sz) 0 0 (va_A (WX y o σ) sz) := by
  refine met_i (by decide) (Nat.le_of_ble_eq_true rfl) ?_
  intro p e R s m args below meth c Q A ls hx hb hml hta hown hRc hRs hRf hRl hN hK hV hA hret hC hl
  have hl : lv_has ls 3 [(0, .ref (o 63)), (1, .int x1), (2, .int x2)] := hl
  unfold f_X2_isMergeUnder at hf
  refine lv_aload_n hx hb dX2_isMergeUnder_0 rfl (lv_at hl 0 rfl) ?_
  refine gt_X2_40_lines hx hb hta hown hK hC dX2_isMergeUnder_1 ?_
  refine gt_X2_101_shape hx hb hta hown hK hC dX2_isMergeUnder_4 ?_
  refine lv_iload_n hx hb dX2_isMergeUnder_7 rfl (lv_at hl 1 rfl) ?_
  obtain ⟨v_1, hc_1, hf⟩ := calp_inv hf
  refine cc_SiN (r_X11_isIn (D := D) (y := y) (w := WX y o σ) (ad := ad) (av := av) hc_1 l) hx hb hml hta hown hK hN hV hA hC hRc hRs (by omega) (by omega) (nw_X2_74 hN) wq_37 wq_38 wq_33 hd_X11_isIn (As := [.long (σ.2 4 0), .int x1]) (rest := []) rfl rfl hl.1 rfl dX2_isMergeUnder_8 (fun H locs hC => ?_)
  obtain ⟨k_31, hk_31, hf⟩ := jn_inv0 hf
  have hj_31 : ∀  (H : Heap) (locs : List Loc) (ls : Array Slot), k_31 = some v → CZ D A s H locs (WX y o σ) → lv_has ls 3 [] → W p l e R s m args below meth c H locs 0 0 Q (F0 m 31 ls []) := by
    intro H locs ls hf hC hl
    have hf := hk_31 hf
    refine lv_iconst (v := 0) hx hb dX2_isMergeUnder_31 (by decide) ?_
    exact hret _ _ _ _ _ _ (Option.some.inj hf) rfl rfl dX2_isMergeUnder_32 hC
  refine lv_if_eq (tgt := 31) hx hb dX2_isMergeUnder_11 (by decide) (fun c_3 => ?_) (fun c_3 => ?_)
  · have hf := it_t c_3 hf
    exact hj_31 _ _ _ hf hC (lv_sub hl [] rfl)
  · have hf := it_f c_3 hf
    refine lv_aload_n hx hb dX2_isMergeUnder_14 rfl (lv_at hl 0 rfl) ?_
    refine gt_X2_40_lines hx hb hta hown hK hC dX2_isMergeUnder_15 ?_
    refine gt_X2_104_shape hx hb hta hown hK hC dX2_isMergeUnder_18 ?_
    refine lv_iload_n hx hb dX2_isMergeUnder_21 rfl (lv_at hl 1 rfl) ?_
    obtain ⟨hi_4, hf⟩ := ix_inv hf
    obtain ⟨v_4, e_4, hf⟩ := lt_inv hf
    refine al_X_36 hx hb hK hC hi_4 e_4 dX2_isMergeUnder_22 ?_
    refine lv_iload_n hx hb dX2_isMergeUnder_23 rfl (lv_at hl 2 rfl) ?_
    refine lv_icmp_ne (tgt := 31) hx hb dX2_isMergeUnder_24 (by decide) (fun c_5 => ?_) (fun c_5 => ?_)
    · have hf := it_f c_5 hf
      exact hj_31 _ _ _ hf hC (lv_sub hl [] rfl)
    · have hf := it_t c_5 hf
      refine lv_iconst (v := 1) hx hb dX2_isMergeUnder_27 (by decide) ?_
      refine lv_goto (tgt := 32) hx hb dX2_isMergeUnder_28 (by decide) ?_
      exact hret _ _ _ _ _ _ (Option.some.inj hf) rfl rfl dX2_isMergeUnder_32 hC

set_option maxHeartbeats 8000000 in
set_option maxRecDepth 100000 in
theorem rg_X2_goOn {D : va_G} {y : Nat → ClassId} {o : Nat → Nat} {ad av : Nat → Nat} : ∀ d : Nat, (∀ {x1 : Int32} {x2 : Int32} {x3 : Int32} {σ : Sto} {σ2 : Sto}, f_X2_goOn d x1 x2 x3 σ = some σ2 → ∀ (l : Launch) (sz : Nat), Met l yX2_goOn (Cond.code yX2_goOn cX2_goOn 5 none :: ALW) { frames := d + 3, cells := 0, slots := 0, locals := d * 24 + 68 } (va_Pc [.ref (o 63), .int x1, .int x2, .int x3] (PZ D y ad av (WX y o σ) sz)) (QZv D (WX y o σ) (WX y o σ2) sz) 0 0 (va_A (WX y o σ) sz)) ∧ (∀ {x1 : Int32} {x2 : Int32} {σ : Sto} {σ2 : Sto}, f_X2_tellEnd d x1 x2 σ = some σ2 → ∀ (l : Launch) (sz : Nat), Met l yX2_tellEnd (Cond.code yX2_tellEnd cX2_tellEnd 4 none :: ALW) { frames := d + 3, cells := 0, slots := 0, locals := d * 24 + 68 } (va_Pc [.ref (o 63), .int x1, .int x2] (PZ D y ad av (WX y o σ) sz)) (QZv D (WX y o σ) (WX y o σ2) sz) 0 0 (va_A (WX y o σ) sz)) ∧ (∀ {x1 : Int32} {x2 : Int32} {σ : Sto} {σ2 : Sto}, f_X2_tell d x1 x2 σ = some σ2 → ∀ (l : Launch) (sz : Nat), Met l yX2_tell (Cond.code yX2_tell cX2_tell 5 none :: ALW) { frames := d + 3, cells := 0, slots := 0, locals := d * 24 + 68 } (va_Pc [.ref (o 63), .int x1, .int x2] (PZ D y ad av (WX y o σ) sz)) (QZv D (WX y o σ) (WX y o σ2) sz) 0 0 (va_A (WX y o σ) sz)) := by
  intro d
  induction d with
  | zero => exact ⟨(fun hc => by have hc : (none : Option (Sto)) = some _ := hc; cases hc), (fun hc => by have hc : (none : Option (Sto)) = some _ := hc; cases hc), (fun hc => by have hc : (none : Option (Sto)) = some _ := hc; cases hc)⟩
  | succ d ih =>
    obtain ⟨h_X2_goOn, h_X2_tellEnd, h_X2_tell⟩ := ih
    refine ⟨?_, ?_, ?_⟩
    · intro x1 x2 x3 σ σ2 hf l sz
      have hf : b_X2_goOn (f_X2_goOn d) (f_X2_tellEnd d) (f_X2_tell d) x1 x2 x3 σ = some σ2 := hf
      refine met_v (by decide) (Nat.le_of_ble_eq_true rfl) ?_
      intro p e R s m args below meth c Q A ls hx hb hml hta hown hRc hRs hRf hRl hN hK hV hA hret hC hl
      have hl : lv_has ls 5 [(0, .ref (o 63)), (1, .int x1), (2, .int x2), (3, .int x3)] := hl
      unfold b_X2_goOn at hf
      refine lv_iload_n hx hb dX2_goOn_0 rfl (lv_at hl 2 rfl) ?_
      refine lv_iconst (v := (-1)) hx hb dX2_goOn_1 (by decide) ?_
      refine lv_icmp_ne (tgt := 6) hx hb dX2_goOn_2 (by decide) (fun c_1 => ?_) (fun c_1 => ?_)
      · have hf := it_f c_1 hf
        refine lv_aload_n hx hb dX2_goOn_6 rfl (lv_at hl 0 rfl) ?_
        refine gt_X2_36_lines hx hb hta hown hK hC dX2_goOn_7 ?_
        refine lv_iload_n hx hb dX2_goOn_10 rfl (lv_at hl 1 rfl) ?_
        refine lv_iload_n hx hb dX2_goOn_11 rfl (lv_at hl 2 rfl) ?_
        obtain ⟨v_2, hc_2, hf⟩ := calp_inv hf
        refine cc_Vi (r_X0_edgeTo (D := D) (y := y) (o := o) (ad := ad) (av := av) hc_2 l) hx hb hml hta hown hK hN hV hA hC hRc hRs (by omega) (by omega) wq_255 (q := 17) (ci := 0) rfl rfl wq_40 wq_41 wq_42 wq_34 hd_X0_edgeTo (As := [.int x1, .int x2]) (rest := []) rfl rfl hl.1 rfl dX2_goOn_12 (fun H locs hC => ?_)
        refine lv_istore (lv' := [(4, .int v_2), (0, .ref (o 63)), (1, .int x1), (2, .int x2), (3, .int x3)]) hx hb dX2_goOn_15 hl (by decide) rfl (fun ls hl => ?_)
        refine lv_aload_n hx hb dX2_goOn_17 rfl (lv_at hl 1 rfl) ?_
        refine gt_X2_40_lines hx hb hta hown hK hC dX2_goOn_18 ?_
        refine gt_X2_132_shape hx hb hta hown hK hC dX2_goOn_21 ?_
        refine lv_iload hx hb dX2_goOn_24 (lv_at hl 0 rfl) ?_
        obtain ⟨hi_3, hf⟩ := ix_inv hf
        obtain ⟨v_3, e_3, hf⟩ := lt_inv hf
        refine al_X_31 hx hb hK hC hi_3 e_3 dX2_goOn_26 ?_
        refine lv_if_eq (tgt := 41) hx hb dX2_goOn_27 (by decide) (fun c_4 => ?_) (fun c_4 => ?_)
        · have hf := it_t c_4 hf
          refine lv_aload_n hx hb dX2_goOn_41 rfl (lv_at hl 1 rfl) ?_
          refine gt_X2_40_lines hx hb hta hown hK hC dX2_goOn_42 ?_
          refine gt_X2_136_shape hx hb hta hown hK hC dX2_goOn_45 ?_
          refine lv_iload hx hb dX2_goOn_48 (lv_at hl 0 rfl) ?_
          obtain ⟨hi_5, hf⟩ := ix_inv hf
          obtain ⟨v_5, e_5, hf⟩ := lt_inv hf
          refine al_X_32 hx hb hK hC hi_5 e_5 dX2_goOn_50 ?_
          refine lv_if_eq (tgt := 65) hx hb dX2_goOn_51 (by decide) (fun c_6 => ?_) (fun c_6 => ?_)
          · have hf := it_t c_6 hf
            refine lv_aload_n hx hb dX2_goOn_65 rfl (lv_at hl 1 rfl) ?_
            refine gt_X2_40_lines hx hb hta hown hK hC dX2_goOn_66 ?_
            refine gt_X2_101_shape hx hb hta hown hK hC dX2_goOn_69 ?_
            refine lv_iload_n hx hb dX2_goOn_72 rfl (lv_at hl 3 rfl) ?_
            obtain ⟨v_7, hc_7, hf⟩ := calp_inv hf
            refine cc_SiN (r_X11_isIn (D := D) (y := y) (w := WX y o σ) (ad := ad) (av := av) hc_7 l) hx hb hml hta hown hK hN hV hA hC hRc hRs (by omega) (by omega) (nw_X2_74 hN) wq_37 wq_38 wq_33 hd_X11_isIn (As := [.long (σ.2 4 0), .int x2]) (rest := []) rfl rfl hl.1 rfl dX2_goOn_73 (fun H locs hC => ?_)
            refine lv_if_eq (tgt := 90) hx hb dX2_goOn_76 (by decide) (fun c_8 => ?_) (fun c_8 => ?_)
            · have hf := it_t c_8 hf
              refine lv_aload_n hx hb dX2_goOn_90 rfl (lv_at hl 1 rfl) ?_
              refine lv_iload_n hx hb dX2_goOn_91 rfl (lv_at hl 3 rfl) ?_
              refine lv_iload_n hx hb dX2_goOn_92 rfl (lv_at hl 4 rfl) ?_
              refine lv_iconst (v := 1) hx hb dX2_goOn_93 (by decide) ?_
              refine lv_iadd hx hb dX2_goOn_94 ?_
              obtain ⟨s_9, hc_9, hf⟩ := cals_inv hf
              refine cc_Vv (h_X2_tell hc_9 l) hx hb hml hta hown hK hN hV hA hC hRc hRs (by omega) (by omega) wq_256 (q := 63) (ci := 2) rfl rfl wq_257 wq_258 wq_242 wq_259 hd_X2_tell (As := [.int x2, .int (x3 + 1)]) (rest := []) rfl rfl hl.1 rfl dX2_goOn_95 (fun H locs hC => ?_)
              exact hret _ _ _ _ _ (congrArg (WX y o) (Option.some.inj hf)) dX2_goOn_98 hC
            · have hf := it_f c_8 hf
              refine lv_aload_n hx hb dX2_goOn_79 rfl (lv_at hl 1 rfl) ?_
              refine lv_bipush (v := 6) hx hb dX2_goOn_80 (by decide) ?_
              refine lv_iload_n hx hb dX2_goOn_82 rfl (lv_at hl 3 rfl) ?_
              refine lv_iconst (v := (-1)) hx hb dX2_goOn_83 (by decide) ?_
              obtain ⟨s_10, hc_10, hf⟩ := cals_inv hf
              refine cc_Vv (r_X2_add (D := D) (y := y) (o := o) (ad := ad) (av := av) hc_10 l) hx hb hml hta hown hK hN hV hA hC hRc hRs (by omega) (by omega) wq_239 (q := 63) (ci := 2) rfl rfl wq_240 wq_241 wq_242 wq_235 hd_X2_add (As := [.int 6, .int x2, .int (-1)]) (rest := []) rfl rfl hl.1 rfl dX2_goOn_84 (fun H locs hC => ?_)
              refine lv_goto (tgt := 98) hx hb dX2_goOn_87 (by decide) ?_
              exact hret _ _ _ _ _ (congrArg (WX y o) (Option.some.inj hf)) dX2_goOn_98 hC
          · have hf := it_f c_6 hf
            refine lv_aload_n hx hb dX2_goOn_54 rfl (lv_at hl 1 rfl) ?_
            refine lv_bipush (v := 7) hx hb dX2_goOn_55 (by decide) ?_
            refine lv_iload_n hx hb dX2_goOn_57 rfl (lv_at hl 3 rfl) ?_
            refine lv_iconst (v := (-1)) hx hb dX2_goOn_58 (by decide) ?_
            obtain ⟨s_11, hc_11, hf⟩ := cals_inv hf
            refine cc_Vv (r_X2_add (D := D) (y := y) (o := o) (ad := ad) (av := av) hc_11 l) hx hb hml hta hown hK hN hV hA hC hRc hRs (by omega) (by omega) wq_239 (q := 63) (ci := 2) rfl rfl wq_240 wq_241 wq_242 wq_235 hd_X2_add (As := [.int 7, .int x2, .int (-1)]) (rest := []) rfl rfl hl.1 rfl dX2_goOn_59 (fun H locs hC => ?_)
            refine lv_goto (tgt := 98) hx hb dX2_goOn_62 (by decide) ?_
            exact hret _ _ _ _ _ (congrArg (WX y o) (Option.some.inj hf)) dX2_goOn_98 hC
        · have hf := it_f c_4 hf
          refine lv_aload_n hx hb dX2_goOn_30 rfl (lv_at hl 1 rfl) ?_
          refine lv_bipush (v := 8) hx hb dX2_goOn_31 (by decide) ?_
          refine lv_iload_n hx hb dX2_goOn_33 rfl (lv_at hl 3 rfl) ?_
          refine lv_iconst (v := (-1)) hx hb dX2_goOn_34 (by decide) ?_
          obtain ⟨s_12, hc_12, hf⟩ := cals_inv hf
          refine cc_Vv (r_X2_add (D := D) (y := y) (o := o) (ad := ad) (av := av) hc_12 l) hx hb hml hta hown hK hN hV hA hC hRc hRs (by omega) (by omega) wq_239 (q := 63) (ci := 2) rfl rfl wq_240 wq_241 wq_242 wq_235 hd_X2_add (As := [.int 8, .int x2, .int (-1)]) (rest := []) rfl rfl hl.1 rfl dX2_goOn_35 (fun H locs hC => ?_)
          refine lv_goto (tgt := 98) hx hb dX2_goOn_38 (by decide) ?_
          exact hret _ _ _ _ _ (congrArg (WX y o) (Option.some.inj hf)) dX2_goOn_98 hC
      · have hf := it_t c_1 hf
        exact hret _ _ _ _ _ (congrArg (WX y o) (Option.some.inj hf)) dX2_goOn_5 hC
    · intro x1 x2 σ σ2 hf l sz
      have hf : b_X2_tellEnd (f_X2_goOn d) (f_X2_tellEnd d) (f_X2_tell d) x1 x2 σ = some σ2 := hf
      refine met_v (by decide) (Nat.le_of_ble_eq_true rfl) ?_
      intro p e R s m args below meth c Q A ls hx hb hml hta hown hRc hRs hRf hRl hN hK hV hA hret hC hl
      have hl : lv_has ls 4 [(0, .ref (o 63)), (1, .int x1), (2, .int x2)] := hl
      unfold b_X2_tellEnd at hf
      refine lv_aload_n hx hb dX2_tellEnd_0 rfl (lv_at hl 0 rfl) ?_
      refine gt_X2_36_lines hx hb hta hown hK hC dX2_tellEnd_1 ?_
      refine gt_X2_119_blocks hx hb hta hown hK hC dX2_tellEnd_4 ?_
      refine lv_iload_n hx hb dX2_tellEnd_7 rfl (lv_at hl 1 rfl) ?_
      obtain ⟨hi_1, hf⟩ := ix_inv hf
      obtain ⟨v_1, e_1, hf⟩ := lt_inv hf
      refine al_X_22 hx hb hK hC hi_1 e_1 dX2_tellEnd_8 ?_
      refine lv_istore_n (lv' := [(3, .int v_1), (0, .ref (o 63)), (1, .int x1), (2, .int x2)]) hx hb dX2_tellEnd_9 rfl hl (by decide) rfl (fun ls hl => ?_)
      refine lv_iload_n hx hb dX2_tellEnd_10 rfl (lv_at hl 0 rfl) ?_
      refine lv_iconst (v := (-1)) hx hb dX2_tellEnd_11 (by decide) ?_
      refine lv_icmp_ne (tgt := 31) hx hb dX2_tellEnd_12 (by decide) (fun c_2 => ?_) (fun c_2 => ?_)
      · have hf := it_f c_2 hf
        refine lv_aload_n hx hb dX2_tellEnd_31 rfl (lv_at hl 1 rfl) ?_
        refine lv_iconst (v := 3) hx hb dX2_tellEnd_32 (by decide) ?_
        refine lv_iload_n hx hb dX2_tellEnd_33 rfl (lv_at hl 2 rfl) ?_
        obtain ⟨s_5, hc_5, hf⟩ := cals_inv hf
        refine cc_Vv (r_X2_openLine (D := D) (y := y) (o := o) (ad := ad) (av := av) hc_5 l) hx hb hml hta hown hK hN hV hA hC hRc hRs (by omega) (by omega) wq_249 (q := 63) (ci := 2) rfl rfl wq_250 wq_251 wq_242 wq_238 hd_X2_openLine (As := [.int 3, .int x1]) (rest := []) rfl rfl hl.1 rfl dX2_tellEnd_34 (fun H locs hC => ?_)
        refine lv_aload_n hx hb dX2_tellEnd_37 rfl (lv_at hl 1 rfl) ?_
        refine lv_iload_n hx hb dX2_tellEnd_38 rfl (lv_at hl 2 rfl) ?_
        refine lv_aload_n hx hb dX2_tellEnd_39 rfl (lv_at hl 1 rfl) ?_
        refine gt_X2_36_lines hx hb hta hown hK hC dX2_tellEnd_40 ?_
        refine gt_X2_122_blocks hx hb hta hown hK hC dX2_tellEnd_43 ?_
        refine lv_iload_n hx hb dX2_tellEnd_46 rfl (lv_at hl 2 rfl) ?_
        obtain ⟨hi_6, hf⟩ := ix_inv hf
        obtain ⟨v_6, e_6, hf⟩ := lt_inv hf
        refine al_X_21 hx hb hK hC hi_6 e_6 dX2_tellEnd_47 ?_
        refine lv_iload_n hx hb dX2_tellEnd_48 rfl (lv_at hl 3 rfl) ?_
        obtain ⟨s_7, hc_7, hf⟩ := cals_inv hf
        refine cc_Vv (h_X2_goOn hc_7 l) hx hb hml hta hown hK hN hV hA hC hRc hRs (by omega) (by omega) wq_278 (q := 63) (ci := 2) rfl rfl wq_279 wq_280 wq_242 wq_281 hd_X2_goOn (As := [.int x1, .int v_6, .int x2]) (rest := []) rfl rfl hl.1 rfl dX2_tellEnd_49 (fun H locs hC => ?_)
        refine lv_aload_n hx hb dX2_tellEnd_52 rfl (lv_at hl 1 rfl) ?_
        refine lv_dup hx hb dX2_tellEnd_53 rfl ?_
        refine gt_X2_52_lines hx hb hta hown hK hC dX2_tellEnd_54 ?_
        refine lv_iconst (v := 1) hx hb dX2_tellEnd_57 (by decide) ?_
        refine lv_isub hx hb dX2_tellEnd_58 ?_
        obtain ⟨s_8, e_8, hf⟩ := lt_inv hf
        refine pt_X2_52_lines hx hb hta hown hK hC e_8 dX2_tellEnd_59 (fun H locs hC => ?_)
        refine lv_aload_n hx hb dX2_tellEnd_62 rfl (lv_at hl 1 rfl) ?_
        refine lv_iconst (v := 4) hx hb dX2_tellEnd_63 (by decide) ?_
        refine lv_iload_n hx hb dX2_tellEnd_64 rfl (lv_at hl 2 rfl) ?_
        obtain ⟨s_9, hc_9, hf⟩ := cals_inv hf
        refine cc_Vv (r_X2_openLine (D := D) (y := y) (o := o) (ad := ad) (av := av) hc_9 l) hx hb hml hta hown hK hN hV hA hC hRc hRs (by omega) (by omega) wq_249 (q := 63) (ci := 2) rfl rfl wq_250 wq_251 wq_242 wq_238 hd_X2_openLine (As := [.int 4, .int x1]) (rest := []) rfl rfl hl.1 rfl dX2_tellEnd_65 (fun H locs hC => ?_)
        refine lv_aload_n hx hb dX2_tellEnd_68 rfl (lv_at hl 1 rfl) ?_
        refine lv_iload_n hx hb dX2_tellEnd_69 rfl (lv_at hl 2 rfl) ?_
        refine lv_iload_n hx hb dX2_tellEnd_70 rfl (lv_at hl 0 rfl) ?_
        refine lv_iload_n hx hb dX2_tellEnd_71 rfl (lv_at hl 3 rfl) ?_
        obtain ⟨s_10, hc_10, hf⟩ := cals_inv hf
        refine cc_Vv (h_X2_goOn hc_10 l) hx hb hml hta hown hK hN hV hA hC hRc hRs (by omega) (by omega) wq_278 (q := 63) (ci := 2) rfl rfl wq_279 wq_280 wq_242 wq_281 hd_X2_goOn (As := [.int x1, .int v_1, .int x2]) (rest := []) rfl rfl hl.1 rfl dX2_tellEnd_72 (fun H locs hC => ?_)
        refine lv_aload_n hx hb dX2_tellEnd_75 rfl (lv_at hl 1 rfl) ?_
        refine lv_iload_n hx hb dX2_tellEnd_76 rfl (lv_at hl 2 rfl) ?_
        obtain ⟨s_11, hc_11, hf⟩ := cals_inv hf
        refine cc_Vv (r_X2_closeLine (D := D) (y := y) (o := o) (ad := ad) (av := av) hc_11 l) hx hb hml hta hown hK hN hV hA hC hRc hRs (by omega) (by omega) wq_272 (q := 63) (ci := 2) rfl rfl wq_273 wq_274 wq_242 wq_252 hd_X2_closeLine (As := [.int x1]) (rest := []) rfl rfl hl.1 rfl dX2_tellEnd_77 (fun H locs hC => ?_)
        exact hret _ _ _ _ _ (congrArg (WX y o) (Option.some.inj hf)) dX2_tellEnd_80 hC
      · have hf := it_t c_2 hf
        refine lv_aload_n hx hb dX2_tellEnd_15 rfl (lv_at hl 1 rfl) ?_
        refine lv_iload_n hx hb dX2_tellEnd_16 rfl (lv_at hl 2 rfl) ?_
        refine lv_aload_n hx hb dX2_tellEnd_17 rfl (lv_at hl 1 rfl) ?_
        refine gt_X2_36_lines hx hb hta hown hK hC dX2_tellEnd_18 ?_
        refine gt_X2_122_blocks hx hb hta hown hK hC dX2_tellEnd_21 ?_
        refine lv_iload_n hx hb dX2_tellEnd_24 rfl (lv_at hl 2 rfl) ?_
        obtain ⟨hi_3, hf⟩ := ix_inv hf
        obtain ⟨v_3, e_3, hf⟩ := lt_inv hf
        refine al_X_21 hx hb hK hC hi_3 e_3 dX2_tellEnd_25 ?_
        refine lv_iload_n hx hb dX2_tellEnd_26 rfl (lv_at hl 3 rfl) ?_
        obtain ⟨s_4, hc_4, hf⟩ := cals_inv hf
        refine cc_Vv (h_X2_goOn hc_4 l) hx hb hml hta hown hK hN hV hA hC hRc hRs (by omega) (by omega) wq_278 (q := 63) (ci := 2) rfl rfl wq_279 wq_280 wq_242 wq_281 hd_X2_goOn (As := [.int x1, .int v_3, .int x2]) (rest := []) rfl rfl hl.1 rfl dX2_tellEnd_27 (fun H locs hC => ?_)
        exact hret _ _ _ _ _ (congrArg (WX y o) (Option.some.inj hf)) dX2_tellEnd_30 hC
    · intro x1 x2 σ σ2 hf l sz
      have hf : b_X2_tell (f_X2_goOn d) (f_X2_tellEnd d) (f_X2_tell d) x1 x2 σ = some σ2 := hf
      refine met_v (by decide) (Nat.le_of_ble_eq_true rfl) ?_
      intro p e R s m args below meth c Q A ls hx hb hml hta hown hRc hRs hRf hRl hN hK hV hA hret hC hl
      have hl : lv_has ls 5 [(0, .ref (o 63)), (1, .int x1), (2, .int x2)] := hl
      unfold b_X2_tell at hf
      refine lv_iload_n hx hb dX2_tell_0 rfl (lv_at hl 2 rfl) ?_
      refine lv_bipush (v := 60) hx hb dX2_tell_1 (by decide) ?_
      refine lv_icmp_le (tgt := 7) hx hb dX2_tell_3 (by decide) (fun c_1 => ?_) (fun c_1 => ?_)
      · have hf := it_t c_1 hf
        refine lv_aload_n hx hb dX2_tell_7 rfl (lv_at hl 0 rfl) ?_
        refine gt_X2_40_lines hx hb hta hown hK hC dX2_tell_8 ?_
        refine gt_X2_68_shape hx hb hta hown hK hC dX2_tell_11 ?_
        refine lv_iload_n hx hb dX2_tell_14 rfl (lv_at hl 1 rfl) ?_
        obtain ⟨v_2, hc_2, hf⟩ := calp_inv hf
        refine cc_SiN (r_X11_isIn (D := D) (y := y) (w := WX y o σ) (ad := ad) (av := av) hc_2 l) hx hb hml hta hown hK hN hV hA hC hRc hRs (by omega) (by omega) (nw_X2_74 hN) wq_37 wq_38 wq_33 hd_X11_isIn (As := [.long (σ.2 2 0), .int x1]) (rest := []) rfl rfl hl.1 rfl dX2_tell_15 (fun H locs hC => ?_)
        refine lv_istore_n (lv' := [(3, .int v_2), (0, .ref (o 63)), (1, .int x1), (2, .int x2)]) hx hb dX2_tell_18 rfl hl (by decide) rfl (fun ls hl => ?_)
        refine lv_iload_n hx hb dX2_tell_19 rfl (lv_at hl 0 rfl) ?_
        obtain ⟨k_29, hk_29, hf⟩ := jn_inv1 hf
        have hj_29 : ∀ (s_3 : Sto) (H : Heap) (locs : List Loc) (ls : Array Slot), k_29 s_3 = some σ2 → CZ D A s H locs (WX y o s_3) → lv_has ls 5 [(0, .ref (o 63)), (1, .int x1), (2, .int x2), (3, .int v_2)] → W p l e R s m args below meth c H locs 0 0 Q (F0 m 29 ls []) := by
          intro s_3 H locs ls hf hC hl
          have hf := hk_29 _ hf
          refine lv_aload_n hx hb dX2_tell_29 rfl (lv_at hl 0 rfl) ?_
          refine gt_X2_36_lines hx hb hta hown hK hC dX2_tell_30 ?_
          refine gt_X2_81_blocks hx hb hta hown hK hC dX2_tell_33 ?_
          refine lv_iconst (v := 1) hx hb dX2_tell_36 (by decide) ?_
          refine lv_isub hx hb dX2_tell_37 ?_
          obtain ⟨x4_4, e_4, hf⟩ := lt_inv hf
          refine nmi e_4 ?_
          refine lv_istore (lv' := [(4, .int x4_4), (0, .ref (o 63)), (1, .int x1), (2, .int x2), (3, .int v_2)]) hx hb dX2_tell_38 hl (by decide) rfl (fun ls hl => ?_)
          refine itr_inv2 (P := fun (x4_5 : Int32) (s_5 : Sto) => ∀ (H : Heap) (locs : List Loc) (ls : Array Slot), CZ D A s H locs (WX y o s_5) → lv_has ls 5 [(0, .ref (o 63)), (1, .int x1), (2, .int x2), (3, .int v_2), (4, .int x4_5)] → W p l e R s m args below meth c H locs 0 0 Q (F0 m 40 ls [])) hf ?_ _ _ _ hC (lv_sub hl [1, 2, 3, 4, 0] rfl)
          intro a_40 x4_5 s_5 ha_40 hf H locs ls hC hl
          refine lv_iload hx hb dX2_tell_40 (lv_at hl 4 rfl) ?_
          refine lv_if_lt (tgt := 84) hx hb dX2_tell_42 (by decide) (fun c_6 => ?_) (fun c_6 => ?_)
          · have hf := it_t c_6 hf
            refine lv_aload_n hx hb dX2_tell_84 rfl (lv_at hl 0 rfl) ?_
            refine lv_iload_n hx hb dX2_tell_85 rfl (lv_at hl 1 rfl) ?_
            obtain ⟨s_7, hc_7, hf⟩ := cals_inv hf
            refine cc_Vv (r_X2_tellStatements (D := D) (y := y) (o := o) (ad := ad) (av := av) hc_7 l) hx hb hml hta hown hK hN hV hA hC hRc hRs (by omega) (by omega) wq_266 (q := 63) (ci := 2) rfl rfl wq_267 wq_268 wq_242 wq_246 hd_X2_tellStatements (As := [.int x1]) (rest := []) rfl rfl hl.1 rfl dX2_tell_86 (fun H locs hC => ?_)
            refine lv_aload_n hx hb dX2_tell_89 rfl (lv_at hl 0 rfl) ?_
            refine lv_iload_n hx hb dX2_tell_90 rfl (lv_at hl 1 rfl) ?_
            refine lv_iload_n hx hb dX2_tell_91 rfl (lv_at hl 2 rfl) ?_
            obtain ⟨s_8, hc_8, hf⟩ := cals_inv hf
            refine cc_Vv (h_X2_tellEnd hc_8 l) hx hb hml hta hown hK hN hV hA hC hRc hRs (by omega) (by omega) wq_269 (q := 63) (ci := 2) rfl rfl wq_270 wq_271 wq_242 wq_275 hd_X2_tellEnd (As := [.int x1, .int x2]) (rest := []) rfl rfl hl.1 rfl dX2_tell_92 (fun H locs hC => ?_)
            refine lv_iconst (v := 0) hx hb dX2_tell_95 (by decide) ?_
            refine lv_istore (lv' := [(4, .int 0), (0, .ref (o 63)), (1, .int x1), (2, .int x2), (3, .int v_2)]) hx hb dX2_tell_96 hl (by decide) rfl (fun ls hl => ?_)
            refine itr_inv2 (P := fun (x4_9 : Int32) (s_9 : Sto) => ∀ (H : Heap) (locs : List Loc) (ls : Array Slot), CZ D A s H locs (WX y o s_9) → lv_has ls 5 [(0, .ref (o 63)), (1, .int x1), (2, .int x2), (3, .int v_2), (4, .int x4_9)] → W p l e R s m args below meth c H locs 0 0 Q (F0 m 98 ls [])) hf ?_ _ _ _ hC (lv_sub hl [1, 2, 3, 4, 0] rfl)
            intro a_98 x4_9 s_9 ha_98 hf H locs ls hC hl
            refine lv_iload hx hb dX2_tell_98 (lv_at hl 4 rfl) ?_
            refine lv_aload_n hx hb dX2_tell_100 rfl (lv_at hl 0 rfl) ?_
            refine gt_X2_36_lines hx hb hta hown hK hC dX2_tell_101 ?_
            refine gt_X2_81_blocks hx hb hta hown hK hC dX2_tell_104 ?_
            refine lv_icmp_ge (tgt := 165) hx hb dX2_tell_107 (by decide) (fun c_10 => ?_) (fun c_10 => ?_)
            · have hf := it_t c_10 hf
              refine lv_iload_n hx hb dX2_tell_165 rfl (lv_at hl 3 rfl) ?_
              refine lv_if_eq (tgt := 174) hx hb dX2_tell_166 (by decide) (fun c_11 => ?_) (fun c_11 => ?_)
              · have hf := it_t c_11 hf
                exact hret _ _ _ _ _ (congrArg (WX y o) (Option.some.inj hf)) dX2_tell_174 hC
              · have hf := it_f c_11 hf
                refine lv_aload_n hx hb dX2_tell_169 rfl (lv_at hl 0 rfl) ?_
                refine lv_iload_n hx hb dX2_tell_170 rfl (lv_at hl 1 rfl) ?_
                obtain ⟨s_12, hc_12, hf⟩ := cals_inv hf
                refine cc_Vv (r_X2_closeLine (D := D) (y := y) (o := o) (ad := ad) (av := av) hc_12 l) hx hb hml hta hown hK hN hV hA hC hRc hRs (by omega) (by omega) wq_272 (q := 63) (ci := 2) rfl rfl wq_273 wq_274 wq_242 wq_252 hd_X2_closeLine (As := [.int x1]) (rest := []) rfl rfl hl.1 rfl dX2_tell_171 (fun H locs hC => ?_)
                exact hret _ _ _ _ _ (congrArg (WX y o) (Option.some.inj hf)) dX2_tell_174 hC
            · have hf := it_f c_10 hf
              refine lv_aload_n hx hb dX2_tell_110 rfl (lv_at hl 0 rfl) ?_
              refine lv_aload_n hx hb dX2_tell_111 rfl (lv_at hl 0 rfl) ?_
              refine gt_X2_40_lines hx hb hta hown hK hC dX2_tell_112 ?_
              refine gt_X2_84_shape hx hb hta hown hK hC dX2_tell_115 ?_
              refine lv_iload hx hb dX2_tell_118 (lv_at hl 4 rfl) ?_
              obtain ⟨hi_13, hf⟩ := ix_inv hf
              obtain ⟨v_13, e_13, hf⟩ := lt_inv hf
              refine al_X_33 hx hb hK hC hi_13 e_13 dX2_tell_120 ?_
              refine lv_iload_n hx hb dX2_tell_121 rfl (lv_at hl 1 rfl) ?_
              obtain ⟨v_14, hc_14, hf⟩ := calp_inv hf
              refine cc_Vi (r_X2_isMergeUnder (D := D) (y := y) (o := o) (ad := ad) (av := av) hc_14 l) hx hb hml hta hown hK hN hV hA hC hRc hRs (by omega) (by omega) wq_263 (q := 63) (ci := 2) rfl rfl wq_264 wq_265 wq_242 wq_243 hd_X2_isMergeUnder (As := [.int v_13, .int x1]) (rest := []) rfl rfl hl.1 rfl dX2_tell_122 (fun H locs hC => ?_)
              obtain ⟨k_159, hk_159, hf⟩ := jn_inv1 hf
              have hj_159 : ∀ (s_15 : Sto) (H : Heap) (locs : List Loc) (ls : Array Slot), k_159 s_15 = some σ2 → CZ D A s H locs (WX y o s_15) → lv_has ls 5 [(0, .ref (o 63)), (1, .int x1), (2, .int x2), (3, .int v_2), (4, .int x4_9)] → W p l e R s m args below meth c H locs 0 0 Q (F0 m 159 ls []) := by
                intro s_15 H locs ls hf hC hl
                have hf := hk_159 _ hf
                obtain ⟨x4_16, e_16, hf⟩ := lt_inv hf
                refine lv_iinc (v := x4_16) (lv' := [(4, .int x4_16), (0, .ref (o 63)), (1, .int x1), (2, .int x2), (3, .int v_2)]) hx hb dX2_tell_159 hl (k := 4) rfl e_16.symm (by decide) rfl (fun ls hl => ?_)
                refine lv_goto (tgt := 98) hx hb dX2_tell_162 (by decide) ?_
                exact ha_98 _ _ hf _ _ _ hC (lv_sub hl [1, 2, 3, 4, 0] rfl)
              refine lv_if_eq (tgt := 159) hx hb dX2_tell_125 (by decide) (fun c_17 => ?_) (fun c_17 => ?_)
              · have hf := it_t c_17 hf
                exact hj_159 _ _ _ _ hf hC hl
              · have hf := it_f c_17 hf
                refine lv_aload_n hx hb dX2_tell_128 rfl (lv_at hl 0 rfl) ?_
                refine lv_aload_n hx hb dX2_tell_129 rfl (lv_at hl 0 rfl) ?_
                refine gt_X2_40_lines hx hb hta hown hK hC dX2_tell_130 ?_
                refine gt_X2_84_shape hx hb hta hown hK hC dX2_tell_133 ?_
                refine lv_iload hx hb dX2_tell_136 (lv_at hl 4 rfl) ?_
                obtain ⟨hi_18, hf⟩ := ix_inv hf
                obtain ⟨v_18, e_18, hf⟩ := lt_inv hf
                refine al_X_33 hx hb hK hC hi_18 e_18 dX2_tell_138 ?_
                obtain ⟨s_19, hc_19, hf⟩ := cals_inv hf
                refine cc_Vv (r_X2_closeLine (D := D) (y := y) (o := o) (ad := ad) (av := av) hc_19 l) hx hb hml hta hown hK hN hV hA hC hRc hRs (by omega) (by omega) wq_272 (q := 63) (ci := 2) rfl rfl wq_273 wq_274 wq_242 wq_252 hd_X2_closeLine (As := [.int v_18]) (rest := []) rfl rfl hl.1 rfl dX2_tell_139 (fun H locs hC => ?_)
                refine lv_aload_n hx hb dX2_tell_142 rfl (lv_at hl 0 rfl) ?_
                refine lv_aload_n hx hb dX2_tell_143 rfl (lv_at hl 0 rfl) ?_
                refine gt_X2_40_lines hx hb hta hown hK hC dX2_tell_144 ?_
                refine gt_X2_84_shape hx hb hta hown hK hC dX2_tell_147 ?_
                refine lv_iload hx hb dX2_tell_150 (lv_at hl 4 rfl) ?_
                obtain ⟨hi_20, hf⟩ := ix_inv hf
                obtain ⟨v_20, e_20, hf⟩ := lt_inv hf
                refine al_X_33 hx hb hK hC hi_20 e_20 dX2_tell_152 ?_
                refine lv_iload_n hx hb dX2_tell_153 rfl (lv_at hl 2 rfl) ?_
                refine lv_iconst (v := 1) hx hb dX2_tell_154 (by decide) ?_
                refine lv_iadd hx hb dX2_tell_155 ?_
                obtain ⟨s_21, hc_21, hf⟩ := cals_inv hf
                refine cc_Vv (h_X2_tell hc_21 l) hx hb hml hta hown hK hN hV hA hC hRc hRs (by omega) (by omega) wq_256 (q := 63) (ci := 2) rfl rfl wq_257 wq_258 wq_242 wq_259 hd_X2_tell (As := [.int v_20, .int (x2 + 1)]) (rest := []) rfl rfl hl.1 rfl dX2_tell_156 (fun H locs hC => ?_)
                exact hj_159 _ _ _ _ hf hC hl
          · have hf := it_f c_6 hf
            refine lv_aload_n hx hb dX2_tell_45 rfl (lv_at hl 0 rfl) ?_
            refine lv_aload_n hx hb dX2_tell_46 rfl (lv_at hl 0 rfl) ?_
            refine gt_X2_40_lines hx hb hta hown hK hC dX2_tell_47 ?_
            refine gt_X2_84_shape hx hb hta hown hK hC dX2_tell_50 ?_
            refine lv_iload hx hb dX2_tell_53 (lv_at hl 4 rfl) ?_
            obtain ⟨hi_22, hf⟩ := ix_inv hf
            obtain ⟨v_22, e_22, hf⟩ := lt_inv hf
            refine al_X_33 hx hb hK hC hi_22 e_22 dX2_tell_55 ?_
            refine lv_iload_n hx hb dX2_tell_56 rfl (lv_at hl 1 rfl) ?_
            obtain ⟨v_23, hc_23, hf⟩ := calp_inv hf
            refine cc_Vi (r_X2_isMergeUnder (D := D) (y := y) (o := o) (ad := ad) (av := av) hc_23 l) hx hb hml hta hown hK hN hV hA hC hRc hRs (by omega) (by omega) wq_263 (q := 63) (ci := 2) rfl rfl wq_264 wq_265 wq_242 wq_243 hd_X2_isMergeUnder (As := [.int v_22, .int x1]) (rest := []) rfl rfl hl.1 rfl dX2_tell_57 (fun H locs hC => ?_)
            obtain ⟨k_78, hk_78, hf⟩ := jn_inv1 hf
            have hj_78 : ∀ (s_24 : Sto) (H : Heap) (locs : List Loc) (ls : Array Slot), k_78 s_24 = some σ2 → CZ D A s H locs (WX y o s_24) → lv_has ls 5 [(0, .ref (o 63)), (1, .int x1), (2, .int x2), (3, .int v_2), (4, .int x4_5)] → W p l e R s m args below meth c H locs 0 0 Q (F0 m 78 ls []) := by
              intro s_24 H locs ls hf hC hl
              have hf := hk_78 _ hf
              obtain ⟨x4_25, e_25, hf⟩ := lt_inv hf
              refine lv_iinc (v := x4_25) (lv' := [(4, .int x4_25), (0, .ref (o 63)), (1, .int x1), (2, .int x2), (3, .int v_2)]) hx hb dX2_tell_78 hl (k := 4) rfl e_25.symm (by decide) rfl (fun ls hl => ?_)
              refine lv_goto (tgt := 40) hx hb dX2_tell_81 (by decide) ?_
              exact ha_40 _ _ hf _ _ _ hC (lv_sub hl [1, 2, 3, 4, 0] rfl)
            refine lv_if_eq (tgt := 78) hx hb dX2_tell_60 (by decide) (fun c_26 => ?_) (fun c_26 => ?_)
            · have hf := it_t c_26 hf
              exact hj_78 _ _ _ _ hf hC hl
            · have hf := it_f c_26 hf
              refine lv_aload_n hx hb dX2_tell_63 rfl (lv_at hl 0 rfl) ?_
              refine lv_iconst (v := 2) hx hb dX2_tell_64 (by decide) ?_
              refine lv_aload_n hx hb dX2_tell_65 rfl (lv_at hl 0 rfl) ?_
              refine gt_X2_40_lines hx hb hta hown hK hC dX2_tell_66 ?_
              refine gt_X2_84_shape hx hb hta hown hK hC dX2_tell_69 ?_
              refine lv_iload hx hb dX2_tell_72 (lv_at hl 4 rfl) ?_
              obtain ⟨hi_27, hf⟩ := ix_inv hf
              obtain ⟨v_27, e_27, hf⟩ := lt_inv hf
              refine al_X_33 hx hb hK hC hi_27 e_27 dX2_tell_74 ?_
              obtain ⟨s_28, hc_28, hf⟩ := cals_inv hf
              refine cc_Vv (r_X2_openLine (D := D) (y := y) (o := o) (ad := ad) (av := av) hc_28 l) hx hb hml hta hown hK hN hV hA hC hRc hRs (by omega) (by omega) wq_249 (q := 63) (ci := 2) rfl rfl wq_250 wq_251 wq_242 wq_238 hd_X2_openLine (As := [.int 2, .int v_27]) (rest := []) rfl rfl hl.1 rfl dX2_tell_75 (fun H locs hC => ?_)
              exact hj_78 _ _ _ _ hf hC hl
        refine lv_if_eq (tgt := 29) hx hb dX2_tell_20 (by decide) (fun c_29 => ?_) (fun c_29 => ?_)
        · have hf := it_t c_29 hf
          exact hj_29 _ _ _ _ hf hC (lv_sub hl [1, 2, 3, 0] rfl)
        · have hf := it_f c_29 hf
          refine lv_aload_n hx hb dX2_tell_23 rfl (lv_at hl 1 rfl) ?_
          refine lv_iconst (v := 1) hx hb dX2_tell_24 (by decide) ?_
          refine lv_iload_n hx hb dX2_tell_25 rfl (lv_at hl 2 rfl) ?_
          obtain ⟨s_30, hc_30, hf⟩ := cals_inv hf
          refine cc_Vv (r_X2_openLine (D := D) (y := y) (o := o) (ad := ad) (av := av) hc_30 l) hx hb hml hta hown hK hN hV hA hC hRc hRs (by omega) (by omega) wq_249 (q := 63) (ci := 2) rfl rfl wq_250 wq_251 wq_242 wq_238 hd_X2_openLine (As := [.int 1, .int x1]) (rest := []) rfl rfl hl.1 rfl dX2_tell_26 (fun H locs hC => ?_)
          exact hj_29 _ _ _ _ hf hC (lv_sub hl [1, 2, 3, 0] rfl)
      · have hf := it_f c_1 hf
        exact hret _ _ _ _ _ (congrArg (WX y o) (Option.some.inj hf)) dX2_tell_6 hC
theorem r_X2_goOn (d : Nat) {D : va_G} {y : Nat → ClassId} {o : Nat → Nat} {ad av : Nat → Nat} {x1 : Int32} {x2 : Int32} {x3 : Int32} {σ : Sto} {σ2 : Sto} (hf : f_X2_goOn d x1 x2 x3 σ = some σ2) (l : Launch) (sz : Nat) : Met l yX2_goOn (Cond.code yX2_goOn cX2_goOn 5 none :: ALW) { frames := d + 3, cells := 0, slots := 0, locals := d * 24 + 68 } (va_Pc [.ref (o 63), .int x1, .int x2, .int x3] (PZ D y ad av (WX y o σ) sz)) (QZv D (WX y o σ) (WX y o σ2) sz) 0 0 (va_A (WX y o σ) sz) := (rg_X2_goOn d).1 hf l sz
theorem r_X2_tellEnd (d : Nat) {D : va_G} {y : Nat → ClassId} {o : Nat → Nat} {ad av : Nat → Nat} {x1 : Int32} {x2 : Int32} {σ : Sto} {σ2 : Sto} (hf : f_X2_tellEnd d x1 x2 σ = some σ2) (l : Launch) (sz : Nat) : Met l yX2_tellEnd (Cond.code yX2_tellEnd cX2_tellEnd 4 none :: ALW) { frames := d + 3, cells := 0, slots := 0, locals := d * 24 + 68 } (va_Pc [.ref (o 63), .int x1, .int x2] (PZ D y ad av (WX y o σ) sz)) (QZv D (WX y o σ) (WX y o σ2) sz) 0 0 (va_A (WX y o σ) sz) := (rg_X2_goOn d).2.1 hf l sz
theorem r_X2_tell (d : Nat) {D : va_G} {y : Nat → ClassId} {o : Nat → Nat} {ad av : Nat → Nat} {x1 : Int32} {x2 : Int32} {σ : Sto} {σ2 : Sto} (hf : f_X2_tell d x1 x2 σ = some σ2) (l : Launch) (sz : Nat) : Met l yX2_tell (Cond.code yX2_tell cX2_tell 5 none :: ALW) { frames := d + 3, cells := 0, slots := 0, locals := d * 24 + 68 } (va_Pc [.ref (o 63), .int x1, .int x2] (PZ D y ad av (WX y o σ) sz)) (QZv D (WX y o σ) (WX y o σ2) sz) 0 0 (va_A (WX y o σ) sz) := (rg_X2_goOn d).2.2 hf l sz

set_option maxHeartbeats 8000000 in
set_option maxRecDepth 100000 in
theorem r_X2_mark {D : va_G} {y : Nat → ClassId} {o : Nat → Nat} {ad av : Nat → Nat} {x1 : Int32} {σ : Sto} {σ2 : Sto} (hf : f_X2_mark x1 σ = some σ2) (l : Launch) (sz : Nat) : Met l yX2_mark (Cond.code yX2_mark cX2_mark 2 none :: ALW) { frames := 0, cells := 0, slots := 0, locals := 0 } (va_Pc [.ref (o 63), .int x1] (PZ D y ad av (WX y o σ) sz)) (QZv D (WX y o σ) (WX y o σ2) sz) 0 0 (va_A (WX y o σ) sz) := by
  refine met_v (by decide) (Nat.le_of_ble_eq_true rfl) ?_
  intro p e R s m args below meth c Q A ls hx hb hml hta hown hRc hRs hRf hRl hN hK hV hA hret hC hl
  have hl : lv_has ls 2 [(0, .ref (o 63)), (1, .int x1)] := hl
  unfold f_X2_mark at hf
  refine lv_aload_n hx hb dX2_mark_0 rfl (lv_at hl 0 rfl) ?_
  refine gt_X2_9_lines hx hb hta hown hK hC dX2_mark_1 ?_
  refine lv_iload_n hx hb dX2_mark_4 rfl (lv_at hl 1 rfl) ?_
  obtain ⟨hi_1, hf⟩ := ix_inv hf
  obtain ⟨v_1, e_1, hf⟩ := lt_inv hf
  refine al_X_64 hx hb hK hC hi_1 e_1 dX2_mark_5 ?_
  refine lv_bipush (v := 11) hx hb dX2_mark_6 (by decide) ?_
  refine lv_icmp_ne (tgt := 26) hx hb dX2_mark_8 (by decide) (fun c_2 => ?_) (fun c_2 => ?_)
  · have hf := it_f c_2 hf
    refine lv_aload_n hx hb dX2_mark_26 rfl (lv_at hl 0 rfl) ?_
    refine gt_X2_9_lines hx hb hta hown hK hC dX2_mark_27 ?_
    refine lv_iload_n hx hb dX2_mark_30 rfl (lv_at hl 1 rfl) ?_
    obtain ⟨hi_5, hf⟩ := ix_inv hf
    obtain ⟨v_5, e_5, hf⟩ := lt_inv hf
    refine al_X_64 hx hb hK hC hi_5 e_5 dX2_mark_31 ?_
    refine lv_iconst (v := 1) hx hb dX2_mark_32 (by decide) ?_
    refine lv_icmp_ne (tgt := 51) hx hb dX2_mark_33 (by decide) (fun c_6 => ?_) (fun c_6 => ?_)
    · have hf := it_f c_6 hf
      refine lv_aload_n hx hb dX2_mark_51 rfl (lv_at hl 0 rfl) ?_
      refine gt_X2_9_lines hx hb hta hown hK hC dX2_mark_52 ?_
      refine lv_iload_n hx hb dX2_mark_55 rfl (lv_at hl 1 rfl) ?_
      obtain ⟨hi_9, hf⟩ := ix_inv hf
      obtain ⟨v_9, e_9, hf⟩ := lt_inv hf
      refine al_X_64 hx hb hK hC hi_9 e_9 dX2_mark_56 ?_
      refine lv_iconst (v := 5) hx hb dX2_mark_57 (by decide) ?_
      refine lv_icmp_ne (tgt := 83) hx hb dX2_mark_58 (by decide) (fun c_10 => ?_) (fun c_10 => ?_)
      · have hf := it_f c_10 hf
        exact hret _ _ _ _ _ (congrArg (WX y o) (Option.some.inj hf)) dX2_mark_83 hC
      · have hf := it_t c_10 hf
        refine lv_aload_n hx hb dX2_mark_61 rfl (lv_at hl 0 rfl) ?_
        refine gt_X2_21_lines hx hb hta hown hK hC dX2_mark_62 ?_
        refine lv_iload_n hx hb dX2_mark_65 rfl (lv_at hl 1 rfl) ?_
        obtain ⟨hi_11, hf⟩ := ix_inv hf
        obtain ⟨v_11, e_11, hf⟩ := lt_inv hf
        refine al_X_67 hx hb hK hC hi_11 e_11 dX2_mark_66 ?_
        refine lv_iconst (v := 2) hx hb dX2_mark_67 (by decide) ?_
        refine lv_icmp_ne (tgt := 83) hx hb dX2_mark_68 (by decide) (fun c_12 => ?_) (fun c_12 => ?_)
        · have hf := it_f c_12 hf
          exact hret _ _ _ _ _ (congrArg (WX y o) (Option.some.inj hf)) dX2_mark_83 hC
        · have hf := it_t c_12 hf
          refine lv_aload_n hx hb dX2_mark_71 rfl (lv_at hl 0 rfl) ?_
          refine gt_X2_30_lines hx hb hta hown hK hC dX2_mark_72 ?_
          refine lv_aload_n hx hb dX2_mark_75 rfl (lv_at hl 0 rfl) ?_
          refine gt_X2_15_lines hx hb hta hown hK hC dX2_mark_76 ?_
          refine lv_iload_n hx hb dX2_mark_79 rfl (lv_at hl 1 rfl) ?_
          obtain ⟨hi_13, hf⟩ := ix_inv hf
          obtain ⟨v_13, e_13, hf⟩ := lt_inv hf
          refine al_X_65 hx hb hK hC hi_13 e_13 dX2_mark_80 ?_
          refine lv_iload_n hx hb dX2_mark_81 rfl (lv_at hl 1 rfl) ?_
          obtain ⟨hi_14, hf⟩ := ix_inv hf
          obtain ⟨s_14, e_14, hf⟩ := lt_inv hf
          refine as_X_70 hx hb hK hC hi_14 e_14 dX2_mark_82 (fun H locs hC => ?_)
          exact hret _ _ _ _ _ (congrArg (WX y o) (Option.some.inj hf)) dX2_mark_83 hC
    · have hf := it_t c_6 hf
      refine lv_aload_n hx hb dX2_mark_36 rfl (lv_at hl 0 rfl) ?_
      refine gt_X2_27_lines hx hb hta hown hK hC dX2_mark_37 ?_
      refine lv_aload_n hx hb dX2_mark_40 rfl (lv_at hl 0 rfl) ?_
      refine gt_X2_15_lines hx hb hta hown hK hC dX2_mark_41 ?_
      refine lv_iload_n hx hb dX2_mark_44 rfl (lv_at hl 1 rfl) ?_
      obtain ⟨hi_7, hf⟩ := ix_inv hf
      obtain ⟨v_7, e_7, hf⟩ := lt_inv hf
      refine al_X_65 hx hb hK hC hi_7 e_7 dX2_mark_45 ?_
      refine lv_iload_n hx hb dX2_mark_46 rfl (lv_at hl 1 rfl) ?_
      obtain ⟨hi_8, hf⟩ := ix_inv hf
      obtain ⟨s_8, e_8, hf⟩ := lt_inv hf
      refine as_X_69 hx hb hK hC hi_8 e_8 dX2_mark_47 (fun H locs hC => ?_)
      refine lv_goto (tgt := 83) hx hb dX2_mark_48 (by decide) ?_
      exact hret _ _ _ _ _ (congrArg (WX y o) (Option.some.inj hf)) dX2_mark_83 hC
  · have hf := it_t c_2 hf
    refine lv_aload_n hx hb dX2_mark_11 rfl (lv_at hl 0 rfl) ?_
    refine gt_X2_24_lines hx hb hta hown hK hC dX2_mark_12 ?_
    refine lv_aload_n hx hb dX2_mark_15 rfl (lv_at hl 0 rfl) ?_
    refine gt_X2_15_lines hx hb hta hown hK hC dX2_mark_16 ?_
    refine lv_iload_n hx hb dX2_mark_19 rfl (lv_at hl 1 rfl) ?_
    obtain ⟨hi_3, hf⟩ := ix_inv hf
    obtain ⟨v_3, e_3, hf⟩ := lt_inv hf
    refine al_X_65 hx hb hK hC hi_3 e_3 dX2_mark_20 ?_
    refine lv_iload_n hx hb dX2_mark_21 rfl (lv_at hl 1 rfl) ?_
    obtain ⟨hi_4, hf⟩ := ix_inv hf
    obtain ⟨s_4, e_4, hf⟩ := lt_inv hf
    refine as_X_68 hx hb hK hC hi_4 e_4 dX2_mark_22 (fun H locs hC => ?_)
    refine lv_goto (tgt := 83) hx hb dX2_mark_23 (by decide) ?_
    exact hret _ _ _ _ _ (congrArg (WX y o) (Option.some.inj hf)) dX2_mark_83 hC

set_option maxHeartbeats 8000000 in
set_option maxRecDepth 100000 in
theorem r_X2_match {D : va_G} {y : Nat → ClassId} {o : Nat → Nat} {ad av : Nat → Nat} {σ : Sto} {σ2 : Sto} (hf : f_X2_match σ = some σ2) (l : Launch) (sz : Nat) : Met l yX2_match (Cond.code yX2_match cX2_match 3 none :: ALW) { frames := 1, cells := 0, slots := 0, locals := 21 } (va_Pc [.ref (o 63)] (PZ D y ad av (WX y o σ) sz)) (QZv D (WX y o σ) (WX y o σ2) sz) 0 0 (va_A (WX y o σ) sz) := by
  refine met_v (by decide) (Nat.le_of_ble_eq_true rfl) ?_
  intro p e R s m args below meth c Q A ls hx hb hml hta hown hRc hRs hRf hRl hN hK hV hA hret hC hl
  have hl : lv_has ls 3 [(0, .ref (o 63))] := hl
  unfold f_X2_match at hf
  refine lv_iconst (v := 0) hx hb dX2_match_0 (by decide) ?_
  refine lv_istore_n (lv' := [(1, .int 0), (0, .ref (o 63))]) hx hb dX2_match_1 rfl hl (by decide) rfl (fun ls hl => ?_)
  refine lv_iconst (v := 0) hx hb dX2_match_2 (by decide) ?_
  refine lv_istore_n (lv' := [(2, .int 0), (1, .int 0), (0, .ref (o 63))]) hx hb dX2_match_3 rfl hl (by decide) rfl (fun ls hl => ?_)
  refine itr_inv3 (P := fun (x1_1 : Int32) (x2_1 : Int32) (s_1 : Sto) => ∀ (H : Heap) (locs : List Loc) (ls : Array Slot), CZ D A s H locs (WX y o s_1) → lv_has ls 3 [(0, .ref (o 63)), (1, .int x1_1), (2, .int x2_1)] → W p l e R s m args below meth c H locs 0 0 Q (F0 m 4 ls [])) hf ?_ _ _ _ hC (lv_sub hl [2, 1, 0] rfl)
  intro a_4 x1_1 x2_1 s_1 ha_4 hf H locs ls hC hl
  refine lv_iload_n hx hb dX2_match_4 rfl (lv_at hl 2 rfl) ?_
  refine lv_aload_n hx hb dX2_match_5 rfl (lv_at hl 0 rfl) ?_
  refine gt_X2_48_lines hx hb hta hown hK hC dX2_match_6 ?_
  refine lv_icmp_ge (tgt := 174) hx hb dX2_match_9 (by decide) (fun c_2 => ?_) (fun c_2 => ?_)
  · have hf := it_t c_2 hf
    exact hret _ _ _ _ _ (congrArg (WX y o) (Option.some.inj hf)) dX2_match_174 hC
  · have hf := it_f c_2 hf
    refine lv_aload_n hx hb dX2_match_12 rfl (lv_at hl 0 rfl) ?_
    refine gt_X2_9_lines hx hb hta hown hK hC dX2_match_13 ?_
    refine lv_iload_n hx hb dX2_match_16 rfl (lv_at hl 2 rfl) ?_
    obtain ⟨hi_3, hf⟩ := ix_inv hf
    obtain ⟨v_3, e_3, hf⟩ := lt_inv hf
    refine al_X_64 hx hb hK hC hi_3 e_3 dX2_match_17 ?_
    obtain ⟨k_163, hk_163, hf⟩ := jn_inv2 hf
    have hj_163 : ∀ (x1_4 : Int32) (s_4 : Sto) (H : Heap) (locs : List Loc) (ls : Array Slot), k_163 x1_4 s_4 = some σ2 → CZ D A s H locs (WX y o s_4) → lv_has ls 3 [(0, .ref (o 63)), (1, .int x1_4), (2, .int x2_1)] → W p l e R s m args below meth c H locs 0 0 Q (F0 m 163 ls []) := by
      intro x1_4 s_4 H locs ls hf hC hl
      have hf := hk_163 _ _ hf
      refine lv_aload_n hx hb dX2_match_163 rfl (lv_at hl 0 rfl) ?_
      refine lv_iload_n hx hb dX2_match_164 rfl (lv_at hl 2 rfl) ?_
      obtain ⟨s_5, hc_5, hf⟩ := cals_inv hf
      refine cc_Vv (r_X2_mark (D := D) (y := y) (o := o) (ad := ad) (av := av) hc_5 l) hx hb hml hta hown hK hN hV hA hC hRc hRs (by omega) (by omega) wq_284 (q := 63) (ci := 2) rfl rfl wq_285 wq_286 wq_242 wq_282 hd_X2_mark (As := [.int x2_1]) (rest := []) rfl rfl hl.1 rfl dX2_match_165 (fun H locs hC => ?_)
      obtain ⟨x2_6, e_6, hf⟩ := lt_inv hf
      refine lv_iinc (v := x2_6) (lv' := [(2, .int x2_6), (0, .ref (o 63)), (1, .int x1_4)]) hx hb dX2_match_168 hl (k := 2) rfl e_6.symm (by decide) rfl (fun ls hl => ?_)
      refine lv_goto (tgt := 4) hx hb dX2_match_171 (by decide) ?_
      exact ha_4 _ _ _ hf _ _ _ hC (lv_sub hl [1, 2, 0] rfl)
    by_cases h_7_0 : v_3.toInt = 1 ∨ v_3.toInt = 2 ∨ v_3.toInt = 3 ∨ v_3.toInt = 9
    · have hf := it_t h_7_0 hf
      refine lv_tab (tgt := 72) hx hb dX2_match_18 (Or.inr ⟨54, by omega, by omega, by rcases h_7_0 with h_7_0 | h_7_0 | h_7_0 | h_7_0 <;> (rw [h_7_0]; decide), by decide⟩) ?_
      refine lv_iload_n hx hb dX2_match_72 rfl (lv_at hl 1 rfl) ?_
      refine lv_aload_n hx hb dX2_match_73 rfl (lv_at hl 0 rfl) ?_
      refine gt_X2_33_lines hx hb hta hown hK hC dX2_match_74 ?_
      refine an_X_71 hx hb hK hC dX2_match_77 ?_
      refine lv_icmp_ge (tgt := 163) hx hb dX2_match_78 (by decide) (fun c_8 => ?_) (fun c_8 => ?_)
      · have hf := it_t c_8 hf
        exact hj_163 _ _ _ _ _ hf hC hl
      · have hf := it_f c_8 hf
        refine lv_aload_n hx hb dX2_match_81 rfl (lv_at hl 0 rfl) ?_
        refine gt_X2_33_lines hx hb hta hown hK hC dX2_match_82 ?_
        refine lv_iload_n hx hb dX2_match_85 rfl (lv_at hl 1 rfl) ?_
        refine lv_iload_n hx hb dX2_match_86 rfl (lv_at hl 2 rfl) ?_
        obtain ⟨hi_9, hf⟩ := ix_inv hf
        obtain ⟨s_9, e_9, hf⟩ := lt_inv hf
        refine as_X_71 hx hb hK hC hi_9 e_9 dX2_match_87 (fun H locs hC => ?_)
        obtain ⟨x1_10, e_10, hf⟩ := lt_inv hf
        refine lv_iinc (v := x1_10) (lv' := [(1, .int x1_10), (0, .ref (o 63)), (2, .int x2_1)]) hx hb dX2_match_88 hl (k := 1) rfl e_10.symm (by decide) rfl (fun ls hl => ?_)
        refine lv_goto (tgt := 163) hx hb dX2_match_91 (by decide) ?_
        exact hj_163 _ _ _ _ _ hf hC (lv_sub hl [1, 0, 2] rfl)
    have hf := it_f h_7_0 hf
    by_cases h_7_1 : v_3.toInt = 4
    · have hf := it_t h_7_1 hf
      refine lv_tab (tgt := 94) hx hb dX2_match_18 (Or.inr ⟨76, by omega, by omega, by (rw [h_7_1]; decide), by decide⟩) ?_
      refine lv_iload_n hx hb dX2_match_94 rfl (lv_at hl 1 rfl) ?_
      refine lv_if_le (tgt := 163) hx hb dX2_match_95 (by decide) (fun c_11 => ?_) (fun c_11 => ?_)
      · have hf := it_t c_11 hf
        exact hj_163 _ _ _ _ _ hf hC hl
      · have hf := it_f c_11 hf
        refine lv_aload_n hx hb dX2_match_98 rfl (lv_at hl 0 rfl) ?_
        refine gt_X2_21_lines hx hb hta hown hK hC dX2_match_99 ?_
        refine lv_aload_n hx hb dX2_match_102 rfl (lv_at hl 0 rfl) ?_
        refine gt_X2_33_lines hx hb hta hown hK hC dX2_match_103 ?_
        refine lv_iload_n hx hb dX2_match_106 rfl (lv_at hl 1 rfl) ?_
        refine lv_iconst (v := 1) hx hb dX2_match_107 (by decide) ?_
        refine lv_isub hx hb dX2_match_108 ?_
        obtain ⟨hi_12, hf⟩ := ix_inv hf
        obtain ⟨v_12, e_12, hf⟩ := lt_inv hf
        refine al_X_71 hx hb hK hC hi_12 e_12 dX2_match_109 ?_
        refine lv_iload_n hx hb dX2_match_110 rfl (lv_at hl 2 rfl) ?_
        obtain ⟨hi_13, hf⟩ := ix_inv hf
        obtain ⟨s_13, e_13, hf⟩ := lt_inv hf
        refine as_X_67 hx hb hK hC hi_13 e_13 dX2_match_111 (fun H locs hC => ?_)
        refine lv_aload_n hx hb dX2_match_112 rfl (lv_at hl 0 rfl) ?_
        refine gt_X2_33_lines hx hb hta hown hK hC dX2_match_113 ?_
        refine lv_iload_n hx hb dX2_match_116 rfl (lv_at hl 1 rfl) ?_
        refine lv_iconst (v := 1) hx hb dX2_match_117 (by decide) ?_
        refine lv_isub hx hb dX2_match_118 ?_
        refine lv_iload_n hx hb dX2_match_119 rfl (lv_at hl 2 rfl) ?_
        obtain ⟨hi_14, hf⟩ := ix_inv hf
        obtain ⟨s_14, e_14, hf⟩ := lt_inv hf
        refine as_X_71 hx hb hK hC hi_14 e_14 dX2_match_120 (fun H locs hC => ?_)
        refine lv_goto (tgt := 163) hx hb dX2_match_121 (by decide) ?_
        exact hj_163 _ _ _ _ _ hf hC hl
    have hf := it_f h_7_1 hf
    by_cases h_7_2 : v_3.toInt = 5 ∨ v_3.toInt = 10
    · have hf := it_t h_7_2 hf
      refine lv_tab (tgt := 124) hx hb dX2_match_18 (Or.inr ⟨106, by omega, by omega, by rcases h_7_2 with h_7_2 | h_7_2 <;> (rw [h_7_2]; decide), by decide⟩) ?_
      refine lv_iload_n hx hb dX2_match_124 rfl (lv_at hl 1 rfl) ?_
      refine lv_if_le (tgt := 163) hx hb dX2_match_125 (by decide) (fun c_15 => ?_) (fun c_15 => ?_)
      · have hf := it_t c_15 hf
        exact hj_163 _ _ _ _ _ hf hC hl
      · have hf := it_f c_15 hf
        obtain ⟨x1_16, e_16, hf⟩ := lt_inv hf
        refine lv_iinc (v := x1_16) (lv' := [(1, .int x1_16), (0, .ref (o 63)), (2, .int x2_1)]) hx hb dX2_match_128 hl (k := 1) rfl e_16.symm (by decide) rfl (fun ls hl => ?_)
        refine lv_aload_n hx hb dX2_match_131 rfl (lv_at hl 1 rfl) ?_
        refine gt_X2_21_lines hx hb hta hown hK hC dX2_match_132 ?_
        refine lv_aload_n hx hb dX2_match_135 rfl (lv_at hl 1 rfl) ?_
        refine gt_X2_33_lines hx hb hta hown hK hC dX2_match_136 ?_
        refine lv_iload_n hx hb dX2_match_139 rfl (lv_at hl 0 rfl) ?_
        obtain ⟨hi_17, hf⟩ := ix_inv hf
        obtain ⟨v_17, e_17, hf⟩ := lt_inv hf
        refine al_X_71 hx hb hK hC hi_17 e_17 dX2_match_140 ?_
        refine lv_iload_n hx hb dX2_match_141 rfl (lv_at hl 2 rfl) ?_
        obtain ⟨hi_18, hf⟩ := ix_inv hf
        obtain ⟨s_18, e_18, hf⟩ := lt_inv hf
        refine as_X_67 hx hb hK hC hi_18 e_18 dX2_match_142 (fun H locs hC => ?_)
        refine lv_aload_n hx hb dX2_match_143 rfl (lv_at hl 1 rfl) ?_
        refine gt_X2_21_lines hx hb hta hown hK hC dX2_match_144 ?_
        refine lv_iload_n hx hb dX2_match_147 rfl (lv_at hl 2 rfl) ?_
        refine lv_aload_n hx hb dX2_match_148 rfl (lv_at hl 1 rfl) ?_
        refine gt_X2_9_lines hx hb hta hown hK hC dX2_match_149 ?_
        refine lv_aload_n hx hb dX2_match_152 rfl (lv_at hl 1 rfl) ?_
        refine gt_X2_33_lines hx hb hta hown hK hC dX2_match_153 ?_
        refine lv_iload_n hx hb dX2_match_156 rfl (lv_at hl 0 rfl) ?_
        obtain ⟨hi_19, hf⟩ := ix_inv hf
        obtain ⟨v_19, e_19, hf⟩ := lt_inv hf
        refine al_X_71 hx hb hK hC hi_19 e_19 dX2_match_157 ?_
        obtain ⟨hi_20, hf⟩ := ix_inv hf
        obtain ⟨v_20, e_20, hf⟩ := lt_inv hf
        refine al_X_64 hx hb hK hC hi_20 e_20 dX2_match_158 ?_
        obtain ⟨hi_21, hf⟩ := ix_inv hf
        obtain ⟨s_21, e_21, hf⟩ := lt_inv hf
        refine as_X_67 hx hb hK hC hi_21 e_21 dX2_match_159 (fun H locs hC => ?_)
        refine lv_goto (tgt := 163) hx hb dX2_match_160 (by decide) ?_
        exact hj_163 _ _ _ _ _ hf hC (lv_sub hl [1, 0, 2] rfl)
    have hf := it_f h_7_2 hf
    refine lv_tab (tgt := 163) hx hb dX2_match_18 (by rcases (show (v_3.toInt < 1 ∨ 10 < v_3.toInt ∨ v_3.toInt = 6 ∨ v_3.toInt = 7 ∨ v_3.toInt = 8) by omega) with h | h | h | h | h; exact Or.inl ⟨Or.inl h, by decide⟩; exact Or.inl ⟨Or.inr h, by decide⟩; all_goals exact Or.inr ⟨145, by omega, by omega, by rw [h]; decide, by decide⟩) ?_
    exact hj_163 _ _ _ _ _ hf hC hl

set_option maxHeartbeats 8000000 in
set_option maxRecDepth 100000 in
theorem r_X2_endsAnyway {D : va_G} {y : Nat → ClassId} {o : Nat → Nat} {ad av : Nat → Nat} {x1 : Int32} {σ : Sto} {v : Int32} (hf : f_X2_endsAnyway x1 σ = some v) (l : Launch) (sz : Nat) : Met l yX2_endsAnyway (Cond.code yX2_endsAnyway cX2_endsAnyway 4 (some .boolean) :: ALW) { frames := 0, cells := 0, slots := 0, locals := 0 } (va_Pc [.ref (o 63), .int x1] (PZ D y ad av (WX y o σ) sz)) (QZi D (WX y o σ) v (WX y o σ) sz) 0 0 (va_A (WX y o σ) sz) := by
  refine met_i (by decide) (Nat.le_of_ble_eq_true rfl) ?_
  intro p e R s m args below meth c Q A ls hx hb hml hta hown hRc hRs hRf hRl hN hK hV hA hret hC hl
  have hl : lv_has ls 4 [(0, .ref (o 63)), (1, .int x1)] := hl
  unfold f_X2_endsAnyway at hf
  refine lv_iload_n hx hb dX2_endsAnyway_0 rfl (lv_at hl 1 rfl) ?_
  refine lv_iconst (v := 1) hx hb dX2_endsAnyway_1 (by decide) ?_
  refine lv_iadd hx hb dX2_endsAnyway_2 ?_
  obtain ⟨x2_1, e_1, hf⟩ := lt_inv hf
  refine nmi e_1 ?_
  refine lv_istore_n (lv' := [(2, .int x2_1), (0, .ref (o 63)), (1, .int x1)]) hx hb dX2_endsAnyway_3 rfl hl (by decide) rfl (fun ls hl => ?_)
  refine lv_iconst (v := 0) hx hb dX2_endsAnyway_4 (by decide) ?_
  refine lv_istore_n (lv' := [(3, .int 0), (2, .int x2_1), (0, .ref (o 63)), (1, .int x1)]) hx hb dX2_endsAnyway_5 rfl hl (by decide) rfl (fun ls hl => ?_)
  refine itr_inv2 (P := fun (x2_2 : Int32) (x3_2 : Int32) => ∀ (H : Heap) (locs : List Loc) (ls : Array Slot), CZ D A s H locs (WX y o σ) → lv_has ls 4 [(0, .ref (o 63)), (1, .int x1), (2, .int x2_2), (3, .int x3_2)] → W p l e R s m args below meth c H locs 0 0 Q (F0 m 6 ls [])) hf ?_ _ _ _ hC (lv_sub hl [2, 3, 1, 0] rfl)
  intro a_6 x2_2 x3_2 ha_6 hf H locs ls hC hl
  refine lv_iload_n hx hb dX2_endsAnyway_6 rfl (lv_at hl 3 rfl) ?_
  refine lv_aload_n hx hb dX2_endsAnyway_7 rfl (lv_at hl 0 rfl) ?_
  refine gt_X2_48_lines hx hb hta hown hK hC dX2_endsAnyway_8 ?_
  refine lv_icmp_ge (tgt := 92) hx hb dX2_endsAnyway_11 (by decide) (fun c_3 => ?_) (fun c_3 => ?_)
  · have hf := it_t c_3 hf
    refine lv_iconst (v := 0) hx hb dX2_endsAnyway_92 (by decide) ?_
    exact hret _ _ _ _ _ _ (Option.some.inj hf) rfl rfl dX2_endsAnyway_93 hC
  · have hf := it_f c_3 hf
    refine lv_iload_n hx hb dX2_endsAnyway_14 rfl (lv_at hl 2 rfl) ?_
    refine lv_aload_n hx hb dX2_endsAnyway_15 rfl (lv_at hl 0 rfl) ?_
    refine gt_X2_48_lines hx hb hta hown hK hC dX2_endsAnyway_16 ?_
    refine lv_icmp_ge (tgt := 92) hx hb dX2_endsAnyway_19 (by decide) (fun c_4 => ?_) (fun c_4 => ?_)
    · have hf := it_t c_4 hf
      refine lv_iconst (v := 0) hx hb dX2_endsAnyway_92 (by decide) ?_
      exact hret _ _ _ _ _ _ (Option.some.inj hf) rfl rfl dX2_endsAnyway_93 hC
    · have hf := it_f c_4 hf
      refine lv_aload_n hx hb dX2_endsAnyway_22 rfl (lv_at hl 0 rfl) ?_
      refine gt_X2_9_lines hx hb hta hown hK hC dX2_endsAnyway_23 ?_
      refine lv_iload_n hx hb dX2_endsAnyway_26 rfl (lv_at hl 2 rfl) ?_
      obtain ⟨hi_5, hf⟩ := ix_inv hf
      obtain ⟨v_5, e_5, hf⟩ := lt_inv hf
      refine al_X_64 hx hb hK hC hi_5 e_5 dX2_endsAnyway_27 ?_
      refine lv_iconst (v := 4) hx hb dX2_endsAnyway_28 (by decide) ?_
      obtain ⟨k_86, hk_86, hf⟩ := jn_inv1 hf
      have hj_86 : ∀ (x2_6 : Int32) (H : Heap) (locs : List Loc) (ls : Array Slot), k_86 x2_6 = some v → CZ D A s H locs (WX y o σ) → lv_has ls 4 [(0, .ref (o 63)), (1, .int x1), (2, .int x2_6), (3, .int x3_2)] → W p l e R s m args below meth c H locs 0 0 Q (F0 m 86 ls []) := by
        intro x2_6 H locs ls hf hC hl
        have hf := hk_86 _ hf
        obtain ⟨x3_7, e_7, hf⟩ := lt_inv hf
        refine lv_iinc (v := x3_7) (lv' := [(3, .int x3_7), (0, .ref (o 63)), (1, .int x1), (2, .int x2_6)]) hx hb dX2_endsAnyway_86 hl (k := 3) rfl e_7.symm (by decide) rfl (fun ls hl => ?_)
        refine lv_goto (tgt := 6) hx hb dX2_endsAnyway_89 (by decide) ?_
        exact ha_6 _ _ hf _ _ _ hC (lv_sub hl [1, 2, 3, 0] rfl)
      refine lv_icmp_ne (tgt := 44) hx hb dX2_endsAnyway_29 (by decide) (fun c_8 => ?_) (fun c_8 => ?_)
      · have hf := it_f c_8 hf
        refine lv_aload_n hx hb dX2_endsAnyway_44 rfl (lv_at hl 0 rfl) ?_
        refine gt_X2_9_lines hx hb hta hown hK hC dX2_endsAnyway_45 ?_
        refine lv_iload_n hx hb dX2_endsAnyway_48 rfl (lv_at hl 2 rfl) ?_
        obtain ⟨hi_11, hf⟩ := ix_inv hf
        obtain ⟨v_11, e_11, hf⟩ := lt_inv hf
        refine al_X_64 hx hb hK hC hi_11 e_11 dX2_endsAnyway_49 ?_
        refine lv_iconst (v := 5) hx hb dX2_endsAnyway_50 (by decide) ?_
        refine lv_icmp_eq (tgt := 56) hx hb dX2_endsAnyway_51 (by decide) (fun c_12 => ?_) (fun c_12 => ?_)
        · have hf := it_t c_12 hf
          refine lv_aload_n hx hb dX2_endsAnyway_56 rfl (lv_at hl 0 rfl) ?_
          refine gt_X2_21_lines hx hb hta hown hK hC dX2_endsAnyway_57 ?_
          refine lv_iload_n hx hb dX2_endsAnyway_60 rfl (lv_at hl 2 rfl) ?_
          obtain ⟨hi_13, hf⟩ := ix_inv hf
          obtain ⟨v_13, e_13, hf⟩ := lt_inv hf
          refine al_X_67 hx hb hK hC hi_13 e_13 dX2_endsAnyway_61 ?_
          refine lv_iconst (v := 2) hx hb dX2_endsAnyway_62 (by decide) ?_
          obtain ⟨k_83, hk_83, hf⟩ := jn_inv0 hf
          have hj_83 : ∀  (H : Heap) (locs : List Loc) (ls : Array Slot), k_83 = some v → CZ D A s H locs (WX y o σ) → lv_has ls 4 [(0, .ref (o 63)), (1, .int x1), (2, .int x2_2), (3, .int x3_2)] → W p l e R s m args below meth c H locs 0 0 Q (F0 m 83 ls []) := by
            intro H locs ls hf hC hl
            have hf := hk_83 hf
            obtain ⟨x2_15, e_15, hf⟩ := lt_inv hf
            refine lv_iinc (v := x2_15) (lv' := [(2, .int x2_15), (0, .ref (o 63)), (1, .int x1), (3, .int x3_2)]) hx hb dX2_endsAnyway_83 hl (k := 2) rfl e_15.symm (by decide) rfl (fun ls hl => ?_)
            exact hj_86 _ _ _ _ hf hC (lv_sub hl [1, 2, 0, 3] rfl)
          refine lv_icmp_ne (tgt := 83) hx hb dX2_endsAnyway_63 (by decide) (fun c_16 => ?_) (fun c_16 => ?_)
          · have hf := it_f c_16 hf
            exact hj_83 _ _ _ hf hC hl
          · have hf := it_t c_16 hf
            refine lv_aload_n hx hb dX2_endsAnyway_66 rfl (lv_at hl 0 rfl) ?_
            refine gt_X2_15_lines hx hb hta hown hK hC dX2_endsAnyway_67 ?_
            refine lv_iload_n hx hb dX2_endsAnyway_70 rfl (lv_at hl 2 rfl) ?_
            obtain ⟨hi_17, hf⟩ := ix_inv hf
            obtain ⟨v_17, e_17, hf⟩ := lt_inv hf
            refine al_X_65 hx hb hK hC hi_17 e_17 dX2_endsAnyway_71 ?_
            refine lv_aload_n hx hb dX2_endsAnyway_72 rfl (lv_at hl 0 rfl) ?_
            refine gt_X2_15_lines hx hb hta hown hK hC dX2_endsAnyway_73 ?_
            refine lv_iload_n hx hb dX2_endsAnyway_76 rfl (lv_at hl 1 rfl) ?_
            obtain ⟨hi_18, hf⟩ := ix_inv hf
            obtain ⟨v_18, e_18, hf⟩ := lt_inv hf
            refine al_X_65 hx hb hK hC hi_18 e_18 dX2_endsAnyway_77 ?_
            refine lv_icmp_ne (tgt := 83) hx hb dX2_endsAnyway_78 (by decide) (fun c_19 => ?_) (fun c_19 => ?_)
            · have hf := it_f c_19 hf
              exact hj_83 _ _ _ hf hC hl
            · have hf := it_t c_19 hf
              refine lv_iconst (v := 1) hx hb dX2_endsAnyway_81 (by decide) ?_
              exact hret _ _ _ _ _ _ (Option.some.inj hf) rfl rfl dX2_endsAnyway_82 hC
        · have hf := it_f c_12 hf
          refine lv_iconst (v := 0) hx hb dX2_endsAnyway_54 (by decide) ?_
          exact hret _ _ _ _ _ _ (Option.some.inj hf) rfl rfl dX2_endsAnyway_55 hC
      · have hf := it_t c_8 hf
        refine lv_aload_n hx hb dX2_endsAnyway_32 rfl (lv_at hl 0 rfl) ?_
        refine gt_X2_21_lines hx hb hta hown hK hC dX2_endsAnyway_33 ?_
        refine lv_iload_n hx hb dX2_endsAnyway_36 rfl (lv_at hl 2 rfl) ?_
        obtain ⟨hi_9, hf⟩ := ix_inv hf
        obtain ⟨v_9, e_9, hf⟩ := lt_inv hf
        refine al_X_67 hx hb hK hC hi_9 e_9 dX2_endsAnyway_37 ?_
        refine lv_iconst (v := 1) hx hb dX2_endsAnyway_38 (by decide) ?_
        refine lv_iadd hx hb dX2_endsAnyway_39 ?_
        obtain ⟨x2_10, e_10, hf⟩ := lt_inv hf
        refine nmi e_10 ?_
        refine lv_istore_n (lv' := [(2, .int x2_10), (0, .ref (o 63)), (1, .int x1), (3, .int x3_2)]) hx hb dX2_endsAnyway_40 rfl hl (by decide) rfl (fun ls hl => ?_)
        refine lv_goto (tgt := 86) hx hb dX2_endsAnyway_41 (by decide) ?_
        exact hj_86 _ _ _ _ hf hC (lv_sub hl [1, 2, 0, 3] rfl)

set_option maxHeartbeats 8000000 in
set_option maxRecDepth 100000 in
theorem r_X2_leaveOut {D : va_G} {y : Nat → ClassId} {o : Nat → Nat} {ad av : Nat → Nat} {σ : Sto} {σ2 : Sto} (hf : f_X2_leaveOut σ = some σ2) (l : Launch) (sz : Nat) : Met l yX2_leaveOut (Cond.code yX2_leaveOut cX2_leaveOut 2 none :: ALW) { frames := 1, cells := 0, slots := 0, locals := 23 } (va_Pc [.ref (o 63)] (PZ D y ad av (WX y o σ) sz)) (QZv D (WX y o σ) (WX y o σ2) sz) 0 0 (va_A (WX y o σ) sz) := by
  refine met_v (by decide) (Nat.le_of_ble_eq_true rfl) ?_
  intro p e R s m args below meth c Q A ls hx hb hml hta hown hRc hRs hRf hRl hN hK hV hA hret hC hl
  have hl : lv_has ls 2 [(0, .ref (o 63))] := hl
  unfold f_X2_leaveOut at hf
  refine lv_iconst (v := 0) hx hb dX2_leaveOut_0 (by decide) ?_
  refine lv_istore_n (lv' := [(1, .int 0), (0, .ref (o 63))]) hx hb dX2_leaveOut_1 rfl hl (by decide) rfl (fun ls hl => ?_)
  refine itr_inv2 (P := fun (x1_1 : Int32) (s_1 : Sto) => ∀ (H : Heap) (locs : List Loc) (ls : Array Slot), CZ D A s H locs (WX y o s_1) → lv_has ls 2 [(0, .ref (o 63)), (1, .int x1_1)] → W p l e R s m args below meth c H locs 0 0 Q (F0 m 2 ls [])) hf ?_ _ _ _ hC (lv_sub hl [1, 0] rfl)
  intro a_2 x1_1 s_1 ha_2 hf H locs ls hC hl
  refine lv_iload_n hx hb dX2_leaveOut_2 rfl (lv_at hl 1 rfl) ?_
  refine lv_aload_n hx hb dX2_leaveOut_3 rfl (lv_at hl 0 rfl) ?_
  refine gt_X2_48_lines hx hb hta hown hK hC dX2_leaveOut_4 ?_
  refine lv_icmp_ge (tgt := 43) hx hb dX2_leaveOut_7 (by decide) (fun c_2 => ?_) (fun c_2 => ?_)
  · have hf := it_t c_2 hf
    refine lv_iconst (v := 0) hx hb dX2_leaveOut_43 (by decide) ?_
    refine lv_istore_n (lv' := [(1, .int 0), (0, .ref (o 63))]) hx hb dX2_leaveOut_44 rfl hl (by decide) rfl (fun ls hl => ?_)
    refine itr_inv2 (P := fun (x1_3 : Int32) (s_3 : Sto) => ∀ (H : Heap) (locs : List Loc) (ls : Array Slot), CZ D A s H locs (WX y o s_3) → lv_has ls 2 [(0, .ref (o 63)), (1, .int x1_3)] → W p l e R s m args below meth c H locs 0 0 Q (F0 m 45 ls [])) hf ?_ _ _ _ hC (lv_sub hl [1, 0] rfl)
    intro a_45 x1_3 s_3 ha_45 hf H locs ls hC hl
    refine lv_iload_n hx hb dX2_leaveOut_45 rfl (lv_at hl 1 rfl) ?_
    refine lv_iconst (v := 1) hx hb dX2_leaveOut_46 (by decide) ?_
    refine lv_iadd hx hb dX2_leaveOut_47 ?_
    refine lv_aload_n hx hb dX2_leaveOut_48 rfl (lv_at hl 0 rfl) ?_
    refine gt_X2_48_lines hx hb hta hown hK hC dX2_leaveOut_49 ?_
    refine lv_icmp_ge (tgt := 104) hx hb dX2_leaveOut_52 (by decide) (fun c_4 => ?_) (fun c_4 => ?_)
    · have hf := it_t c_4 hf
      exact hret _ _ _ _ _ (congrArg (WX y o) (Option.some.inj hf)) dX2_leaveOut_104 hC
    · have hf := it_f c_4 hf
      refine lv_aload_n hx hb dX2_leaveOut_55 rfl (lv_at hl 0 rfl) ?_
      refine gt_X2_9_lines hx hb hta hown hK hC dX2_leaveOut_56 ?_
      refine lv_iload_n hx hb dX2_leaveOut_59 rfl (lv_at hl 1 rfl) ?_
      obtain ⟨hi_5, hf⟩ := ix_inv hf
      obtain ⟨v_5, e_5, hf⟩ := lt_inv hf
      refine al_X_64 hx hb hK hC hi_5 e_5 dX2_leaveOut_60 ?_
      refine lv_iconst (v := 4) hx hb dX2_leaveOut_61 (by decide) ?_
      obtain ⟨k_98, hk_98, hf⟩ := jn_inv1 hf
      have hj_98 : ∀ (s_6 : Sto) (H : Heap) (locs : List Loc) (ls : Array Slot), k_98 s_6 = some σ2 → CZ D A s H locs (WX y o s_6) → lv_has ls 2 [(0, .ref (o 63)), (1, .int x1_3)] → W p l e R s m args below meth c H locs 0 0 Q (F0 m 98 ls []) := by
        intro s_6 H locs ls hf hC hl
        have hf := hk_98 _ hf
        obtain ⟨x1_7, e_7, hf⟩ := lt_inv hf
        refine lv_iinc (v := x1_7) (lv' := [(1, .int x1_7), (0, .ref (o 63))]) hx hb dX2_leaveOut_98 hl (k := 1) rfl e_7.symm (by decide) rfl (fun ls hl => ?_)
        refine lv_goto (tgt := 45) hx hb dX2_leaveOut_101 (by decide) ?_
        exact ha_45 _ _ hf _ _ _ hC (lv_sub hl [1, 0] rfl)
      refine lv_icmp_ne (tgt := 98) hx hb dX2_leaveOut_62 (by decide) (fun c_8 => ?_) (fun c_8 => ?_)
      · have hf := it_f c_8 hf
        exact hj_98 _ _ _ _ hf hC hl
      · have hf := it_t c_8 hf
        refine lv_aload_n hx hb dX2_leaveOut_65 rfl (lv_at hl 0 rfl) ?_
        refine gt_X2_9_lines hx hb hta hown hK hC dX2_leaveOut_66 ?_
        refine lv_iload_n hx hb dX2_leaveOut_69 rfl (lv_at hl 1 rfl) ?_
        refine lv_iconst (v := 1) hx hb dX2_leaveOut_70 (by decide) ?_
        refine lv_iadd hx hb dX2_leaveOut_71 ?_
        obtain ⟨hi_9, hf⟩ := ix_inv hf
        obtain ⟨v_9, e_9, hf⟩ := lt_inv hf
        refine al_X_64 hx hb hK hC hi_9 e_9 dX2_leaveOut_72 ?_
        refine lv_bipush (v := 12) hx hb dX2_leaveOut_73 (by decide) ?_
        refine lv_icmp_ne (tgt := 98) hx hb dX2_leaveOut_75 (by decide) (fun c_10 => ?_) (fun c_10 => ?_)
        · have hf := it_f c_10 hf
          exact hj_98 _ _ _ _ hf hC hl
        · have hf := it_t c_10 hf
          refine lv_aload_n hx hb dX2_leaveOut_78 rfl (lv_at hl 0 rfl) ?_
          refine gt_X2_21_lines hx hb hta hown hK hC dX2_leaveOut_79 ?_
          refine lv_iload_n hx hb dX2_leaveOut_82 rfl (lv_at hl 1 rfl) ?_
          obtain ⟨hi_11, hf⟩ := ix_inv hf
          obtain ⟨v_11, e_11, hf⟩ := lt_inv hf
          refine al_X_67 hx hb hK hC hi_11 e_11 dX2_leaveOut_83 ?_
          refine lv_iload_n hx hb dX2_leaveOut_84 rfl (lv_at hl 1 rfl) ?_
          refine lv_iconst (v := 2) hx hb dX2_leaveOut_85 (by decide) ?_
          refine lv_iadd hx hb dX2_leaveOut_86 ?_
          refine lv_icmp_ne (tgt := 98) hx hb dX2_leaveOut_87 (by decide) (fun c_12 => ?_) (fun c_12 => ?_)
          · have hf := it_f c_12 hf
            exact hj_98 _ _ _ _ hf hC hl
          · have hf := it_t c_12 hf
            refine lv_aload_n hx hb dX2_leaveOut_90 rfl (lv_at hl 0 rfl) ?_
            refine gt_X2_9_lines hx hb hta hown hK hC dX2_leaveOut_91 ?_
            refine lv_iload_n hx hb dX2_leaveOut_94 rfl (lv_at hl 1 rfl) ?_
            refine lv_bipush (v := 12) hx hb dX2_leaveOut_95 (by decide) ?_
            obtain ⟨hi_13, hf⟩ := ix_inv hf
            obtain ⟨s_13, e_13, hf⟩ := lt_inv hf
            refine as_X_64 hx hb hK hC hi_13 e_13 dX2_leaveOut_97 (fun H locs hC => ?_)
            exact hj_98 _ _ _ _ hf hC hl
  · have hf := it_f c_2 hf
    refine lv_aload_n hx hb dX2_leaveOut_10 rfl (lv_at hl 0 rfl) ?_
    refine gt_X2_9_lines hx hb hta hown hK hC dX2_leaveOut_11 ?_
    refine lv_iload_n hx hb dX2_leaveOut_14 rfl (lv_at hl 1 rfl) ?_
    obtain ⟨hi_14, hf⟩ := ix_inv hf
    obtain ⟨v_14, e_14, hf⟩ := lt_inv hf
    refine al_X_64 hx hb hK hC hi_14 e_14 dX2_leaveOut_15 ?_
    refine lv_bipush (v := 6) hx hb dX2_leaveOut_16 (by decide) ?_
    obtain ⟨k_37, hk_37, hf⟩ := jn_inv1 hf
    have hj_37 : ∀ (s_15 : Sto) (H : Heap) (locs : List Loc) (ls : Array Slot), k_37 s_15 = some σ2 → CZ D A s H locs (WX y o s_15) → lv_has ls 2 [(0, .ref (o 63)), (1, .int x1_1)] → W p l e R s m args below meth c H locs 0 0 Q (F0 m 37 ls []) := by
      intro s_15 H locs ls hf hC hl
      have hf := hk_37 _ hf
      obtain ⟨x1_16, e_16, hf⟩ := lt_inv hf
      refine lv_iinc (v := x1_16) (lv' := [(1, .int x1_16), (0, .ref (o 63))]) hx hb dX2_leaveOut_37 hl (k := 1) rfl e_16.symm (by decide) rfl (fun ls hl => ?_)
      refine lv_goto (tgt := 2) hx hb dX2_leaveOut_40 (by decide) ?_
      exact ha_2 _ _ hf _ _ _ hC (lv_sub hl [1, 0] rfl)
    refine lv_icmp_ne (tgt := 37) hx hb dX2_leaveOut_18 (by decide) (fun c_17 => ?_) (fun c_17 => ?_)
    · have hf := it_f c_17 hf
      exact hj_37 _ _ _ _ hf hC hl
    · have hf := it_t c_17 hf
      refine lv_aload_n hx hb dX2_leaveOut_21 rfl (lv_at hl 0 rfl) ?_
      refine lv_iload_n hx hb dX2_leaveOut_22 rfl (lv_at hl 1 rfl) ?_
      obtain ⟨v_18, hc_18, hf⟩ := calp_inv hf
      refine cc_Vi (r_X2_endsAnyway (D := D) (y := y) (o := o) (ad := ad) (av := av) hc_18 l) hx hb hml hta hown hK hN hV hA hC hRc hRs (by omega) (by omega) wq_289 (q := 63) (ci := 2) rfl rfl wq_290 wq_291 wq_242 wq_287 hd_X2_endsAnyway (As := [.int x1_1]) (rest := []) rfl rfl hl.1 rfl dX2_leaveOut_23 (fun H locs hC => ?_)
      refine lv_if_eq (tgt := 37) hx hb dX2_leaveOut_26 (by decide) (fun c_19 => ?_) (fun c_19 => ?_)
      · have hf := it_t c_19 hf
        exact hj_37 _ _ _ _ hf hC hl
      · have hf := it_f c_19 hf
        refine lv_aload_n hx hb dX2_leaveOut_29 rfl (lv_at hl 0 rfl) ?_
        refine gt_X2_9_lines hx hb hta hown hK hC dX2_leaveOut_30 ?_
        refine lv_iload_n hx hb dX2_leaveOut_33 rfl (lv_at hl 1 rfl) ?_
        refine lv_bipush (v := 12) hx hb dX2_leaveOut_34 (by decide) ?_
        obtain ⟨hi_20, hf⟩ := ix_inv hf
        obtain ⟨s_20, e_20, hf⟩ := lt_inv hf
        refine as_X_64 hx hb hK hC hi_20 e_20 dX2_leaveOut_36 (fun H locs hC => ?_)
        exact hj_37 _ _ _ _ hf hC hl

set_option maxHeartbeats 8000000 in
set_option maxRecDepth 100000 in
theorem r_X2_close {D : va_G} {y : Nat → ClassId} {o : Nat → Nat} {ad av : Nat → Nat} {σ : Sto} {σ2 : Sto} (hf : f_X2_close σ = some σ2) (l : Launch) (sz : Nat) : Met l yX2_close (Cond.code yX2_close cX2_close 3 none :: ALW) { frames := 0, cells := 0, slots := 0, locals := 0 } (va_Pc [.ref (o 63)] (PZ D y ad av (WX y o σ) sz)) (QZv D (WX y o σ) (WX y o σ2) sz) 0 0 (va_A (WX y o σ) sz) := by
  refine met_v (by decide) (Nat.le_of_ble_eq_true rfl) ?_
  intro p e R s m args below meth c Q A ls hx hb hml hta hown hRc hRs hRf hRl hN hK hV hA hret hC hl
  have hl : lv_has ls 3 [(0, .ref (o 63))] := hl
  unfold f_X2_close at hf
  refine lv_iconst (v := 0) hx hb dX2_close_0 (by decide) ?_
  refine lv_istore_n (lv' := [(1, .int 0), (0, .ref (o 63))]) hx hb dX2_close_1 rfl hl (by decide) rfl (fun ls hl => ?_)
  refine lv_iconst (v := 0) hx hb dX2_close_2 (by decide) ?_
  refine lv_istore_n (lv' := [(2, .int 0), (1, .int 0), (0, .ref (o 63))]) hx hb dX2_close_3 rfl hl (by decide) rfl (fun ls hl => ?_)
  refine itr_inv3 (P := fun (x1_1 : Int32) (x2_1 : Int32) (s_1 : Sto) => ∀ (H : Heap) (locs : List Loc) (ls : Array Slot), CZ D A s H locs (WX y o s_1) → lv_has ls 3 [(0, .ref (o 63)), (1, .int x1_1), (2, .int x2_1)] → W p l e R s m args below meth c H locs 0 0 Q (F0 m 4 ls [])) hf ?_ _ _ _ hC (lv_sub hl [2, 1, 0] rfl)
  intro a_4 x1_1 x2_1 s_1 ha_4 hf H locs ls hC hl
  refine lv_iload_n hx hb dX2_close_4 rfl (lv_at hl 2 rfl) ?_
  refine lv_aload_n hx hb dX2_close_5 rfl (lv_at hl 0 rfl) ?_
  refine gt_X2_48_lines hx hb hta hown hK hC dX2_close_6 ?_
  refine lv_icmp_ge (tgt := 80) hx hb dX2_close_9 (by decide) (fun c_2 => ?_) (fun c_2 => ?_)
  · have hf := it_t c_2 hf
    refine lv_aload_n hx hb dX2_close_80 rfl (lv_at hl 0 rfl) ?_
    refine lv_iload_n hx hb dX2_close_81 rfl (lv_at hl 1 rfl) ?_
    obtain ⟨s_3, e_3, hf⟩ := lt_inv hf
    refine pt_X2_48_lines hx hb hta hown hK hC e_3 dX2_close_82 (fun H locs hC => ?_)
    exact hret _ _ _ _ _ (congrArg (WX y o) (Option.some.inj hf)) dX2_close_85 hC
  · have hf := it_f c_2 hf
    refine lv_aload_n hx hb dX2_close_12 rfl (lv_at hl 0 rfl) ?_
    refine gt_X2_9_lines hx hb hta hown hK hC dX2_close_13 ?_
    refine lv_iload_n hx hb dX2_close_16 rfl (lv_at hl 2 rfl) ?_
    obtain ⟨hi_4, hf⟩ := ix_inv hf
    obtain ⟨v_4, e_4, hf⟩ := lt_inv hf
    refine al_X_64 hx hb hK hC hi_4 e_4 dX2_close_17 ?_
    refine lv_bipush (v := 12) hx hb dX2_close_18 (by decide) ?_
    obtain ⟨k_74, hk_74, hf⟩ := jn_inv2 hf
    have hj_74 : ∀ (x1_5 : Int32) (s_5 : Sto) (H : Heap) (locs : List Loc) (ls : Array Slot), k_74 x1_5 s_5 = some σ2 → CZ D A s H locs (WX y o s_5) → lv_has ls 3 [(0, .ref (o 63)), (1, .int x1_5), (2, .int x2_1)] → W p l e R s m args below meth c H locs 0 0 Q (F0 m 74 ls []) := by
      intro x1_5 s_5 H locs ls hf hC hl
      have hf := hk_74 _ _ hf
      obtain ⟨x2_6, e_6, hf⟩ := lt_inv hf
      refine lv_iinc (v := x2_6) (lv' := [(2, .int x2_6), (0, .ref (o 63)), (1, .int x1_5)]) hx hb dX2_close_74 hl (k := 2) rfl e_6.symm (by decide) rfl (fun ls hl => ?_)
      refine lv_goto (tgt := 4) hx hb dX2_close_77 (by decide) ?_
      exact ha_4 _ _ _ hf _ _ _ hC (lv_sub hl [1, 2, 0] rfl)
    refine lv_icmp_eq (tgt := 74) hx hb dX2_close_20 (by decide) (fun c_7 => ?_) (fun c_7 => ?_)
    · have hf := it_t c_7 hf
      exact hj_74 _ _ _ _ _ hf hC hl
    · have hf := it_f c_7 hf
      refine lv_aload_n hx hb dX2_close_23 rfl (lv_at hl 0 rfl) ?_
      refine gt_X2_9_lines hx hb hta hown hK hC dX2_close_24 ?_
      refine lv_iload_n hx hb dX2_close_27 rfl (lv_at hl 1 rfl) ?_
      refine lv_aload_n hx hb dX2_close_28 rfl (lv_at hl 0 rfl) ?_
      refine gt_X2_9_lines hx hb hta hown hK hC dX2_close_29 ?_
      refine lv_iload_n hx hb dX2_close_32 rfl (lv_at hl 2 rfl) ?_
      obtain ⟨hi_8, hf⟩ := ix_inv hf
      obtain ⟨v_8, e_8, hf⟩ := lt_inv hf
      refine al_X_64 hx hb hK hC hi_8 e_8 dX2_close_33 ?_
      obtain ⟨hi_9, hf⟩ := ix_inv hf
      obtain ⟨s_9, e_9, hf⟩ := lt_inv hf
      refine as_X_64 hx hb hK hC hi_9 e_9 dX2_close_34 (fun H locs hC => ?_)
      refine lv_aload_n hx hb dX2_close_35 rfl (lv_at hl 0 rfl) ?_
      refine gt_X2_15_lines hx hb hta hown hK hC dX2_close_36 ?_
      refine lv_iload_n hx hb dX2_close_39 rfl (lv_at hl 1 rfl) ?_
      refine lv_aload_n hx hb dX2_close_40 rfl (lv_at hl 0 rfl) ?_
      refine gt_X2_15_lines hx hb hta hown hK hC dX2_close_41 ?_
      refine lv_iload_n hx hb dX2_close_44 rfl (lv_at hl 2 rfl) ?_
      obtain ⟨hi_10, hf⟩ := ix_inv hf
      obtain ⟨v_10, e_10, hf⟩ := lt_inv hf
      refine al_X_65 hx hb hK hC hi_10 e_10 dX2_close_45 ?_
      obtain ⟨hi_11, hf⟩ := ix_inv hf
      obtain ⟨s_11, e_11, hf⟩ := lt_inv hf
      refine as_X_65 hx hb hK hC hi_11 e_11 dX2_close_46 (fun H locs hC => ?_)
      refine lv_aload_n hx hb dX2_close_47 rfl (lv_at hl 0 rfl) ?_
      refine gt_X2_18_lines hx hb hta hown hK hC dX2_close_48 ?_
      refine lv_iload_n hx hb dX2_close_51 rfl (lv_at hl 1 rfl) ?_
      refine lv_aload_n hx hb dX2_close_52 rfl (lv_at hl 0 rfl) ?_
      refine gt_X2_18_lines hx hb hta hown hK hC dX2_close_53 ?_
      refine lv_iload_n hx hb dX2_close_56 rfl (lv_at hl 2 rfl) ?_
      obtain ⟨hi_12, hf⟩ := ix_inv hf
      obtain ⟨v_12, e_12, hf⟩ := lt_inv hf
      refine al_X_66 hx hb hK hC hi_12 e_12 dX2_close_57 ?_
      obtain ⟨hi_13, hf⟩ := ix_inv hf
      obtain ⟨s_13, e_13, hf⟩ := lt_inv hf
      refine as_X_66 hx hb hK hC hi_13 e_13 dX2_close_58 (fun H locs hC => ?_)
      refine lv_aload_n hx hb dX2_close_59 rfl (lv_at hl 0 rfl) ?_
      refine gt_X2_21_lines hx hb hta hown hK hC dX2_close_60 ?_
      refine lv_iload_n hx hb dX2_close_63 rfl (lv_at hl 1 rfl) ?_
      refine lv_aload_n hx hb dX2_close_64 rfl (lv_at hl 0 rfl) ?_
      refine gt_X2_21_lines hx hb hta hown hK hC dX2_close_65 ?_
      refine lv_iload_n hx hb dX2_close_68 rfl (lv_at hl 2 rfl) ?_
      obtain ⟨hi_14, hf⟩ := ix_inv hf
      obtain ⟨v_14, e_14, hf⟩ := lt_inv hf
      refine al_X_67 hx hb hK hC hi_14 e_14 dX2_close_69 ?_
      obtain ⟨hi_15, hf⟩ := ix_inv hf
      obtain ⟨s_15, e_15, hf⟩ := lt_inv hf
      refine as_X_67 hx hb hK hC hi_15 e_15 dX2_close_70 (fun H locs hC => ?_)
      obtain ⟨x1_16, e_16, hf⟩ := lt_inv hf
      refine lv_iinc (v := x1_16) (lv' := [(1, .int x1_16), (0, .ref (o 63)), (2, .int x2_1)]) hx hb dX2_close_71 hl (k := 1) rfl e_16.symm (by decide) rfl (fun ls hl => ?_)
      exact hj_74 _ _ _ _ _ hf hC (lv_sub hl [1, 0, 2] rfl)

set_option maxHeartbeats 8000000 in
set_option maxRecDepth 100000 in
theorem r_X2_tellAll {D : va_G} {y : Nat → ClassId} {o : Nat → Nat} {ad av : Nat → Nat} {σ : Sto} {σ2 : Sto} (hf : f_X2_tellAll σ = some σ2) (l : Launch) (sz : Nat) : Met l yX2_tellAll (Cond.code yX2_tellAll cX2_tellAll 1 none :: ALW) { frames := 254, cells := 0, slots := 0, locals := 6092 } (va_Pc [.ref (o 63)] (PZ D y ad av (WX y o σ) sz)) (QZv D (WX y o σ) (WX y o σ2) sz) 0 0 (va_A (WX y o σ) sz) := by
  refine met_v (by decide) (Nat.le_of_ble_eq_true rfl) ?_
  intro p e R s m args below meth c Q A ls hx hb hml hta hown hRc hRs hRf hRl hN hK hV hA hret hC hl
  have hl : lv_has ls 1 [(0, .ref (o 63))] := hl
  unfold f_X2_tellAll at hf
  refine lv_aload_n hx hb dX2_tellAll_0 rfl (lv_at hl 0 rfl) ?_
  refine lv_iconst (v := 0) hx hb dX2_tellAll_1 (by decide) ?_
  obtain ⟨s_1, e_1, hf⟩ := lt_inv hf
  refine pt_X2_48_lines hx hb hta hown hK hC e_1 dX2_tellAll_2 (fun H locs hC => ?_)
  refine lv_aload_n hx hb dX2_tellAll_5 rfl (lv_at hl 0 rfl) ?_
  refine lv_iconst (v := 0) hx hb dX2_tellAll_6 (by decide) ?_
  obtain ⟨s_2, e_2, hf⟩ := lt_inv hf
  refine pt_X2_52_lines hx hb hta hown hK hC e_2 dX2_tellAll_7 (fun H locs hC => ?_)
  refine lv_aload_n hx hb dX2_tellAll_10 rfl (lv_at hl 0 rfl) ?_
  refine lv_iconst (v := 0) hx hb dX2_tellAll_11 (by decide) ?_
  refine lv_iconst (v := 0) hx hb dX2_tellAll_12 (by decide) ?_
  obtain ⟨s_3, hc_3, hf⟩ := cals_inv hf
  refine cc_Vv (r_X2_tell 250 (D := D) (y := y) (o := o) (ad := ad) (av := av) hc_3 l) hx hb hml hta hown hK hN hV hA hC hRc hRs (by omega) (by omega) wq_256 (q := 63) (ci := 2) rfl rfl wq_257 wq_258 wq_242 wq_259 hd_X2_tell (As := [.int 0, .int 0]) (rest := []) rfl rfl hl.1 rfl dX2_tellAll_13 (fun H locs hC => ?_)
  refine lv_aload_n hx hb dX2_tellAll_16 rfl (lv_at hl 0 rfl) ?_
  obtain ⟨s_4, hc_4, hf⟩ := cals_inv hf
  refine cc_Vv (r_X2_match (D := D) (y := y) (o := o) (ad := ad) (av := av) hc_4 l) hx hb hml hta hown hK hN hV hA hC hRc hRs (by omega) (by omega) wq_293 (q := 63) (ci := 2) rfl rfl wq_294 wq_295 wq_242 wq_283 hd_X2_match (As := []) (rest := []) rfl rfl hl.1 rfl dX2_tellAll_17 (fun H locs hC => ?_)
  refine lv_aload_n hx hb dX2_tellAll_20 rfl (lv_at hl 0 rfl) ?_
  obtain ⟨s_5, hc_5, hf⟩ := cals_inv hf
  refine cc_Vv (r_X2_leaveOut (D := D) (y := y) (o := o) (ad := ad) (av := av) hc_5 l) hx hb hml hta hown hK hN hV hA hC hRc hRs (by omega) (by omega) wq_296 (q := 63) (ci := 2) rfl rfl wq_297 wq_298 wq_242 wq_288 hd_X2_leaveOut (As := []) (rest := []) rfl rfl hl.1 rfl dX2_tellAll_21 (fun H locs hC => ?_)
  refine lv_aload_n hx hb dX2_tellAll_24 rfl (lv_at hl 0 rfl) ?_
  obtain ⟨s_6, hc_6, hf⟩ := cals_inv hf
  refine cc_Vv (r_X2_close (D := D) (y := y) (o := o) (ad := ad) (av := av) hc_6 l) hx hb hml hta hown hK hN hV hA hC hRc hRs (by omega) (by omega) wq_299 (q := 63) (ci := 2) rfl rfl wq_300 wq_301 wq_242 wq_292 hd_X2_close (As := []) (rest := []) rfl rfl hl.1 rfl dX2_tellAll_25 (fun H locs hC => ?_)
  refine lv_aload_n hx hb dX2_tellAll_28 rfl (lv_at hl 0 rfl) ?_
  obtain ⟨s_7, hc_7, hf⟩ := cals_inv hf
  refine cc_Vv (r_X2_match (D := D) (y := y) (o := o) (ad := ad) (av := av) hc_7 l) hx hb hml hta hown hK hN hV hA hC hRc hRs (by omega) (by omega) wq_293 (q := 63) (ci := 2) rfl rfl wq_294 wq_295 wq_242 wq_283 hd_X2_match (As := []) (rest := []) rfl rfl hl.1 rfl dX2_tellAll_29 (fun H locs hC => ?_)
  exact hret _ _ _ _ _ (congrArg (WX y o) (Option.some.inj hf)) dX2_tellAll_32 hC

set_option maxHeartbeats 8000000 in
set_option maxRecDepth 100000 in
theorem r_X11_adoptDraft {D : va_G} {y : Nat → ClassId} {o : Nat → Nat} {ad av : Nat → Nat} {σ : Sto} {σ2 : Sto} (hf : f_X11_adoptDraft σ = some σ2) (l : Launch) (sz : Nat) : Met l yX11_adoptDraft (Cond.code yX11_adoptDraft cX11_adoptDraft 1 none :: ALW) { frames := 255, cells := 0, slots := 0, locals := 6619 } (va_Pc [.ref (o 0)] (PZ D y ad av (WX y o σ) sz)) (QZv D (WX y o σ) (WX y o σ2) sz) 0 0 (va_A (WX y o σ) sz) := by
  refine met_v (by decide) (Nat.le_of_ble_eq_true rfl) ?_
  intro p e R s m args below meth c Q A ls hx hb hml hta hown hRc hRs hRf hRl hN hK hV hA hret hC hl
  have hl : lv_has ls 1 [(0, .ref (o 0))] := hl
  unfold f_X11_adoptDraft at hf
  refine lv_aload_n hx hb dX11_adoptDraft_0 rfl (lv_at hl 0 rfl) ?_
  refine gt_X11_19_cl hx hb hta hown hK hC dX11_adoptDraft_1 ?_
  refine lv_aload_n hx hb dX11_adoptDraft_4 rfl (lv_at hl 0 rfl) ?_
  refine gt_X11_23_cl hx hb hta hown hK hC dX11_adoptDraft_5 ?_
  obtain ⟨s_1, hc_1, hf⟩ := cals_inv hf
  refine cc_Vv (r_X3_copy_draft (D := D) (y := y) (o := o) (ad := ad) (av := av) hc_1 l) hx hb hml hta hown hK hN hV hA hC hRc hRs (by omega) (by omega) wq_782 (q := 3) (ci := 3) rfl rfl wq_783 wq_784 wq_27 wq_308 hd_X3_copy (As := [.ref (o 10)]) (rest := []) rfl rfl hl.1 rfl dX11_adoptDraft_8 (fun H locs hC => ?_)
  refine lv_aload_n hx hb dX11_adoptDraft_11 rfl (lv_at hl 0 rfl) ?_
  refine gt_X11_31_cl hx hb hta hown hK hC dX11_adoptDraft_12 ?_
  obtain ⟨s_2, hc_2, hf⟩ := cals_inv hf
  refine cc_Vv (r_X0_cut (D := D) (y := y) (o := o) (ad := ad) (av := av) hc_2 l) hx hb hml hta hown hK hN hV hA hC hRc hRs (by omega) (by omega) wq_785 (q := 17) (ci := 0) rfl rfl wq_786 wq_787 wq_42 wq_90 hd_X0_cut (As := []) (rest := []) rfl rfl hl.1 rfl dX11_adoptDraft_15 (fun H locs hC => ?_)
  refine lv_aload_n hx hb dX11_adoptDraft_18 rfl (lv_at hl 0 rfl) ?_
  refine gt_X11_40_cl hx hb hta hown hK hC dX11_adoptDraft_19 ?_
  obtain ⟨s_3, hc_3, hf⟩ := cals_inv hf
  refine cc_Vv (r_X8_form (D := D) (y := y) (o := o) (ad := ad) (av := av) hc_3 l) hx hb hml hta hown hK hN hV hA hC hRc hRs (by omega) (by omega) wq_788 (q := 30) (ci := 8) rfl rfl wq_789 wq_790 wq_603 wq_654 hd_X8_form (As := []) (rest := []) rfl rfl hl.1 rfl dX11_adoptDraft_22 (fun H locs hC => ?_)
  refine lv_aload_n hx hb dX11_adoptDraft_25 rfl (lv_at hl 0 rfl) ?_
  refine gt_X11_56_cl hx hb hta hown hK hC dX11_adoptDraft_26 ?_
  obtain ⟨s_4, hc_4, hf⟩ := cals_inv hf
  refine cc_Vv (r_X1_lift (D := D) (y := y) (o := o) (ad := ad) (av := av) hc_4 l) hx hb hml hta hown hK hN hV hA hC hRc hRs (by omega) (by omega) wq_791 (q := 48) (ci := 1) rfl rfl wq_792 wq_793 wq_120 wq_219 hd_X1_lift (As := []) (rest := []) rfl rfl hl.1 rfl dX11_adoptDraft_29 (fun H locs hC => ?_)
  refine lv_aload_n hx hb dX11_adoptDraft_32 rfl (lv_at hl 0 rfl) ?_
  refine gt_X11_65_cl hx hb hta hown hK hC dX11_adoptDraft_33 ?_
  obtain ⟨s_5, hc_5, hf⟩ := cals_inv hf
  refine cc_Vv (r_X10_judge (D := D) (y := y) (o := o) (ad := ad) (av := av) hc_5 l) hx hb hml hta hown hK hN hV hA hC hRc hRs (by omega) (by omega) wq_794 (q := 56) (ci := 10) rfl rfl wq_795 wq_796 wq_729 wq_739 hd_X10_judge (As := []) (rest := []) rfl rfl hl.1 rfl dX11_adoptDraft_36 (fun H locs hC => ?_)
  refine lv_aload_n hx hb dX11_adoptDraft_39 rfl (lv_at hl 0 rfl) ?_
  refine gt_X11_74_cl hx hb hta hown hK hC dX11_adoptDraft_40 ?_
  obtain ⟨s_6, hc_6, hf⟩ := cals_inv hf
  refine cc_Vv (r_X4_flow (D := D) (y := y) (o := o) (ad := ad) (av := av) hc_6 l) hx hb hml hta hown hK hN hV hA hC hRc hRs (by omega) (by omega) wq_797 (q := 60) (ci := 4) rfl rfl wq_798 wq_799 wq_357 wq_351 hd_X4_flow (As := []) (rest := []) rfl rfl hl.1 rfl dX11_adoptDraft_43 (fun H locs hC => ?_)
  refine lv_aload_n hx hb dX11_adoptDraft_46 rfl (lv_at hl 0 rfl) ?_
  refine gt_X11_83_cl hx hb hta hown hK hC dX11_adoptDraft_47 ?_
  refine lv_iconst (v := 0) hx hb dX11_adoptDraft_50 (by decide) ?_
  obtain ⟨s_7, e_7, hf⟩ := lt_inv hf
  refine pt_X11_182_lines hx hb hta hown hK hC e_7 dX11_adoptDraft_51 (fun H locs hC => ?_)
  refine lv_aload_n hx hb dX11_adoptDraft_54 rfl (lv_at hl 0 rfl) ?_
  refine gt_X11_40_cl hx hb hta hown hK hC dX11_adoptDraft_55 ?_
  refine gt_X11_173_shape hx hb hta hown hK hC dX11_adoptDraft_58 ?_
  obtain ⟨k_71, hk_71, hf⟩ := jn_inv1 hf
  have hj_71 : ∀ (s_8 : Sto) (H : Heap) (locs : List Loc) (ls : Array Slot), k_71 s_8 = some σ2 → CZ D A s H locs (WX y o s_8) → lv_has ls 1 [(0, .ref (o 0))] → W p l e R s m args below meth c H locs 0 0 Q (F0 m 71 ls []) := by
    intro s_8 H locs ls hf hC hl
    have hf := hk_71 _ hf
    refine lv_aload_n hx hb dX11_adoptDraft_71 rfl (lv_at hl 0 rfl) ?_
    refine lv_iconst (v := 1) hx hb dX11_adoptDraft_72 (by decide) ?_
    obtain ⟨s_9, e_9, hf⟩ := lt_inv hf
    refine pt_X11_105_cl hx hb hta hown hK hC (Or.inr rfl) e_9 dX11_adoptDraft_73 (fun H locs hC => ?_)
    exact hret _ _ _ _ _ (congrArg (WX y o) (Option.some.inj hf)) dX11_adoptDraft_76 hC
  refine lv_if_ne (tgt := 71) hx hb dX11_adoptDraft_61 (by decide) (fun c_10 => ?_) (fun c_10 => ?_)
  · have hf := it_f c_10 hf
    exact hj_71 _ _ _ _ hf hC hl
  · have hf := it_t c_10 hf
    refine lv_aload_n hx hb dX11_adoptDraft_64 rfl (lv_at hl 0 rfl) ?_
    refine gt_X11_83_cl hx hb hta hown hK hC dX11_adoptDraft_65 ?_
    obtain ⟨s_11, hc_11, hf⟩ := cals_inv hf
    refine cc_Vv (r_X2_tellAll (D := D) (y := y) (o := o) (ad := ad) (av := av) hc_11 l) hx hb hml hta hown hK hN hV hA hC hRc hRs (by omega) (by omega) wq_800 (q := 63) (ci := 2) rfl rfl wq_801 wq_802 wq_242 wq_302 hd_X2_tellAll (As := []) (rest := []) rfl rfl hl.1 rfl dX11_adoptDraft_68 (fun H locs hC => ?_)
    exact hj_71 _ _ _ _ hf hC hl

set_option maxHeartbeats 8000000 in
set_option maxRecDepth 100000 in
theorem r_X11_code {D : va_G} {y : Nat → ClassId} {o : Nat → Nat} {ad av : Nat → Nat} {σ : Sto} {σ2 : Sto} {v : Int32} (hf : f_X11_code σ = some (v, σ2)) (l : Launch) (sz : Nat) : Met l yX11_code (Cond.code yX11_code cX11_code 2 (some .int) :: ALW) { frames := 256, cells := 0, slots := 0, locals := 6639 } (va_Pc [.ref (o 0)] (PZ D y ad av (WX y o σ) sz)) (QZi D (WX y o σ) v (WX y o σ2) sz) 0 0 (va_A (WX y o σ) sz) := by
  refine met_i (by decide) (Nat.le_of_ble_eq_true rfl) ?_
  intro p e R s m args below meth c Q A ls hx hb hml hta hown hRc hRs hRf hRl hN hK hV hA hret hC hl
  have hl : lv_has ls 2 [(0, .ref (o 0))] := hl
  unfold f_X11_code at hf
  refine lv_aload_n hx hb dX11_code_0 rfl (lv_at hl 0 rfl) ?_
  refine gt_X11_10_cl hx hb hta hown hK hC dX11_code_1 ?_
  refine lv_aload_n hx hb dX11_code_4 rfl (lv_at hl 0 rfl) ?_
  refine gt_X11_23_cl hx hb hta hown hK hC dX11_code_5 ?_
  obtain ⟨v_1, s_1, hc_1, hf⟩ := calv_inv hf
  refine cc_Vi (r_X9_read_draft (D := D) (y := y) (o := o) (ad := ad) (av := av) hc_1 l) hx hb hml hta hown hK hN hV hA hC hRc hRs (by omega) (by omega) wq_776 (q := 1) (ci := 9) rfl rfl wq_777 wq_778 wq_671 wq_706 hd_X9_read (As := [.ref (o 10)]) (rest := []) rfl rfl hl.1 rfl dX11_code_8 (fun H locs hC => ?_)
  refine lv_if_ne (tgt := 16) hx hb dX11_code_11 (by decide) (fun c_2 => ?_) (fun c_2 => ?_)
  · have hf := it_f c_2 hf
    refine lv_aload_n hx hb dX11_code_16 rfl (lv_at hl 0 rfl) ?_
    refine gt_X11_23_cl hx hb hta hown hK hC dX11_code_17 ?_
    obtain ⟨v_3, s_3, hc_3, hf⟩ := calv_inv hf
    refine cc_Vi (r_X3_judge_draft (D := D) (y := y) (o := o) (ad := ad) (av := av) hc_3 l) hx hb hml hta hown hK hN hV hA hC hRc hRs (by omega) (by omega) wq_805 (q := 10) (ci := 3) rfl rfl wq_806 wq_807 wq_27 wq_335 hd_X3_judge (As := []) (rest := []) rfl rfl hl.1 rfl dX11_code_20 (fun H locs hC => ?_)
    refine lv_istore_n (lv' := [(1, .int v_3), (0, .ref (o 0))]) hx hb dX11_code_23 rfl hl (by decide) rfl (fun ls hl => ?_)
    refine lv_iload_n hx hb dX11_code_24 rfl (lv_at hl 0 rfl) ?_
    refine lv_if_eq (tgt := 30) hx hb dX11_code_25 (by decide) (fun c_4 => ?_) (fun c_4 => ?_)
    · have hf := it_t c_4 hf
      refine lv_aload_n hx hb dX11_code_30 rfl (lv_at hl 1 rfl) ?_
      refine gt_X11_10_cl hx hb hta hown hK hC dX11_code_31 ?_
      refine lv_iconst (v := 0) hx hb dX11_code_34 (by decide) ?_
      obtain ⟨s_5, e_5, hf⟩ := lt_inv hf
      refine pt_X11_113_tape hx hb hta hown hK hC e_5 dX11_code_35 (fun H locs hC => ?_)
      refine lv_aload_n hx hb dX11_code_38 rfl (lv_at hl 1 rfl) ?_
      obtain ⟨s_6, hc_6, hf⟩ := cals_inv hf
      refine cc_Vv (r_X11_adoptDraft (D := D) (y := y) (o := o) (ad := ad) (av := av) hc_6 l) hx hb hml hta hown hK hN hV hA hC hRc hRs (by omega) (by omega) wq_808 (q := 0) (ci := 11) rfl rfl wq_809 wq_810 wq_38 wq_803 hd_X11_adoptDraft (As := []) (rest := []) rfl rfl hl.1 rfl dX11_code_39 (fun H locs hC => ?_)
      refine lv_aload_n hx hb dX11_code_42 rfl (lv_at hl 1 rfl) ?_
      refine gt_X11_31_cl hx hb hta hown hK hC dX11_code_43 ?_
      refine gt_X11_135_blocks hx hb hta hown hK hC dX11_code_46 ?_
      exact hret _ _ _ _ _ _ (rv_inv hf).1 (congrArg (WX y o) (rv_inv hf).2) rfl dX11_code_49 hC
    · have hf := it_f c_4 hf
      refine lv_iload_n hx hb dX11_code_28 rfl (lv_at hl 0 rfl) ?_
      exact hret _ _ _ _ _ _ (rv_inv hf).1 (congrArg (WX y o) (rv_inv hf).2) rfl dX11_code_29 hC
  · have hf := it_t c_2 hf
    refine lv_iconst (v := (-1)) hx hb dX11_code_14 (by decide) ?_
    exact hret _ _ _ _ _ _ (rv_inv hf).1 (congrArg (WX y o) (rv_inv hf).2) rfl dX11_code_15 hC

set_option maxHeartbeats 8000000 in
set_option maxRecDepth 100000 in
theorem r_X11_isInstruction {D : va_G} {y : Nat → ClassId} {ad av : Nat → Nat} {w : va_W} {x1 : Int32} {x2 : Int32} {v : Int32} (hf : f_X11_isInstruction x1 x2 = some v) (l : Launch) (sz : Nat) : Met l yX11_isInstruction (Cond.code yX11_isInstruction cX11_isInstruction 2 (some .boolean) :: ALW) { frames := 2, cells := 0, slots := 0, locals := 40 } (va_Pc [.int x1, .int x2] (PZ D y ad av (w) sz)) (QZi D (w) v (w) sz) 0 0 (va_A (w) sz) := by
  refine met_i (by decide) (Nat.le_of_ble_eq_true rfl) ?_
  intro p e R s m args below meth c Q A ls hx hb hml hta hown hRc hRs hRf hRl hN hK hV hA hret hC hl
  have hl : lv_has ls 2 [(0, .int x1), (1, .int x2)] := hl
  unfold f_X11_isInstruction at hf
  refine lv_iload_n hx hb dX11_isInstruction_0 rfl (lv_at hl 0 rfl) ?_
  by_cases h_1_0 : x1.toInt = 103 ∨ x1.toInt = 122
  · have hf := it_t h_1_0 hf
    refine lv_lookup (off := 84) (tgt := 85) hx hb dX11_isInstruction_1 (by decide) (by rcases h_1_0 with h_1_0 | h_1_0 <;> (rw [h_1_0]; decide)) (by decide) ?_
    refine lv_iload_n hx hb dX11_isInstruction_85 rfl (lv_at hl 1 rfl) ?_
    obtain ⟨k_99, hk_99, hf⟩ := jn_inv0 hf
    have hj_99 : ∀  (H : Heap) (locs : List Loc) (ls : Array Slot), k_99 = some v → CZ D A s H locs w → lv_has ls 2 [] → W p l e R s m args below meth c H locs 0 0 Q (F0 m 99 ls []) := by
      intro H locs ls hf hC hl
      have hf := hk_99 hf
      refine lv_iconst (v := 0) hx hb dX11_isInstruction_99 (by decide) ?_
      exact hret _ _ _ _ _ _ (Option.some.inj hf) rfl rfl dX11_isInstruction_100 hC
    refine lv_if_lt (tgt := 99) hx hb dX11_isInstruction_86 (by decide) (fun c_3 => ?_) (fun c_3 => ?_)
    · have hf := it_t c_3 hf
      exact hj_99 _ _ _ hf hC (lv_sub hl [] rfl)
    · have hf := it_f c_3 hf
      refine lv_iload_n hx hb dX11_isInstruction_89 rfl (lv_at hl 1 rfl) ?_
      refine lv_bipush (v := 40) hx hb dX11_isInstruction_90 (by decide) ?_
      refine lv_icmp_ge (tgt := 99) hx hb dX11_isInstruction_92 (by decide) (fun c_4 => ?_) (fun c_4 => ?_)
      · have hf := it_t c_4 hf
        exact hj_99 _ _ _ hf hC (lv_sub hl [] rfl)
      · have hf := it_f c_4 hf
        refine lv_iconst (v := 1) hx hb dX11_isInstruction_95 (by decide) ?_
        refine lv_goto (tgt := 100) hx hb dX11_isInstruction_96 (by decide) ?_
        exact hret _ _ _ _ _ _ (Option.some.inj hf) rfl rfl dX11_isInstruction_100 hC
  have hf := it_f h_1_0 hf
  by_cases h_1_1 : x1.toInt = 107
  · have hf := it_t h_1_1 hf
    refine lv_lookup (off := 51) (tgt := 52) hx hb dX11_isInstruction_1 (by decide) (by (rw [h_1_1]; decide)) (by decide) ?_
    refine lv_iload_n hx hb dX11_isInstruction_52 rfl (lv_at hl 1 rfl) ?_
    obtain ⟨k_67, hk_67, hf⟩ := jn_inv0 hf
    have hj_67 : ∀  (H : Heap) (locs : List Loc) (ls : Array Slot), k_67 = some v → CZ D A s H locs w → lv_has ls 2 [] → W p l e R s m args below meth c H locs 0 0 Q (F0 m 67 ls []) := by
      intro H locs ls hf hC hl
      have hf := hk_67 hf
      refine lv_iconst (v := 0) hx hb dX11_isInstruction_67 (by decide) ?_
      exact hret _ _ _ _ _ _ (Option.some.inj hf) rfl rfl dX11_isInstruction_68 hC
    refine lv_if_lt (tgt := 67) hx hb dX11_isInstruction_53 (by decide) (fun c_6 => ?_) (fun c_6 => ?_)
    · have hf := it_t c_6 hf
      exact hj_67 _ _ _ hf hC (lv_sub hl [] rfl)
    · have hf := it_f c_6 hf
      refine lv_iload_n hx hb dX11_isInstruction_56 rfl (lv_at hl 1 rfl) ?_
      refine lv_sipush (v := 999) hx hb dX11_isInstruction_57 (by decide) ?_
      refine lv_icmp_gt (tgt := 67) hx hb dX11_isInstruction_60 (by decide) (fun c_7 => ?_) (fun c_7 => ?_)
      · have hf := it_t c_7 hf
        exact hj_67 _ _ _ hf hC (lv_sub hl [] rfl)
      · have hf := it_f c_7 hf
        refine lv_iconst (v := 1) hx hb dX11_isInstruction_63 (by decide) ?_
        refine lv_goto (tgt := 68) hx hb dX11_isInstruction_64 (by decide) ?_
        exact hret _ _ _ _ _ _ (Option.some.inj hf) rfl rfl dX11_isInstruction_68 hC
  have hf := it_f h_1_1 hf
  by_cases h_1_2 : x1.toInt = 108 ∨ x1.toInt = 115
  · have hf := it_t h_1_2 hf
    refine lv_lookup (off := 68) (tgt := 69) hx hb dX11_isInstruction_1 (by decide) (by rcases h_1_2 with h_1_2 | h_1_2 <;> (rw [h_1_2]; decide)) (by decide) ?_
    refine lv_iload_n hx hb dX11_isInstruction_69 rfl (lv_at hl 1 rfl) ?_
    obtain ⟨k_83, hk_83, hf⟩ := jn_inv0 hf
    have hj_83 : ∀  (H : Heap) (locs : List Loc) (ls : Array Slot), k_83 = some v → CZ D A s H locs w → lv_has ls 2 [] → W p l e R s m args below meth c H locs 0 0 Q (F0 m 83 ls []) := by
      intro H locs ls hf hC hl
      have hf := hk_83 hf
      refine lv_iconst (v := 0) hx hb dX11_isInstruction_83 (by decide) ?_
      exact hret _ _ _ _ _ _ (Option.some.inj hf) rfl rfl dX11_isInstruction_84 hC
    refine lv_if_lt (tgt := 83) hx hb dX11_isInstruction_70 (by decide) (fun c_9 => ?_) (fun c_9 => ?_)
    · have hf := it_t c_9 hf
      exact hj_83 _ _ _ hf hC (lv_sub hl [] rfl)
    · have hf := it_f c_9 hf
      refine lv_iload_n hx hb dX11_isInstruction_73 rfl (lv_at hl 1 rfl) ?_
      refine lv_bipush (v := 6) hx hb dX11_isInstruction_74 (by decide) ?_
      refine lv_icmp_ge (tgt := 83) hx hb dX11_isInstruction_76 (by decide) (fun c_10 => ?_) (fun c_10 => ?_)
      · have hf := it_t c_10 hf
        exact hj_83 _ _ _ hf hC (lv_sub hl [] rfl)
      · have hf := it_f c_10 hf
        refine lv_iconst (v := 1) hx hb dX11_isInstruction_79 (by decide) ?_
        refine lv_goto (tgt := 84) hx hb dX11_isInstruction_80 (by decide) ?_
        exact hret _ _ _ _ _ _ (Option.some.inj hf) rfl rfl dX11_isInstruction_84 hC
  have hf := it_f h_1_2 hf
  refine lv_lookup (off := 100) (tgt := 101) hx hb dX11_isInstruction_1 (by decide) (lk_none (by intro a ha; simp only [List.mem_cons, List.not_mem_nil, or_false] at ha; rcases ha with rfl | rfl | rfl | rfl | rfl <;> (simp only; omega))) (by decide) ?_
  refine lv_iload_n hx hb dX11_isInstruction_101 rfl (lv_at hl 0 rfl) ?_
  obtain ⟨v_11, hc_11, hf⟩ := calp_inv hf
  refine cc_Si (r_X11_isBare (D := D) (y := y) (w := w) (ad := ad) (av := av) hc_11 l) hx hb hml hta hown hK hN hV hA hC hRc hRs (by omega) (by omega) wq_813 wq_683 wq_38 wq_672 hd_X11_isBare (As := [.int x1]) (rest := []) rfl rfl hl.1 rfl dX11_isInstruction_102 (fun H locs hC => ?_)
  obtain ⟨k_116, hk_116, hf⟩ := jn_inv0 hf
  have hj_116 : ∀  (H : Heap) (locs : List Loc) (ls : Array Slot), k_116 = some v → CZ D A s H locs w → lv_has ls 2 [] → W p l e R s m args below meth c H locs 0 0 Q (F0 m 116 ls []) := by
    intro H locs ls hf hC hl
    have hf := hk_116 hf
    refine lv_iconst (v := 0) hx hb dX11_isInstruction_116 (by decide) ?_
    exact hret _ _ _ _ _ _ (Option.some.inj hf) rfl rfl dX11_isInstruction_117 hC
  refine lv_if_eq (tgt := 116) hx hb dX11_isInstruction_105 (by decide) (fun c_13 => ?_) (fun c_13 => ?_)
  · have hf := it_t c_13 hf
    exact hj_116 _ _ _ hf hC (lv_sub hl [] rfl)
  · have hf := it_f c_13 hf
    refine lv_iload_n hx hb dX11_isInstruction_108 rfl (lv_at hl 1 rfl) ?_
    refine lv_if_ne (tgt := 116) hx hb dX11_isInstruction_109 (by decide) (fun c_14 => ?_) (fun c_14 => ?_)
    · have hf := it_f c_14 hf
      exact hj_116 _ _ _ hf hC (lv_sub hl [] rfl)
    · have hf := it_t c_14 hf
      refine lv_iconst (v := 1) hx hb dX11_isInstruction_112 (by decide) ?_
      refine lv_goto (tgt := 117) hx hb dX11_isInstruction_113 (by decide) ?_
      exact hret _ _ _ _ _ _ (Option.some.inj hf) rfl rfl dX11_isInstruction_117 hC

set_option maxHeartbeats 8000000 in
set_option maxRecDepth 100000 in
theorem r_X3_copy_draft_listing {D : va_G} {y : Nat → ClassId} {o : Nat → Nat} {ad av : Nat → Nat} {σ : Sto} {σ2 : Sto} (hf : f_X3_copy_draft_listing σ = some σ2) (l : Launch) (sz : Nat) : Met l yX3_copy (Cond.code yX3_copy cX3_copy 2 none :: ALW) { frames := 1, cells := 0, slots := 0, locals := 60 } (va_Pc [.ref (o 10), .ref (o 3)] (PZ D y ad av (WX y o σ) sz)) (QZv D (WX y o σ) (WX y o σ2) sz) 0 0 (va_A (WX y o σ) sz) := by
  refine met_v (by decide) (Nat.le_of_ble_eq_true rfl) ?_
  intro p e R s m args below meth c Q A ls hx hb hml hta hown hRc hRs hRf hRl hN hK hV hA hret hC hl
  have hl : lv_has ls 2 [(0, .ref (o 10)), (1, .ref (o 3))] := hl
  unfold f_X3_copy_draft_listing at hf
  refine lv_aload_n hx hb dX3_copy_0 rfl (lv_at hl 0 rfl) ?_
  refine lv_aload_n hx hb dX3_copy_1 rfl (lv_at hl 1 rfl) ?_
  refine gt_X3_30_listing hx hb hta hown hK hC dX3_copy_2 ?_
  obtain ⟨s_1, e_1, hf⟩ := lt_inv hf
  refine pt_X3_30_draft hx hb hta hown hK hC e_1 dX3_copy_5 (fun H locs hC => ?_)
  refine lv_aload_n hx hb dX3_copy_8 rfl (lv_at hl 0 rfl) ?_
  refine lv_aload_n hx hb dX3_copy_9 rfl (lv_at hl 1 rfl) ?_
  refine gt_X3_34_listing hx hb hta hown hK hC dX3_copy_10 ?_
  obtain ⟨s_2, e_2, hf⟩ := lt_inv hf
  refine pt_X3_34_draft hx hb hta hown hK hC e_2 dX3_copy_13 (fun H locs hC => ?_)
  refine lv_aload_n hx hb dX3_copy_16 rfl (lv_at hl 1 rfl) ?_
  refine gt_X3_9_listing hx hb hta hown hK hC dX3_copy_17 ?_
  refine lv_iconst (v := 0) hx hb dX3_copy_20 (by decide) ?_
  refine lv_aload_n hx hb dX3_copy_21 rfl (lv_at hl 0 rfl) ?_
  refine gt_X3_9_draft hx hb hta hown hK hC dX3_copy_22 ?_
  refine lv_iconst (v := 0) hx hb dX3_copy_25 (by decide) ?_
  refine lv_bipush (v := 40) hx hb dX3_copy_26 (by decide) ?_
  obtain ⟨s_3, e_3, hf⟩ := lt_inv hf
  refine cp_X_4_11_37 hx hb (hml.trans hl.1.symm) hta hown hK hC (by omega) (by omega) rfl e_3 dX3_copy_28 (fun H locs hC => ?_)
  refine lv_aload_n hx hb dX3_copy_31 rfl (lv_at hl 1 rfl) ?_
  refine gt_X3_15_listing hx hb hta hown hK hC dX3_copy_32 ?_
  refine lv_iconst (v := 0) hx hb dX3_copy_35 (by decide) ?_
  refine lv_aload_n hx hb dX3_copy_36 rfl (lv_at hl 0 rfl) ?_
  refine gt_X3_15_draft hx hb hta hown hK hC dX3_copy_37 ?_
  refine lv_iconst (v := 0) hx hb dX3_copy_40 (by decide) ?_
  refine lv_bipush (v := 40) hx hb dX3_copy_41 (by decide) ?_
  obtain ⟨s_4, e_4, hf⟩ := lt_inv hf
  refine cp_X_5_12_37 hx hb (hml.trans hl.1.symm) hta hown hK hC (by omega) (by omega) rfl e_4 dX3_copy_43 (fun H locs hC => ?_)
  refine lv_aload_n hx hb dX3_copy_46 rfl (lv_at hl 1 rfl) ?_
  refine gt_X3_18_listing hx hb hta hown hK hC dX3_copy_47 ?_
  refine lv_iconst (v := 0) hx hb dX3_copy_50 (by decide) ?_
  refine lv_aload_n hx hb dX3_copy_51 rfl (lv_at hl 0 rfl) ?_
  refine gt_X3_18_draft hx hb hta hown hK hC dX3_copy_52 ?_
  refine lv_iconst (v := 0) hx hb dX3_copy_55 (by decide) ?_
  refine lv_bipush (v := 40) hx hb dX3_copy_56 (by decide) ?_
  obtain ⟨s_5, e_5, hf⟩ := lt_inv hf
  refine cp_X_6_13_37 hx hb (hml.trans hl.1.symm) hta hown hK hC (by omega) (by omega) rfl e_5 dX3_copy_58 (fun H locs hC => ?_)
  refine lv_aload_n hx hb dX3_copy_61 rfl (lv_at hl 1 rfl) ?_
  refine gt_X3_21_listing hx hb hta hown hK hC dX3_copy_62 ?_
  refine lv_iconst (v := 0) hx hb dX3_copy_65 (by decide) ?_
  refine lv_aload_n hx hb dX3_copy_66 rfl (lv_at hl 0 rfl) ?_
  refine gt_X3_21_draft hx hb hta hown hK hC dX3_copy_67 ?_
  refine lv_iconst (v := 0) hx hb dX3_copy_70 (by decide) ?_
  refine lv_iconst (v := 3) hx hb dX3_copy_71 (by decide) ?_
  obtain ⟨s_6, e_6, hf⟩ := lt_inv hf
  refine cp_X_7_14_37 hx hb (hml.trans hl.1.symm) hta hown hK hC (by omega) (by omega) rfl e_6 dX3_copy_72 (fun H locs hC => ?_)
  refine lv_aload_n hx hb dX3_copy_75 rfl (lv_at hl 1 rfl) ?_
  refine gt_X3_24_listing hx hb hta hown hK hC dX3_copy_76 ?_
  refine lv_iconst (v := 0) hx hb dX3_copy_79 (by decide) ?_
  refine lv_aload_n hx hb dX3_copy_80 rfl (lv_at hl 0 rfl) ?_
  refine gt_X3_24_draft hx hb hta hown hK hC dX3_copy_81 ?_
  refine lv_iconst (v := 0) hx hb dX3_copy_84 (by decide) ?_
  refine lv_iconst (v := 3) hx hb dX3_copy_85 (by decide) ?_
  obtain ⟨s_7, e_7, hf⟩ := lt_inv hf
  refine cp_X_8_15_37 hx hb (hml.trans hl.1.symm) hta hown hK hC (by omega) (by omega) rfl e_7 dX3_copy_86 (fun H locs hC => ?_)
  refine lv_aload_n hx hb dX3_copy_89 rfl (lv_at hl 1 rfl) ?_
  refine gt_X3_27_listing hx hb hta hown hK hC dX3_copy_90 ?_
  refine lv_iconst (v := 0) hx hb dX3_copy_93 (by decide) ?_
  refine lv_aload_n hx hb dX3_copy_94 rfl (lv_at hl 0 rfl) ?_
  refine gt_X3_27_draft hx hb hta hown hK hC dX3_copy_95 ?_
  refine lv_iconst (v := 0) hx hb dX3_copy_98 (by decide) ?_
  refine lv_iconst (v := 3) hx hb dX3_copy_99 (by decide) ?_
  obtain ⟨s_8, e_8, hf⟩ := lt_inv hf
  refine cp_X_9_16_37 hx hb (hml.trans hl.1.symm) hta hown hK hC (by omega) (by omega) rfl e_8 dX3_copy_100 (fun H locs hC => ?_)
  exact hret _ _ _ _ _ (congrArg (WX y o) (Option.some.inj hf)) dX3_copy_103 hC

set_option maxHeartbeats 8000000 in
set_option maxRecDepth 100000 in
theorem r_X11_put {D : va_G} {y : Nat → ClassId} {o : Nat → Nat} {ad av : Nat → Nat} {x1 : Int32} {x2 : Int32} {x3 : Int32} {σ : Sto} {σ2 : Sto} {v : Int32} (hf : f_X11_put x1 x2 x3 σ = some (v, σ2)) (l : Launch) (sz : Nat) : Met l yX11_put (Cond.code yX11_put cX11_put 5 (some .int) :: ALW) { frames := 256, cells := 0, slots := 0, locals := 6639 } (va_Pc [.ref (o 0), .int x1, .int x2, .int x3] (PZ D y ad av (WX y o σ) sz)) (QZi D (WX y o σ) v (WX y o σ2) sz) 0 0 (va_A (WX y o σ) sz) := by
  refine met_i (by decide) (Nat.le_of_ble_eq_true rfl) ?_
  intro p e R s m args below meth c Q A ls hx hb hml hta hown hRc hRs hRf hRl hN hK hV hA hret hC hl
  have hl : lv_has ls 5 [(0, .ref (o 0)), (1, .int x1), (2, .int x2), (3, .int x3)] := hl
  unfold f_X11_put at hf
  refine lv_aload_n hx hb dX11_put_0 rfl (lv_at hl 0 rfl) ?_
  refine gt_X11_105_cl hx hb hta hown hK hC dX11_put_1 ?_
  refine lv_if_eq (tgt := 30) hx hb dX11_put_4 (by decide) (fun c_1 => ?_) (fun c_1 => ?_)
  · have hf := it_t c_1 hf
    refine lv_iconst (v := (-1)) hx hb dX11_put_30 (by decide) ?_
    exact hret _ _ _ _ _ _ (rv_inv hf).1 (congrArg (WX y o) (rv_inv hf).2) rfl dX11_put_31 hC
  · have hf := it_f c_1 hf
    refine lv_iload_n hx hb dX11_put_7 rfl (lv_at hl 1 rfl) ?_
    refine lv_if_lt (tgt := 30) hx hb dX11_put_8 (by decide) (fun c_2 => ?_) (fun c_2 => ?_)
    · have hf := it_t c_2 hf
      refine lv_iconst (v := (-1)) hx hb dX11_put_30 (by decide) ?_
      exact hret _ _ _ _ _ _ (rv_inv hf).1 (congrArg (WX y o) (rv_inv hf).2) rfl dX11_put_31 hC
    · have hf := it_f c_2 hf
      refine lv_iload_n hx hb dX11_put_11 rfl (lv_at hl 1 rfl) ?_
      refine lv_aload_n hx hb dX11_put_12 rfl (lv_at hl 0 rfl) ?_
      refine gt_X11_19_cl hx hb hta hown hK hC dX11_put_13 ?_
      refine gt_X11_138_listing hx hb hta hown hK hC dX11_put_16 ?_
      refine lv_icmp_ge (tgt := 30) hx hb dX11_put_19 (by decide) (fun c_3 => ?_) (fun c_3 => ?_)
      · have hf := it_t c_3 hf
        refine lv_iconst (v := (-1)) hx hb dX11_put_30 (by decide) ?_
        exact hret _ _ _ _ _ _ (rv_inv hf).1 (congrArg (WX y o) (rv_inv hf).2) rfl dX11_put_31 hC
      · have hf := it_f c_3 hf
        refine lv_iload_n hx hb dX11_put_22 rfl (lv_at hl 2 rfl) ?_
        refine lv_iload_n hx hb dX11_put_23 rfl (lv_at hl 3 rfl) ?_
        obtain ⟨v_4, hc_4, hf⟩ := calp_inv hf
        refine cc_Si (r_X11_isInstruction (D := D) (y := y) (w := WX y o σ) (ad := ad) (av := av) hc_4 l) hx hb hml hta hown hK hN hV hA hC hRc hRs (by omega) (by omega) wq_817 wq_818 wq_38 wq_812 hd_X11_isInstruction (As := [.int x2, .int x3]) (rest := []) rfl rfl hl.1 rfl dX11_put_24 (fun H locs hC => ?_)
        refine lv_if_ne (tgt := 32) hx hb dX11_put_27 (by decide) (fun c_5 => ?_) (fun c_5 => ?_)
        · have hf := it_f c_5 hf
          refine lv_aload_n hx hb dX11_put_32 rfl (lv_at hl 0 rfl) ?_
          refine gt_X11_23_cl hx hb hta hown hK hC dX11_put_33 ?_
          refine lv_aload_n hx hb dX11_put_36 rfl (lv_at hl 0 rfl) ?_
          refine gt_X11_19_cl hx hb hta hown hK hC dX11_put_37 ?_
          obtain ⟨s_6, hc_6, hf⟩ := cals_inv hf
          refine cc_Vv (r_X3_copy_draft_listing (D := D) (y := y) (o := o) (ad := ad) (av := av) hc_6 l) hx hb hml hta hown hK hN hV hA hC hRc hRs (by omega) (by omega) wq_782 (q := 10) (ci := 3) rfl rfl wq_783 wq_784 wq_27 wq_308 hd_X3_copy (As := [.ref (o 3)]) (rest := []) rfl rfl hl.1 rfl dX11_put_40 (fun H locs hC => ?_)
          refine lv_aload_n hx hb dX11_put_43 rfl (lv_at hl 0 rfl) ?_
          refine gt_X11_23_cl hx hb hta hown hK hC dX11_put_44 ?_
          refine gt_X11_146_draft hx hb hta hown hK hC dX11_put_47 ?_
          refine lv_iload_n hx hb dX11_put_50 rfl (lv_at hl 1 rfl) ?_
          refine lv_iload_n hx hb dX11_put_51 rfl (lv_at hl 2 rfl) ?_
          obtain ⟨hi_7, hf⟩ := ix_inv hf
          obtain ⟨s_7, e_7, hf⟩ := lt_inv hf
          refine as_X_11 hx hb hK hC hi_7 e_7 dX11_put_52 (fun H locs hC => ?_)
          refine lv_aload_n hx hb dX11_put_53 rfl (lv_at hl 0 rfl) ?_
          refine gt_X11_23_cl hx hb hta hown hK hC dX11_put_54 ?_
          refine gt_X11_150_draft hx hb hta hown hK hC dX11_put_57 ?_
          refine lv_iload_n hx hb dX11_put_60 rfl (lv_at hl 1 rfl) ?_
          refine lv_iload_n hx hb dX11_put_61 rfl (lv_at hl 3 rfl) ?_
          obtain ⟨hi_8, hf⟩ := ix_inv hf
          obtain ⟨s_8, e_8, hf⟩ := lt_inv hf
          refine as_X_12 hx hb hK hC hi_8 e_8 dX11_put_62 (fun H locs hC => ?_)
          refine lv_aload_n hx hb dX11_put_63 rfl (lv_at hl 0 rfl) ?_
          refine gt_X11_23_cl hx hb hta hown hK hC dX11_put_64 ?_
          obtain ⟨v_9, s_9, hc_9, hf⟩ := calv_inv hf
          refine cc_Vi (r_X3_judge_draft (D := D) (y := y) (o := o) (ad := ad) (av := av) hc_9 l) hx hb hml hta hown hK hN hV hA hC hRc hRs (by omega) (by omega) wq_805 (q := 10) (ci := 3) rfl rfl wq_806 wq_807 wq_27 wq_335 hd_X3_judge (As := []) (rest := []) rfl rfl hl.1 rfl dX11_put_67 (fun H locs hC => ?_)
          refine lv_istore (lv' := [(4, .int v_9), (0, .ref (o 0)), (1, .int x1), (2, .int x2), (3, .int x3)]) hx hb dX11_put_70 hl (by decide) rfl (fun ls hl => ?_)
          refine lv_iload hx hb dX11_put_72 (lv_at hl 0 rfl) ?_
          refine lv_if_eq (tgt := 80) hx hb dX11_put_74 (by decide) (fun c_10 => ?_) (fun c_10 => ?_)
          · have hf := it_t c_10 hf
            refine lv_aload_n hx hb dX11_put_80 rfl (lv_at hl 1 rfl) ?_
            obtain ⟨s_11, hc_11, hf⟩ := cals_inv hf
            refine cc_Vv (r_X11_adoptDraft (D := D) (y := y) (o := o) (ad := ad) (av := av) hc_11 l) hx hb hml hta hown hK hN hV hA hC hRc hRs (by omega) (by omega) wq_808 (q := 0) (ci := 11) rfl rfl wq_809 wq_810 wq_38 wq_803 hd_X11_adoptDraft (As := []) (rest := []) rfl rfl hl.1 rfl dX11_put_81 (fun H locs hC => ?_)
            refine lv_aload_n hx hb dX11_put_84 rfl (lv_at hl 1 rfl) ?_
            refine gt_X11_31_cl hx hb hta hown hK hC dX11_put_85 ?_
            refine gt_X11_135_blocks hx hb hta hown hK hC dX11_put_88 ?_
            exact hret _ _ _ _ _ _ (rv_inv hf).1 (congrArg (WX y o) (rv_inv hf).2) rfl dX11_put_91 hC
          · have hf := it_f c_10 hf
            refine lv_iload hx hb dX11_put_77 (lv_at hl 0 rfl) ?_
            exact hret _ _ _ _ _ _ (rv_inv hf).1 (congrArg (WX y o) (rv_inv hf).2) rfl dX11_put_79 hC
        · have hf := it_t c_5 hf
          refine lv_iconst (v := (-1)) hx hb dX11_put_30 (by decide) ?_
          exact hret _ _ _ _ _ _ (rv_inv hf).1 (congrArg (WX y o) (rv_inv hf).2) rfl dX11_put_31 hC

set_option maxHeartbeats 8000000 in
set_option maxRecDepth 100000 in
theorem r_X11_count {D : va_G} {y : Nat → ClassId} {o : Nat → Nat} {ad av : Nat → Nat} {x1 : Int32} {σ : Sto} {v : Int32} (hf : f_X11_count x1 σ = some v) (l : Launch) (sz : Nat) : Met l yX11_count (Cond.code yX11_count cX11_count 2 (some .int) :: ALW) { frames := 1, cells := 0, slots := 0, locals := 21 } (va_Pc [.ref (o 0), .int x1] (PZ D y ad av (WX y o σ) sz)) (QZi D (WX y o σ) v (WX y o σ) sz) 0 0 (va_A (WX y o σ) sz) := by
  refine met_i (by decide) (Nat.le_of_ble_eq_true rfl) ?_
  intro p e R s m args below meth c Q A ls hx hb hml hta hown hRc hRs hRf hRl hN hK hV hA hret hC hl
  have hl : lv_has ls 2 [(0, .ref (o 0)), (1, .int x1)] := hl
  unfold f_X11_count at hf
  refine lv_iload_n hx hb dX11_count_0 rfl (lv_at hl 1 rfl) ?_
  refine lv_bipush (v := 12) hx hb dX11_count_1 (by decide) ?_
  refine lv_icmp_ne (tgt := 14) hx hb dX11_count_3 (by decide) (fun c_1 => ?_) (fun c_1 => ?_)
  · have hf := it_f c_1 hf
    refine lv_aload_n hx hb dX11_count_14 rfl (lv_at hl 0 rfl) ?_
    refine gt_X11_105_cl hx hb hta hown hK hC dX11_count_15 ?_
    refine lv_if_ne (tgt := 24) hx hb dX11_count_18 (by decide) (fun c_2 => ?_) (fun c_2 => ?_)
    · have hf := it_f c_2 hf
      refine lv_iload_n hx hb dX11_count_24 rfl (lv_at hl 1 rfl) ?_
      by_cases h_3_0 : x1.toInt = 0
      · have hf := it_t h_3_0 hf
        refine lv_tab (tgt := 100) hx hb dX11_count_25 (Or.inr ⟨75, by omega, by omega, by (rw [h_3_0]; decide), by decide⟩) ?_
        refine lv_aload_n hx hb dX11_count_100 rfl (lv_at hl 0 rfl) ?_
        refine gt_X11_19_cl hx hb hta hown hK hC dX11_count_101 ?_
        refine gt_X11_138_listing hx hb hta hown hK hC dX11_count_104 ?_
        exact hret _ _ _ _ _ _ (Option.some.inj hf) rfl rfl dX11_count_107 hC
      have hf := it_f h_3_0 hf
      by_cases h_3_1 : x1.toInt = 1
      · have hf := it_t h_3_1 hf
        refine lv_tab (tgt := 108) hx hb dX11_count_25 (Or.inr ⟨83, by omega, by omega, by (rw [h_3_1]; decide), by decide⟩) ?_
        refine lv_aload_n hx hb dX11_count_108 rfl (lv_at hl 0 rfl) ?_
        refine gt_X11_31_cl hx hb hta hown hK hC dX11_count_109 ?_
        refine gt_X11_135_blocks hx hb hta hown hK hC dX11_count_112 ?_
        exact hret _ _ _ _ _ _ (Option.some.inj hf) rfl rfl dX11_count_115 hC
      have hf := it_f h_3_1 hf
      by_cases h_3_2 : x1.toInt = 2
      · have hf := it_t h_3_2 hf
        refine lv_tab (tgt := 116) hx hb dX11_count_25 (Or.inr ⟨91, by omega, by omega, by (rw [h_3_2]; decide), by decide⟩) ?_
        refine lv_aload_n hx hb dX11_count_116 rfl (lv_at hl 0 rfl) ?_
        refine gt_X11_31_cl hx hb hta hown hK hC dX11_count_117 ?_
        refine gt_X11_154_blocks hx hb hta hown hK hC dX11_count_120 ?_
        exact hret _ _ _ _ _ _ (Option.some.inj hf) rfl rfl dX11_count_123 hC
      have hf := it_f h_3_2 hf
      by_cases h_3_3 : x1.toInt = 3
      · have hf := it_t h_3_3 hf
        refine lv_tab (tgt := 124) hx hb dX11_count_25 (Or.inr ⟨99, by omega, by omega, by (rw [h_3_3]; decide), by decide⟩) ?_
        refine lv_aload_n hx hb dX11_count_124 rfl (lv_at hl 0 rfl) ?_
        refine gt_X11_19_cl hx hb hta hown hK hC dX11_count_125 ?_
        refine gt_X11_157_listing hx hb hta hown hK hC dX11_count_128 ?_
        exact hret _ _ _ _ _ _ (Option.some.inj hf) rfl rfl dX11_count_131 hC
      have hf := it_f h_3_3 hf
      by_cases h_3_4 : x1.toInt = 4
      · have hf := it_t h_3_4 hf
        refine lv_tab (tgt := 132) hx hb dX11_count_25 (Or.inr ⟨107, by omega, by omega, by (rw [h_3_4]; decide), by decide⟩) ?_
        refine lv_aload_n hx hb dX11_count_132 rfl (lv_at hl 0 rfl) ?_
        refine gt_X11_40_cl hx hb hta hown hK hC dX11_count_133 ?_
        refine gt_X11_160_shape hx hb hta hown hK hC dX11_count_136 ?_
        obtain ⟨v_4, hc_4, hf⟩ := calp_inv hf
        refine cc_Si (r_J13_bitCount_95d88 (D := D) (y := y) (w := WX y o σ) (ad := ad) (av := av) hc_4 l) hx hb hml hta hown hK hN hV hA hC hRc hRs (by omega) (by omega) wq_832 wq_594 wq_595 wq_582 hd_J13_bitCount_95d88 (As := [.long (σ.2 2 0)]) (rest := []) rfl rfl hl.1 rfl dX11_count_139 (fun H locs hC => ?_)
        exact hret _ _ _ _ _ _ (Option.some.inj hf) rfl rfl dX11_count_142 hC
      have hf := it_f h_3_4 hf
      by_cases h_3_5 : x1.toInt = 5
      · have hf := it_t h_3_5 hf
        refine lv_tab (tgt := 143) hx hb dX11_count_25 (Or.inr ⟨118, by omega, by omega, by (rw [h_3_5]; decide), by decide⟩) ?_
        refine lv_aload_n hx hb dX11_count_143 rfl (lv_at hl 0 rfl) ?_
        refine gt_X11_40_cl hx hb hta hown hK hC dX11_count_144 ?_
        refine gt_X11_170_shape hx hb hta hown hK hC dX11_count_147 ?_
        obtain ⟨v_5, hc_5, hf⟩ := calp_inv hf
        refine cc_Si (r_J13_bitCount_95d88 (D := D) (y := y) (w := WX y o σ) (ad := ad) (av := av) hc_5 l) hx hb hml hta hown hK hN hV hA hC hRc hRs (by omega) (by omega) wq_832 wq_594 wq_595 wq_582 hd_J13_bitCount_95d88 (As := [.long (σ.2 4 0)]) (rest := []) rfl rfl hl.1 rfl dX11_count_150 (fun H locs hC => ?_)
        exact hret _ _ _ _ _ _ (Option.some.inj hf) rfl rfl dX11_count_153 hC
      have hf := it_f h_3_5 hf
      by_cases h_3_6 : x1.toInt = 6
      · have hf := it_t h_3_6 hf
        refine lv_tab (tgt := 154) hx hb dX11_count_25 (Or.inr ⟨129, by omega, by omega, by (rw [h_3_6]; decide), by decide⟩) ?_
        refine lv_aload_n hx hb dX11_count_154 rfl (lv_at hl 0 rfl) ?_
        refine gt_X11_40_cl hx hb hta hown hK hC dX11_count_155 ?_
        refine gt_X11_173_shape hx hb hta hown hK hC dX11_count_158 ?_
        refine lv_if_eq (tgt := 168) hx hb dX11_count_161 (by decide) (fun c_6 => ?_) (fun c_6 => ?_)
        · have hf := it_t c_6 hf
          refine lv_aload_n hx hb dX11_count_168 rfl (lv_at hl 0 rfl) ?_
          refine gt_X11_40_cl hx hb hta hown hK hC dX11_count_169 ?_
          refine gt_X11_176_shape hx hb hta hown hK hC dX11_count_172 ?_
          exact hret _ _ _ _ _ _ (Option.some.inj hf) rfl rfl dX11_count_175 hC
        · have hf := it_f c_6 hf
          refine lv_iconst (v := (-1)) hx hb dX11_count_164 (by decide) ?_
          refine lv_goto (tgt := 175) hx hb dX11_count_165 (by decide) ?_
          exact hret _ _ _ _ _ _ (Option.some.inj hf) rfl rfl dX11_count_175 hC
      have hf := it_f h_3_6 hf
      by_cases h_3_7 : x1.toInt = 7
      · have hf := it_t h_3_7 hf
        refine lv_tab (tgt := 176) hx hb dX11_count_25 (Or.inr ⟨151, by omega, by omega, by (rw [h_3_7]; decide), by decide⟩) ?_
        refine lv_aload_n hx hb dX11_count_176 rfl (lv_at hl 0 rfl) ?_
        refine gt_X11_40_cl hx hb hta hown hK hC dX11_count_177 ?_
        refine gt_X11_179_shape hx hb hta hown hK hC dX11_count_180 ?_
        refine lv_if_eq (tgt := 190) hx hb dX11_count_183 (by decide) (fun c_7 => ?_) (fun c_7 => ?_)
        · have hf := it_t c_7 hf
          refine lv_iconst (v := 0) hx hb dX11_count_190 (by decide) ?_
          exact hret _ _ _ _ _ _ (Option.some.inj hf) rfl rfl dX11_count_191 hC
        · have hf := it_f c_7 hf
          refine lv_iconst (v := 1) hx hb dX11_count_186 (by decide) ?_
          refine lv_goto (tgt := 191) hx hb dX11_count_187 (by decide) ?_
          exact hret _ _ _ _ _ _ (Option.some.inj hf) rfl rfl dX11_count_191 hC
      have hf := it_f h_3_7 hf
      by_cases h_3_8 : x1.toInt = 8
      · have hf := it_t h_3_8 hf
        refine lv_tab (tgt := 192) hx hb dX11_count_25 (Or.inr ⟨167, by omega, by omega, by (rw [h_3_8]; decide), by decide⟩) ?_
        refine lv_aload_n hx hb dX11_count_192 rfl (lv_at hl 0 rfl) ?_
        refine gt_X11_40_cl hx hb hta hown hK hC dX11_count_193 ?_
        refine gt_X11_173_shape hx hb hta hown hK hC dX11_count_196 ?_
        refine lv_if_eq (tgt := 206) hx hb dX11_count_199 (by decide) (fun c_8 => ?_) (fun c_8 => ?_)
        · have hf := it_t c_8 hf
          refine lv_aload_n hx hb dX11_count_206 rfl (lv_at hl 0 rfl) ?_
          refine gt_X11_83_cl hx hb hta hown hK hC dX11_count_207 ?_
          refine gt_X11_182_lines hx hb hta hown hK hC dX11_count_210 ?_
          exact hret _ _ _ _ _ _ (Option.some.inj hf) rfl rfl dX11_count_213 hC
        · have hf := it_f c_8 hf
          refine lv_iconst (v := (-1)) hx hb dX11_count_202 (by decide) ?_
          refine lv_goto (tgt := 213) hx hb dX11_count_203 (by decide) ?_
          exact hret _ _ _ _ _ _ (Option.some.inj hf) rfl rfl dX11_count_213 hC
      have hf := it_f h_3_8 hf
      by_cases h_3_9 : x1.toInt = 9
      · have hf := it_t h_3_9 hf
        refine lv_tab (tgt := 214) hx hb dX11_count_25 (Or.inr ⟨189, by omega, by omega, by (rw [h_3_9]; decide), by decide⟩) ?_
        refine lv_aload_n hx hb dX11_count_214 rfl (lv_at hl 0 rfl) ?_
        refine gt_X11_56_cl hx hb hta hown hK hC dX11_count_215 ?_
        refine gt_X11_183_lifted hx hb hta hown hK hC dX11_count_218 ?_
        exact hret _ _ _ _ _ _ (Option.some.inj hf) rfl rfl dX11_count_221 hC
      have hf := it_f h_3_9 hf
      by_cases h_3_10 : x1.toInt = 10
      · have hf := it_t h_3_10 hf
        refine lv_tab (tgt := 222) hx hb dX11_count_25 (Or.inr ⟨197, by omega, by omega, by (rw [h_3_10]; decide), by decide⟩) ?_
        refine lv_aload_n hx hb dX11_count_222 rfl (lv_at hl 0 rfl) ?_
        refine gt_X11_56_cl hx hb hta hown hK hC dX11_count_223 ?_
        refine gt_X11_184_lifted hx hb hta hown hK hC dX11_count_226 ?_
        exact hret _ _ _ _ _ _ (Option.some.inj hf) rfl rfl dX11_count_229 hC
      have hf := it_f h_3_10 hf
      by_cases h_3_11 : x1.toInt = 11
      · have hf := it_t h_3_11 hf
        refine lv_tab (tgt := 230) hx hb dX11_count_25 (Or.inr ⟨205, by omega, by omega, by (rw [h_3_11]; decide), by decide⟩) ?_
        refine lv_aload_n hx hb dX11_count_230 rfl (lv_at hl 0 rfl) ?_
        refine gt_X11_31_cl hx hb hta hown hK hC dX11_count_231 ?_
        refine gt_X11_187_blocks hx hb hta hown hK hC dX11_count_234 ?_
        exact hret _ _ _ _ _ _ (Option.some.inj hf) rfl rfl dX11_count_237 hC
      have hf := it_f h_3_11 hf
      by_cases h_3_12 : x1.toInt = 13
      · have hf := it_t h_3_12 hf
        refine lv_tab (tgt := 238) hx hb dX11_count_25 (Or.inr ⟨213, by omega, by omega, by (rw [h_3_12]; decide), by decide⟩) ?_
        refine lv_aload_n hx hb dX11_count_238 rfl (lv_at hl 0 rfl) ?_
        refine gt_X11_56_cl hx hb hta hown hK hC dX11_count_239 ?_
        refine gt_X11_190_lifted hx hb hta hown hK hC dX11_count_242 ?_
        exact hret _ _ _ _ _ _ (Option.some.inj hf) rfl rfl dX11_count_245 hC
      have hf := it_f h_3_12 hf
      by_cases h_3_13 : x1.toInt = 14
      · have hf := it_t h_3_13 hf
        refine lv_tab (tgt := 246) hx hb dX11_count_25 (Or.inr ⟨221, by omega, by omega, by (rw [h_3_13]; decide), by decide⟩) ?_
        refine lv_aload_n hx hb dX11_count_246 rfl (lv_at hl 0 rfl) ?_
        refine gt_X11_74_cl hx hb hta hown hK hC dX11_count_247 ?_
        refine gt_X11_193_liveness hx hb hta hown hK hC dX11_count_250 ?_
        obtain ⟨v_9, hc_9, hf⟩ := calp_inv hf
        refine cc_Si (r_J13_bitCount_95d88 (D := D) (y := y) (w := WX y o σ) (ad := ad) (av := av) hc_9 l) hx hb hml hta hown hK hN hV hA hC hRc hRs (by omega) (by omega) wq_832 wq_594 wq_595 wq_582 hd_J13_bitCount_95d88 (As := [.long (σ.2 6 0)]) (rest := []) rfl rfl hl.1 rfl dX11_count_253 (fun H locs hC => ?_)
        exact hret _ _ _ _ _ _ (Option.some.inj hf) rfl rfl dX11_count_256 hC
      have hf := it_f h_3_13 hf
      refine lv_tab (tgt := 257) hx hb dX11_count_25 (by rcases (show (x1.toInt < 0 ∨ 14 < x1.toInt ∨ x1.toInt = 12) by omega) with h | h | h; exact Or.inl ⟨Or.inl h, by decide⟩; exact Or.inl ⟨Or.inr h, by decide⟩; all_goals exact Or.inr ⟨232, by omega, by omega, by rw [h]; decide, by decide⟩) ?_
      refine lv_ldc hx hb hown (hta _ wq_820) dX11_count_257 ?_
      exact hret _ _ _ _ _ _ (Option.some.inj hf) rfl rfl dX11_count_259 hC
    · have hf := it_t c_2 hf
      refine lv_ldc hx hb hown (hta _ wq_820) dX11_count_21 ?_
      exact hret _ _ _ _ _ _ (Option.some.inj hf) rfl rfl dX11_count_23 hC
  · have hf := it_t c_1 hf
    refine lv_aload_n hx hb dX11_count_6 rfl (lv_at hl 0 rfl) ?_
    refine gt_X11_10_cl hx hb hta hown hK hC dX11_count_7 ?_
    refine gt_X11_113_tape hx hb hta hown hK hC dX11_count_10 ?_
    exact hret _ _ _ _ _ _ (Option.some.inj hf) rfl rfl dX11_count_13 hC

set_option maxHeartbeats 8000000 in
set_option maxRecDepth 100000 in
theorem r_X11_edge {D : va_G} {y : Nat → ClassId} {o : Nat → Nat} {ad av : Nat → Nat} {x1 : Int32} {x2 : Int32} {σ : Sto} {v : Int32} (hf : f_X11_edge x1 x2 σ = some v) (l : Launch) (sz : Nat) : Met l yX11_edge (Cond.code yX11_edge cX11_edge 3 (some .int) :: ALW) { frames := 0, cells := 0, slots := 0, locals := 0 } (va_Pc [.ref (o 0), .int x1, .int x2] (PZ D y ad av (WX y o σ) sz)) (QZi D (WX y o σ) v (WX y o σ) sz) 0 0 (va_A (WX y o σ) sz) := by
  refine met_i (by decide) (Nat.le_of_ble_eq_true rfl) ?_
  intro p e R s m args below meth c Q A ls hx hb hml hta hown hRc hRs hRf hRl hN hK hV hA hret hC hl
  have hl : lv_has ls 3 [(0, .ref (o 0)), (1, .int x1), (2, .int x2)] := hl
  unfold f_X11_edge at hf
  refine lv_aload_n hx hb dX11_edge_0 rfl (lv_at hl 0 rfl) ?_
  refine gt_X11_105_cl hx hb hta hown hK hC dX11_edge_1 ?_
  refine lv_if_eq (tgt := 22) hx hb dX11_edge_4 (by decide) (fun c_1 => ?_) (fun c_1 => ?_)
  · have hf := it_t c_1 hf
    refine lv_ldc hx hb hown (hta _ wq_820) dX11_edge_22 ?_
    exact hret _ _ _ _ _ _ (Option.some.inj hf) rfl rfl dX11_edge_24 hC
  · have hf := it_f c_1 hf
    refine lv_iload_n hx hb dX11_edge_7 rfl (lv_at hl 1 rfl) ?_
    refine lv_if_lt (tgt := 22) hx hb dX11_edge_8 (by decide) (fun c_2 => ?_) (fun c_2 => ?_)
    · have hf := it_t c_2 hf
      refine lv_ldc hx hb hown (hta _ wq_820) dX11_edge_22 ?_
      exact hret _ _ _ _ _ _ (Option.some.inj hf) rfl rfl dX11_edge_24 hC
    · have hf := it_f c_2 hf
      refine lv_iload_n hx hb dX11_edge_11 rfl (lv_at hl 1 rfl) ?_
      refine lv_aload_n hx hb dX11_edge_12 rfl (lv_at hl 0 rfl) ?_
      refine gt_X11_31_cl hx hb hta hown hK hC dX11_edge_13 ?_
      refine gt_X11_154_blocks hx hb hta hown hK hC dX11_edge_16 ?_
      refine lv_icmp_lt (tgt := 25) hx hb dX11_edge_19 (by decide) (fun c_3 => ?_) (fun c_3 => ?_)
      · have hf := it_t c_3 hf
        refine lv_iload_n hx hb dX11_edge_25 rfl (lv_at hl 2 rfl) ?_
        by_cases h_4_0 : x2.toInt = 0
        · have hf := it_t h_4_0 hf
          refine lv_tab (tgt := 60) hx hb dX11_edge_26 (Or.inr ⟨34, by omega, by omega, by (rw [h_4_0]; decide), by decide⟩) ?_
          refine lv_aload_n hx hb dX11_edge_60 rfl (lv_at hl 0 rfl) ?_
          refine gt_X11_31_cl hx hb hta hown hK hC dX11_edge_61 ?_
          refine gt_X11_250_blocks hx hb hta hown hK hC dX11_edge_64 ?_
          refine lv_iload_n hx hb dX11_edge_67 rfl (lv_at hl 1 rfl) ?_
          obtain ⟨hi_5, hf⟩ := ix_inv hf
          obtain ⟨v_5, e_5, hf⟩ := lt_inv hf
          refine al_X_26 hx hb hK hC hi_5 e_5 dX11_edge_68 ?_
          exact hret _ _ _ _ _ _ (Option.some.inj hf) rfl rfl dX11_edge_69 hC
        have hf := it_f h_4_0 hf
        by_cases h_4_1 : x2.toInt = 1
        · have hf := it_t h_4_1 hf
          refine lv_tab (tgt := 70) hx hb dX11_edge_26 (Or.inr ⟨44, by omega, by omega, by (rw [h_4_1]; decide), by decide⟩) ?_
          refine lv_aload_n hx hb dX11_edge_70 rfl (lv_at hl 0 rfl) ?_
          refine gt_X11_31_cl hx hb hta hown hK hC dX11_edge_71 ?_
          refine gt_X11_253_blocks hx hb hta hown hK hC dX11_edge_74 ?_
          refine lv_iload_n hx hb dX11_edge_77 rfl (lv_at hl 1 rfl) ?_
          obtain ⟨hi_6, hf⟩ := ix_inv hf
          obtain ⟨v_6, e_6, hf⟩ := lt_inv hf
          refine al_X_27 hx hb hK hC hi_6 e_6 dX11_edge_78 ?_
          exact hret _ _ _ _ _ _ (Option.some.inj hf) rfl rfl dX11_edge_79 hC
        have hf := it_f h_4_1 hf
        by_cases h_4_2 : x2.toInt = 2
        · have hf := it_t h_4_2 hf
          refine lv_tab (tgt := 80) hx hb dX11_edge_26 (Or.inr ⟨54, by omega, by omega, by (rw [h_4_2]; decide), by decide⟩) ?_
          refine lv_aload_n hx hb dX11_edge_80 rfl (lv_at hl 0 rfl) ?_
          refine gt_X11_40_cl hx hb hta hown hK hC dX11_edge_81 ?_
          refine gt_X11_256_shape hx hb hta hown hK hC dX11_edge_84 ?_
          refine lv_iload_n hx hb dX11_edge_87 rfl (lv_at hl 1 rfl) ?_
          obtain ⟨hi_7, hf⟩ := ix_inv hf
          obtain ⟨v_7, e_7, hf⟩ := lt_inv hf
          refine al_X_32 hx hb hK hC hi_7 e_7 dX11_edge_88 ?_
          refine lv_if_eq (tgt := 96) hx hb dX11_edge_89 (by decide) (fun c_8 => ?_) (fun c_8 => ?_)
          · have hf := it_t c_8 hf
            refine lv_iconst (v := 0) hx hb dX11_edge_96 (by decide) ?_
            exact hret _ _ _ _ _ _ (Option.some.inj hf) rfl rfl dX11_edge_97 hC
          · have hf := it_f c_8 hf
            refine lv_iconst (v := 1) hx hb dX11_edge_92 (by decide) ?_
            refine lv_goto (tgt := 97) hx hb dX11_edge_93 (by decide) ?_
            exact hret _ _ _ _ _ _ (Option.some.inj hf) rfl rfl dX11_edge_97 hC
        have hf := it_f h_4_2 hf
        by_cases h_4_3 : x2.toInt = 3
        · have hf := it_t h_4_3 hf
          refine lv_tab (tgt := 98) hx hb dX11_edge_26 (Or.inr ⟨72, by omega, by omega, by (rw [h_4_3]; decide), by decide⟩) ?_
          refine lv_aload_n hx hb dX11_edge_98 rfl (lv_at hl 0 rfl) ?_
          refine gt_X11_40_cl hx hb hta hown hK hC dX11_edge_99 ?_
          refine gt_X11_260_shape hx hb hta hown hK hC dX11_edge_102 ?_
          refine lv_iload_n hx hb dX11_edge_105 rfl (lv_at hl 1 rfl) ?_
          obtain ⟨hi_9, hf⟩ := ix_inv hf
          obtain ⟨v_9, e_9, hf⟩ := lt_inv hf
          refine al_X_31 hx hb hK hC hi_9 e_9 dX11_edge_106 ?_
          refine lv_if_eq (tgt := 114) hx hb dX11_edge_107 (by decide) (fun c_10 => ?_) (fun c_10 => ?_)
          · have hf := it_t c_10 hf
            refine lv_iconst (v := 0) hx hb dX11_edge_114 (by decide) ?_
            exact hret _ _ _ _ _ _ (Option.some.inj hf) rfl rfl dX11_edge_115 hC
          · have hf := it_f c_10 hf
            refine lv_iconst (v := 1) hx hb dX11_edge_110 (by decide) ?_
            refine lv_goto (tgt := 115) hx hb dX11_edge_111 (by decide) ?_
            exact hret _ _ _ _ _ _ (Option.some.inj hf) rfl rfl dX11_edge_115 hC
        have hf := it_f h_4_3 hf
        by_cases h_4_4 : x2.toInt = 4
        · have hf := it_t h_4_4 hf
          refine lv_tab (tgt := 116) hx hb dX11_edge_26 (Or.inr ⟨90, by omega, by omega, by (rw [h_4_4]; decide), by decide⟩) ?_
          refine lv_aload_n hx hb dX11_edge_116 rfl (lv_at hl 0 rfl) ?_
          refine gt_X11_31_cl hx hb hta hown hK hC dX11_edge_117 ?_
          refine gt_X11_263_blocks hx hb hta hown hK hC dX11_edge_120 ?_
          refine lv_iload_n hx hb dX11_edge_123 rfl (lv_at hl 1 rfl) ?_
          obtain ⟨hi_11, hf⟩ := ix_inv hf
          obtain ⟨v_11, e_11, hf⟩ := lt_inv hf
          refine al_X_28 hx hb hK hC hi_11 e_11 dX11_edge_124 ?_
          refine lv_if_eq (tgt := 132) hx hb dX11_edge_125 (by decide) (fun c_12 => ?_) (fun c_12 => ?_)
          · have hf := it_t c_12 hf
            refine lv_iconst (v := 0) hx hb dX11_edge_132 (by decide) ?_
            exact hret _ _ _ _ _ _ (Option.some.inj hf) rfl rfl dX11_edge_133 hC
          · have hf := it_f c_12 hf
            refine lv_iconst (v := 1) hx hb dX11_edge_128 (by decide) ?_
            refine lv_goto (tgt := 133) hx hb dX11_edge_129 (by decide) ?_
            exact hret _ _ _ _ _ _ (Option.some.inj hf) rfl rfl dX11_edge_133 hC
        have hf := it_f h_4_4 hf
        refine lv_tab (tgt := 134) hx hb dX11_edge_26 (Or.inl ⟨by omega, by decide⟩) ?_
        refine lv_ldc hx hb hown (hta _ wq_820) dX11_edge_134 ?_
        exact hret _ _ _ _ _ _ (Option.some.inj hf) rfl rfl dX11_edge_136 hC
      · have hf := it_f c_3 hf
        refine lv_ldc hx hb hown (hta _ wq_820) dX11_edge_22 ?_
        exact hret _ _ _ _ _ _ (Option.some.inj hf) rfl rfl dX11_edge_24 hC

set_option maxHeartbeats 8000000 in
set_option maxRecDepth 100000 in
theorem r_X11_dominates {D : va_G} {y : Nat → ClassId} {o : Nat → Nat} {ad av : Nat → Nat} {x1 : Int32} {x2 : Int32} {σ : Sto} {v : Int32} (hf : f_X11_dominates x1 x2 σ = some v) (l : Launch) (sz : Nat) : Met l yX11_dominates (Cond.code yX11_dominates cX11_dominates 3 (some .boolean) :: ALW) { frames := 1, cells := 0, slots := 0, locals := 22 } (va_Pc [.ref (o 0), .int x1, .int x2] (PZ D y ad av (WX y o σ) sz)) (QZi D (WX y o σ) v (WX y o σ) sz) 0 0 (va_A (WX y o σ) sz) := by
  refine met_i (by decide) (Nat.le_of_ble_eq_true rfl) ?_
  intro p e R s m args below meth c Q A ls hx hb hml hta hown hRc hRs hRf hRl hN hK hV hA hret hC hl
  have hl : lv_has ls 3 [(0, .ref (o 0)), (1, .int x1), (2, .int x2)] := hl
  unfold f_X11_dominates at hf
  refine lv_aload_n hx hb dX11_dominates_0 rfl (lv_at hl 0 rfl) ?_
  refine lv_iload_n hx hb dX11_dominates_1 rfl (lv_at hl 1 rfl) ?_
  obtain ⟨v_1, hc_1, hf⟩ := calp_inv hf
  refine cc_Vi (r_X11_isBlock (D := D) (y := y) (o := o) (ad := ad) (av := av) hc_1 l) hx hb hml hta hown hK hN hV hA hC hRc hRs (by omega) (by omega) wq_848 (q := 0) (ci := 11) rfl rfl wq_849 wq_850 wq_38 wq_839 hd_X11_isBlock (As := [.int x1]) (rest := []) rfl rfl hl.1 rfl dX11_dominates_2 (fun H locs hC => ?_)
  obtain ⟨k_36, hk_36, hf⟩ := jn_inv0 hf
  have hj_36 : ∀  (H : Heap) (locs : List Loc) (ls : Array Slot), k_36 = some v → CZ D A s H locs (WX y o σ) → lv_has ls 3 [] → W p l e R s m args below meth c H locs 0 0 Q (F0 m 36 ls []) := by
    intro H locs ls hf hC hl
    have hf := hk_36 hf
    refine lv_iconst (v := 0) hx hb dX11_dominates_36 (by decide) ?_
    exact hret _ _ _ _ _ _ (Option.some.inj hf) rfl rfl dX11_dominates_37 hC
  refine lv_if_eq (tgt := 36) hx hb dX11_dominates_5 (by decide) (fun c_3 => ?_) (fun c_3 => ?_)
  · have hf := it_t c_3 hf
    exact hj_36 _ _ _ hf hC (lv_sub hl [] rfl)
  · have hf := it_f c_3 hf
    refine lv_aload_n hx hb dX11_dominates_8 rfl (lv_at hl 0 rfl) ?_
    refine lv_iload_n hx hb dX11_dominates_9 rfl (lv_at hl 2 rfl) ?_
    obtain ⟨v_4, hc_4, hf⟩ := calp_inv hf
    refine cc_Vi (r_X11_isBlock (D := D) (y := y) (o := o) (ad := ad) (av := av) hc_4 l) hx hb hml hta hown hK hN hV hA hC hRc hRs (by omega) (by omega) wq_848 (q := 0) (ci := 11) rfl rfl wq_849 wq_850 wq_38 wq_839 hd_X11_isBlock (As := [.int x2]) (rest := []) rfl rfl hl.1 rfl dX11_dominates_10 (fun H locs hC => ?_)
    refine lv_if_eq (tgt := 36) hx hb dX11_dominates_13 (by decide) (fun c_5 => ?_) (fun c_5 => ?_)
    · have hf := it_t c_5 hf
      exact hj_36 _ _ _ hf hC (lv_sub hl [] rfl)
    · have hf := it_f c_5 hf
      refine lv_aload_n hx hb dX11_dominates_16 rfl (lv_at hl 0 rfl) ?_
      refine gt_X11_40_cl hx hb hta hown hK hC dX11_dominates_17 ?_
      refine gt_X11_266_shape hx hb hta hown hK hC dX11_dominates_20 ?_
      refine lv_iload_n hx hb dX11_dominates_23 rfl (lv_at hl 2 rfl) ?_
      obtain ⟨hi_6, hf⟩ := ix_inv hf
      obtain ⟨v_6, e_6, hf⟩ := lt_inv hf
      refine al_X_35 hx hb hK hC hi_6 e_6 dX11_dominates_24 ?_
      refine lv_iload_n hx hb dX11_dominates_25 rfl (lv_at hl 1 rfl) ?_
      obtain ⟨v_7, hc_7, hf⟩ := calp_inv hf
      refine cc_Si (r_X11_isIn (D := D) (y := y) (w := WX y o σ) (ad := ad) (av := av) hc_7 l) hx hb hml hta hown hK hN hV hA hC hRc hRs (by omega) (by omega) wq_838 wq_37 wq_38 wq_33 hd_X11_isIn (As := [.long v_6, .int x1]) (rest := []) rfl rfl hl.1 rfl dX11_dominates_26 (fun H locs hC => ?_)
      refine lv_if_eq (tgt := 36) hx hb dX11_dominates_29 (by decide) (fun c_8 => ?_) (fun c_8 => ?_)
      · have hf := it_t c_8 hf
        exact hj_36 _ _ _ hf hC (lv_sub hl [] rfl)
      · have hf := it_f c_8 hf
        refine lv_iconst (v := 1) hx hb dX11_dominates_32 (by decide) ?_
        refine lv_goto (tgt := 37) hx hb dX11_dominates_33 (by decide) ?_
        exact hret _ _ _ _ _ _ (Option.some.inj hf) rfl rfl dX11_dominates_37 hC

set_option maxHeartbeats 8000000 in
set_option maxRecDepth 100000 in
theorem r_X11_loop {D : va_G} {y : Nat → ClassId} {o : Nat → Nat} {ad av : Nat → Nat} {x1 : Int32} {σ : Sto} {v : Int64} (hf : f_X11_loop x1 σ = some v) (l : Launch) (sz : Nat) : Met l yX11_loop (Cond.code yX11_loop cX11_loop 2 (some .long) :: ALW) { frames := 1, cells := 0, slots := 0, locals := 22 } (va_Pc [.ref (o 0), .int x1] (PZ D y ad av (WX y o σ) sz)) (QZl D (WX y o σ) v (WX y o σ) sz) 0 0 (va_A (WX y o σ) sz) := by
  refine met_l (by decide) (Nat.le_of_ble_eq_true rfl) ?_
  intro p e R s m args below meth c Q A ls hx hb hml hta hown hRc hRs hRf hRl hN hK hV hA hret hC hl
  have hl : lv_has ls 2 [(0, .ref (o 0)), (1, .int x1)] := hl
  unfold f_X11_loop at hf
  refine lv_aload_n hx hb dX11_loop_0 rfl (lv_at hl 0 rfl) ?_
  refine lv_iload_n hx hb dX11_loop_1 rfl (lv_at hl 1 rfl) ?_
  obtain ⟨v_1, hc_1, hf⟩ := calp_inv hf
  refine cc_Vi (r_X11_isBlock (D := D) (y := y) (o := o) (ad := ad) (av := av) hc_1 l) hx hb hml hta hown hK hN hV hA hC hRc hRs (by omega) (by omega) wq_848 (q := 0) (ci := 11) rfl rfl wq_849 wq_850 wq_38 wq_839 hd_X11_isBlock (As := [.int x1]) (rest := []) rfl rfl hl.1 rfl dX11_loop_2 (fun H locs hC => ?_)
  obtain ⟨k_34, hk_34, hf⟩ := jn_inv0 hf
  have hj_34 : ∀  (H : Heap) (locs : List Loc) (ls : Array Slot), k_34 = some v → CZ D A s H locs (WX y o σ) → lv_has ls 2 [] → W p l e R s m args below meth c H locs 0 0 Q (F0 m 34 ls []) := by
    intro H locs ls hf hC hl
    have hf := hk_34 hf
    refine lv_ldc2 hx hb hown (hta _ wq_866) dX11_loop_34 ?_
    exact hret _ _ _ _ _ _ (Option.some.inj hf) rfl dX11_loop_37 hC
  refine lv_if_eq (tgt := 34) hx hb dX11_loop_5 (by decide) (fun c_3 => ?_) (fun c_3 => ?_)
  · have hf := it_t c_3 hf
    exact hj_34 _ _ _ hf hC (lv_sub hl [] rfl)
  · have hf := it_f c_3 hf
    refine lv_aload_n hx hb dX11_loop_8 rfl (lv_at hl 0 rfl) ?_
    refine gt_X11_40_cl hx hb hta hown hK hC dX11_loop_9 ?_
    refine gt_X11_160_shape hx hb hta hown hK hC dX11_loop_12 ?_
    refine lv_iload_n hx hb dX11_loop_15 rfl (lv_at hl 1 rfl) ?_
    obtain ⟨v_4, hc_4, hf⟩ := calp_inv hf
    refine cc_Si (r_X11_isIn (D := D) (y := y) (w := WX y o σ) (ad := ad) (av := av) hc_4 l) hx hb hml hta hown hK hN hV hA hC hRc hRs (by omega) (by omega) wq_838 wq_37 wq_38 wq_33 hd_X11_isIn (As := [.long (σ.2 2 0), .int x1]) (rest := []) rfl rfl hl.1 rfl dX11_loop_16 (fun H locs hC => ?_)
    refine lv_if_eq (tgt := 34) hx hb dX11_loop_19 (by decide) (fun c_5 => ?_) (fun c_5 => ?_)
    · have hf := it_t c_5 hf
      exact hj_34 _ _ _ hf hC (lv_sub hl [] rfl)
    · have hf := it_f c_5 hf
      refine lv_aload_n hx hb dX11_loop_22 rfl (lv_at hl 0 rfl) ?_
      refine gt_X11_40_cl hx hb hta hown hK hC dX11_loop_23 ?_
      refine gt_X11_270_shape hx hb hta hown hK hC dX11_loop_26 ?_
      refine lv_iload_n hx hb dX11_loop_29 rfl (lv_at hl 1 rfl) ?_
      obtain ⟨hi_6, hf⟩ := ix_inv hf
      obtain ⟨v_6, e_6, hf⟩ := lt_inv hf
      refine al_X_37 hx hb hK hC hi_6 e_6 dX11_loop_30 ?_
      refine lv_goto (tgt := 37) hx hb dX11_loop_31 (by decide) ?_
      exact hret _ _ _ _ _ _ (Option.some.inj hf) rfl dX11_loop_37 hC

set_option maxHeartbeats 8000000 in
set_option maxRecDepth 100000 in
theorem r_X6_writeSign {D : va_G} {y : Nat → ClassId} {o : Nat → Nat} {ad av : Nat → Nat} {x1 : Int32} {σ : Sto} {σ2 : Sto} (hf : f_X6_writeSign x1 σ = some σ2) (l : Launch) (sz : Nat) : Met l yX6_writeSign (Cond.code yX6_writeSign cX6_writeSign 2 none :: ALW) { frames := 0, cells := 0, slots := 0, locals := 0 } (va_Pc [.ref (o 76), .int x1] (PZ D y ad av (WX y o σ) sz)) (QZv D (WX y o σ) (WX y o σ2) sz) 0 0 (va_A (WX y o σ) sz) := by
  refine met_v (by decide) (Nat.le_of_ble_eq_true rfl) ?_
  intro p e R s m args below meth c Q A ls hx hb hml hta hown hRc hRs hRf hRl hN hK hV hA hret hC hl
  have hl : lv_has ls 2 [(0, .ref (o 76)), (1, .int x1)] := hl
  unfold f_X6_writeSign at hf
  refine lv_aload_n hx hb dX6_writeSign_0 rfl (lv_at hl 0 rfl) ?_
  refine gt_X6_27_pen hx hb hta hown hK hC dX6_writeSign_1 ?_
  refine lv_sipush (v := 400) hx hb dX6_writeSign_4 (by decide) ?_
  obtain ⟨k_20, hk_20, hf⟩ := jn_inv1 hf
  have hj_20 : ∀ (s_1 : Sto) (H : Heap) (locs : List Loc) (ls : Array Slot), k_20 s_1 = some σ2 → CZ D A s H locs (WX y o s_1) → lv_has ls 2 [(0, .ref (o 76))] → W p l e R s m args below meth c H locs 0 0 Q (F0 m 20 ls []) := by
    intro s_1 H locs ls hf hC hl
    have hf := hk_20 _ hf
    refine lv_aload_n hx hb dX6_writeSign_20 rfl (lv_at hl 0 rfl) ?_
    refine lv_dup hx hb dX6_writeSign_21 rfl ?_
    refine gt_X6_27_pen hx hb hta hown hK hC dX6_writeSign_22 ?_
    refine lv_iconst (v := 1) hx hb dX6_writeSign_25 (by decide) ?_
    refine lv_iadd hx hb dX6_writeSign_26 ?_
    obtain ⟨s_2, e_2, hf⟩ := lt_inv hf
    refine pt_X6_27_pen hx hb hta hown hK hC e_2 dX6_writeSign_27 (fun H locs hC => ?_)
    exact hret _ _ _ _ _ (congrArg (WX y o) (Option.some.inj hf)) dX6_writeSign_30 hC
  refine lv_icmp_ge (tgt := 20) hx hb dX6_writeSign_7 (by decide) (fun c_3 => ?_) (fun c_3 => ?_)
  · have hf := it_t c_3 hf
    exact hj_20 _ _ _ _ hf hC (lv_sub hl [0] rfl)
  · have hf := it_f c_3 hf
    refine lv_aload_n hx hb dX6_writeSign_10 rfl (lv_at hl 0 rfl) ?_
    refine gt_X6_9_pen hx hb hta hown hK hC dX6_writeSign_11 ?_
    refine lv_aload_n hx hb dX6_writeSign_14 rfl (lv_at hl 0 rfl) ?_
    refine gt_X6_27_pen hx hb hta hown hK hC dX6_writeSign_15 ?_
    refine lv_iload_n hx hb dX6_writeSign_18 rfl (lv_at hl 1 rfl) ?_
    obtain ⟨hi_4, hf⟩ := ix_inv hf
    obtain ⟨s_4, e_4, hf⟩ := lt_inv hf
    refine as_X_77 hx hb hK hC hi_4 e_4 dX6_writeSign_19 (fun H locs hC => ?_)
    exact hj_20 _ _ _ _ hf hC (lv_sub hl [0] rfl)

set_option maxHeartbeats 8000000 in
set_option maxRecDepth 100000 in
theorem r_X6_writeNumber {D : va_G} {y : Nat → ClassId} {o : Nat → Nat} {ad av : Nat → Nat} {x1 : Int32} {σ : Sto} {σ2 : Sto} (hf : f_X6_writeNumber x1 σ = some σ2) (l : Launch) (sz : Nat) : Met l yX6_writeNumber (Cond.code yX6_writeNumber cX6_writeNumber 2 none :: ALW) { frames := 1, cells := 0, slots := 0, locals := 21 } (va_Pc [.ref (o 76), .int x1] (PZ D y ad av (WX y o σ) sz)) (QZv D (WX y o σ) (WX y o σ2) sz) 0 0 (va_A (WX y o σ) sz) := by
  refine met_v (by decide) (Nat.le_of_ble_eq_true rfl) ?_
  intro p e R s m args below meth c Q A ls hx hb hml hta hown hRc hRs hRf hRl hN hK hV hA hret hC hl
  have hl : lv_has ls 2 [(0, .ref (o 76)), (1, .int x1)] := hl
  unfold f_X6_writeNumber at hf
  refine lv_iload_n hx hb dX6_writeNumber_0 rfl (lv_at hl 1 rfl) ?_
  refine lv_bipush (v := 99) hx hb dX6_writeNumber_1 (by decide) ?_
  obtain ⟨k_17, hk_17, hf⟩ := jn_inv1 hf
  have hj_17 : ∀ (s_1 : Sto) (H : Heap) (locs : List Loc) (ls : Array Slot), k_17 s_1 = some σ2 → CZ D A s H locs (WX y o s_1) → lv_has ls 2 [(0, .ref (o 76)), (1, .int x1)] → W p l e R s m args below meth c H locs 0 0 Q (F0 m 17 ls []) := by
    intro s_1 H locs ls hf hC hl
    have hf := hk_17 _ hf
    refine lv_iload_n hx hb dX6_writeNumber_17 rfl (lv_at hl 1 rfl) ?_
    refine lv_bipush (v := 9) hx hb dX6_writeNumber_18 (by decide) ?_
    obtain ⟨k_37, hk_37, hf⟩ := jn_inv1 hf
    have hj_37 : ∀ (s_2 : Sto) (H : Heap) (locs : List Loc) (ls : Array Slot), k_37 s_2 = some σ2 → CZ D A s H locs (WX y o s_2) → lv_has ls 2 [(0, .ref (o 76)), (1, .int x1)] → W p l e R s m args below meth c H locs 0 0 Q (F0 m 37 ls []) := by
      intro s_2 H locs ls hf hC hl
      have hf := hk_37 _ hf
      refine lv_aload_n hx hb dX6_writeNumber_37 rfl (lv_at hl 0 rfl) ?_
      refine lv_bipush (v := 48) hx hb dX6_writeNumber_38 (by decide) ?_
      refine lv_iload_n hx hb dX6_writeNumber_40 rfl (lv_at hl 1 rfl) ?_
      refine lv_bipush (v := 10) hx hb dX6_writeNumber_41 (by decide) ?_
      refine lv_irem hx hb dX6_writeNumber_43 (by decide) ?_
      refine lv_iadd hx hb dX6_writeNumber_44 ?_
      obtain ⟨s_3, hc_3, hf⟩ := cals_inv hf
      refine cc_Vv (r_X6_writeSign (D := D) (y := y) (o := o) (ad := ad) (av := av) hc_3 l) hx hb hml hta hown hK hN hV hA hC hRc hRs (by omega) (by omega) wq_477 (q := 76) (ci := 6) rfl rfl wq_478 wq_479 wq_480 wq_475 hd_X6_writeSign (As := [.int ((48 : Int32) + (x1 - x1 / 10 * 10))]) (rest := []) rfl rfl hl.1 rfl dX6_writeNumber_45 (fun H locs hC => ?_)
      exact hret _ _ _ _ _ (congrArg (WX y o) (Option.some.inj hf)) dX6_writeNumber_48 hC
    refine lv_icmp_le (tgt := 37) hx hb dX6_writeNumber_20 (by decide) (fun c_4 => ?_) (fun c_4 => ?_)
    · have hf := it_t c_4 hf
      exact hj_37 _ _ _ _ hf hC hl
    · have hf := it_f c_4 hf
      refine lv_aload_n hx hb dX6_writeNumber_23 rfl (lv_at hl 0 rfl) ?_
      refine lv_bipush (v := 48) hx hb dX6_writeNumber_24 (by decide) ?_
      refine lv_iload_n hx hb dX6_writeNumber_26 rfl (lv_at hl 1 rfl) ?_
      refine lv_bipush (v := 10) hx hb dX6_writeNumber_27 (by decide) ?_
      refine lv_idiv hx hb dX6_writeNumber_29 (by decide) ?_
      refine lv_bipush (v := 10) hx hb dX6_writeNumber_30 (by decide) ?_
      refine lv_irem hx hb dX6_writeNumber_32 (by decide) ?_
      refine lv_iadd hx hb dX6_writeNumber_33 ?_
      obtain ⟨s_5, hc_5, hf⟩ := cals_inv hf
      refine cc_Vv (r_X6_writeSign (D := D) (y := y) (o := o) (ad := ad) (av := av) hc_5 l) hx hb hml hta hown hK hN hV hA hC hRc hRs (by omega) (by omega) wq_477 (q := 76) (ci := 6) rfl rfl wq_478 wq_479 wq_480 wq_475 hd_X6_writeSign (As := [.int ((48 : Int32) + ((x1 / 10) - (x1 / 10) / 10 * 10))]) (rest := []) rfl rfl hl.1 rfl dX6_writeNumber_34 (fun H locs hC => ?_)
      exact hj_37 _ _ _ _ hf hC hl
  refine lv_icmp_le (tgt := 17) hx hb dX6_writeNumber_3 (by decide) (fun c_6 => ?_) (fun c_6 => ?_)
  · have hf := it_t c_6 hf
    exact hj_17 _ _ _ _ hf hC hl
  · have hf := it_f c_6 hf
    refine lv_aload_n hx hb dX6_writeNumber_6 rfl (lv_at hl 0 rfl) ?_
    refine lv_bipush (v := 48) hx hb dX6_writeNumber_7 (by decide) ?_
    refine lv_iload_n hx hb dX6_writeNumber_9 rfl (lv_at hl 1 rfl) ?_
    refine lv_bipush (v := 100) hx hb dX6_writeNumber_10 (by decide) ?_
    refine lv_idiv hx hb dX6_writeNumber_12 (by decide) ?_
    refine lv_iadd hx hb dX6_writeNumber_13 ?_
    obtain ⟨s_7, hc_7, hf⟩ := cals_inv hf
    refine cc_Vv (r_X6_writeSign (D := D) (y := y) (o := o) (ad := ad) (av := av) hc_7 l) hx hb hml hta hown hK hN hV hA hC hRc hRs (by omega) (by omega) wq_477 (q := 76) (ci := 6) rfl rfl wq_478 wq_479 wq_480 wq_475 hd_X6_writeSign (As := [.int ((48 : Int32) + (x1 / 100))]) (rest := []) rfl rfl hl.1 rfl dX6_writeNumber_14 (fun H locs hC => ?_)
    exact hj_17 _ _ _ _ hf hC hl

set_option maxHeartbeats 8000000 in
set_option maxRecDepth 100000 in
theorem r_X6_writeName {D : va_G} {y : Nat → ClassId} {o : Nat → Nat} {ad av : Nat → Nat} {x1 : Int32} {x2 : Int32} {σ : Sto} {σ2 : Sto} (hf : f_X6_writeName x1 x2 σ = some σ2) (l : Launch) (sz : Nat) : Met l yX6_writeName (Cond.code yX6_writeName cX6_writeName 3 none :: ALW) { frames := 2, cells := 0, slots := 0, locals := 42 } (va_Pc [.ref (o 76), .int x1, .int x2] (PZ D y ad av (WX y o σ) sz)) (QZv D (WX y o σ) (WX y o σ2) sz) 0 0 (va_A (WX y o σ) sz) := by
  refine met_v (by decide) (Nat.le_of_ble_eq_true rfl) ?_
  intro p e R s m args below meth c Q A ls hx hb hml hta hown hRc hRs hRf hRl hN hK hV hA hret hC hl
  have hl : lv_has ls 3 [(0, .ref (o 76)), (1, .int x1), (2, .int x2)] := hl
  unfold f_X6_writeName at hf
  refine lv_aload_n hx hb dX6_writeName_0 rfl (lv_at hl 0 rfl) ?_
  refine lv_iload_n hx hb dX6_writeName_1 rfl (lv_at hl 1 rfl) ?_
  obtain ⟨s_1, hc_1, hf⟩ := cals_inv hf
  refine cc_Vv (r_X6_writeSign (D := D) (y := y) (o := o) (ad := ad) (av := av) hc_1 l) hx hb hml hta hown hK hN hV hA hC hRc hRs (by omega) (by omega) wq_477 (q := 76) (ci := 6) rfl rfl wq_478 wq_479 wq_480 wq_475 hd_X6_writeSign (As := [.int x1]) (rest := []) rfl rfl hl.1 rfl dX6_writeName_2 (fun H locs hC => ?_)
  refine lv_aload_n hx hb dX6_writeName_5 rfl (lv_at hl 0 rfl) ?_
  refine lv_iload_n hx hb dX6_writeName_6 rfl (lv_at hl 2 rfl) ?_
  obtain ⟨s_2, hc_2, hf⟩ := cals_inv hf
  refine cc_Vv (r_X6_writeNumber (D := D) (y := y) (o := o) (ad := ad) (av := av) hc_2 l) hx hb hml hta hown hK hN hV hA hC hRc hRs (by omega) (by omega) wq_482 (q := 76) (ci := 6) rfl rfl wq_483 wq_484 wq_480 wq_476 hd_X6_writeNumber (As := [.int x2]) (rest := []) rfl rfl hl.1 rfl dX6_writeName_7 (fun H locs hC => ?_)
  exact hret _ _ _ _ _ (congrArg (WX y o) (Option.some.inj hf)) dX6_writeName_10 hC

set_option maxHeartbeats 8000000 in
set_option maxRecDepth 100000 in
theorem r_X6_write_s18 {D : va_G} {y : Nat → ClassId} {o : Nat → Nat} {ad av : Nat → Nat} {σ : Sto} {σ2 : Sto} (hf : f_X6_write_s18 σ = some σ2) (l : Launch) (sz : Nat) : Met l yX6_write (Cond.code yX6_write cX6_write 3 none :: ALW) { frames := 8, cells := 0, slots := 0, locals := 200 } (va_Pc [.ref (o 76), .ref (ad 18)] (PZ D y ad av (WX y o σ) sz)) (QZv D (WX y o σ) (WX y o σ2) sz) 0 0 (va_A (WX y o σ) sz) := by
  refine met_v (by decide) (Nat.le_of_ble_eq_true rfl) ?_
  intro p e R s m args below meth c Q A ls hx hb hml hta hown hRc hRs hRf hRl hN hK hV hA hret hC hl
  have hl : lv_has ls 3 [(0, .ref (o 76)), (1, .ref (ad 18))] := hl
  unfold f_X6_write_s18 at hf
  refine lv_iconst (v := 0) hx hb dX6_write_0 (by decide) ?_
  refine lv_istore_n (lv' := [(2, .int 0), (0, .ref (o 76)), (1, .ref (ad 18))]) hx hb dX6_write_1 rfl hl (by decide) rfl (fun ls hl => ?_)
  refine itr_inv2 (P := fun (x2_1 : Int32) (s_1 : Sto) => ∀ (H : Heap) (locs : List Loc) (ls : Array Slot), CZ D A s H locs (WX y o s_1) → lv_has ls 3 [(0, .ref (o 76)), (1, .ref (ad 18)), (2, .int x2_1)] → W p l e R s m args below meth c H locs 0 0 Q (F0 m 2 ls [])) hf ?_ _ _ _ hC (lv_sub hl [1, 2, 0] rfl)
  intro a_2 x2_1 s_1 ha_2 hf H locs ls hC hl
  refine lv_iload_n hx hb dX6_write_2 rfl (lv_at hl 2 rfl) ?_
  refine lv_aload_n hx hb dX6_write_3 rfl (lv_at hl 1 rfl) ?_
  refine cc_length hx hb hml hta hown hK hN hV hA hC hRc hRs (by omega) (by omega) wq_528 (i := 18) (n := 2) (by decide) (by decide) (by decide) hl.1 rfl dX6_write_4 (fun H locs hC => ?_)
  refine lv_icmp_ge (tgt := 25) hx hb dX6_write_7 (by decide) (fun c_2 => ?_) (fun c_2 => ?_)
  · have hf := it_t c_2 hf
    exact hret _ _ _ _ _ (congrArg (WX y o) (Option.some.inj hf)) dX6_write_25 hC
  · have hf := it_f c_2 hf
    refine lv_aload_n hx hb dX6_write_10 rfl (lv_at hl 0 rfl) ?_
    refine lv_aload_n hx hb dX6_write_11 rfl (lv_at hl 1 rfl) ?_
    refine lv_iload_n hx hb dX6_write_12 rfl (lv_at hl 2 rfl) ?_
    obtain ⟨hi_3, hf⟩ := ix_inv hf
    obtain ⟨v_3, e_3, hf⟩ := lt_inv hf
    refine cc_charAt hx hb hml hta hown hK hN hV hA hC hRc hRs (by omega) (by omega) wq_531 (i := 18) (n := 2) (by decide) (by decide) (by decide) hi_3 e_3 hl.1 rfl dX6_write_13 (fun H locs hC => ?_)
    obtain ⟨s_4, hc_4, hf⟩ := cals_inv hf
    refine cc_Vv (r_X6_writeSign (D := D) (y := y) (o := o) (ad := ad) (av := av) hc_4 l) hx hb hml hta hown hK hN hV hA hC hRc hRs (by omega) (by omega) wq_477 (q := 76) (ci := 6) rfl rfl wq_478 wq_479 wq_480 wq_475 hd_X6_writeSign (As := [.int v_3]) (rest := []) rfl rfl hl.1 rfl dX6_write_16 (fun H locs hC => ?_)
    obtain ⟨x2_5, e_5, hf⟩ := lt_inv hf
    refine lv_iinc (v := x2_5) (lv' := [(2, .int x2_5), (0, .ref (o 76)), (1, .ref (ad 18))]) hx hb dX6_write_19 hl (k := 2) rfl e_5.symm (by decide) rfl (fun ls hl => ?_)
    refine lv_goto (tgt := 2) hx hb dX6_write_22 (by decide) ?_
    exact ha_2 _ _ hf _ _ _ hC (lv_sub hl [1, 2, 0] rfl)

set_option maxHeartbeats 8000000 in
set_option maxRecDepth 100000 in
theorem r_X6_write_s19 {D : va_G} {y : Nat → ClassId} {o : Nat → Nat} {ad av : Nat → Nat} {σ : Sto} {σ2 : Sto} (hf : f_X6_write_s19 σ = some σ2) (l : Launch) (sz : Nat) : Met l yX6_write (Cond.code yX6_write cX6_write 3 none :: ALW) { frames := 8, cells := 0, slots := 0, locals := 200 } (va_Pc [.ref (o 76), .ref (ad 19)] (PZ D y ad av (WX y o σ) sz)) (QZv D (WX y o σ) (WX y o σ2) sz) 0 0 (va_A (WX y o σ) sz) := by
  refine met_v (by decide) (Nat.le_of_ble_eq_true rfl) ?_
  intro p e R s m args below meth c Q A ls hx hb hml hta hown hRc hRs hRf hRl hN hK hV hA hret hC hl
  have hl : lv_has ls 3 [(0, .ref (o 76)), (1, .ref (ad 19))] := hl
  unfold f_X6_write_s19 at hf
  refine lv_iconst (v := 0) hx hb dX6_write_0 (by decide) ?_
  refine lv_istore_n (lv' := [(2, .int 0), (0, .ref (o 76)), (1, .ref (ad 19))]) hx hb dX6_write_1 rfl hl (by decide) rfl (fun ls hl => ?_)
  refine itr_inv2 (P := fun (x2_1 : Int32) (s_1 : Sto) => ∀ (H : Heap) (locs : List Loc) (ls : Array Slot), CZ D A s H locs (WX y o s_1) → lv_has ls 3 [(0, .ref (o 76)), (1, .ref (ad 19)), (2, .int x2_1)] → W p l e R s m args below meth c H locs 0 0 Q (F0 m 2 ls [])) hf ?_ _ _ _ hC (lv_sub hl [1, 2, 0] rfl)
  intro a_2 x2_1 s_1 ha_2 hf H locs ls hC hl
  refine lv_iload_n hx hb dX6_write_2 rfl (lv_at hl 2 rfl) ?_
  refine lv_aload_n hx hb dX6_write_3 rfl (lv_at hl 1 rfl) ?_
  refine cc_length hx hb hml hta hown hK hN hV hA hC hRc hRs (by omega) (by omega) wq_528 (i := 19) (n := 1) (by decide) (by decide) (by decide) hl.1 rfl dX6_write_4 (fun H locs hC => ?_)
  refine lv_icmp_ge (tgt := 25) hx hb dX6_write_7 (by decide) (fun c_2 => ?_) (fun c_2 => ?_)
  · have hf := it_t c_2 hf
    exact hret _ _ _ _ _ (congrArg (WX y o) (Option.some.inj hf)) dX6_write_25 hC
  · have hf := it_f c_2 hf
    refine lv_aload_n hx hb dX6_write_10 rfl (lv_at hl 0 rfl) ?_
    refine lv_aload_n hx hb dX6_write_11 rfl (lv_at hl 1 rfl) ?_
    refine lv_iload_n hx hb dX6_write_12 rfl (lv_at hl 2 rfl) ?_
    obtain ⟨hi_3, hf⟩ := ix_inv hf
    obtain ⟨v_3, e_3, hf⟩ := lt_inv hf
    refine cc_charAt hx hb hml hta hown hK hN hV hA hC hRc hRs (by omega) (by omega) wq_531 (i := 19) (n := 1) (by decide) (by decide) (by decide) hi_3 e_3 hl.1 rfl dX6_write_13 (fun H locs hC => ?_)
    obtain ⟨s_4, hc_4, hf⟩ := cals_inv hf
    refine cc_Vv (r_X6_writeSign (D := D) (y := y) (o := o) (ad := ad) (av := av) hc_4 l) hx hb hml hta hown hK hN hV hA hC hRc hRs (by omega) (by omega) wq_477 (q := 76) (ci := 6) rfl rfl wq_478 wq_479 wq_480 wq_475 hd_X6_writeSign (As := [.int v_3]) (rest := []) rfl rfl hl.1 rfl dX6_write_16 (fun H locs hC => ?_)
    obtain ⟨x2_5, e_5, hf⟩ := lt_inv hf
    refine lv_iinc (v := x2_5) (lv' := [(2, .int x2_5), (0, .ref (o 76)), (1, .ref (ad 19))]) hx hb dX6_write_19 hl (k := 2) rfl e_5.symm (by decide) rfl (fun ls hl => ?_)
    refine lv_goto (tgt := 2) hx hb dX6_write_22 (by decide) ?_
    exact ha_2 _ _ hf _ _ _ hC (lv_sub hl [1, 2, 0] rfl)

set_option maxHeartbeats 8000000 in
set_option maxRecDepth 100000 in
theorem r_X6_write_s20 {D : va_G} {y : Nat → ClassId} {o : Nat → Nat} {ad av : Nat → Nat} {σ : Sto} {σ2 : Sto} (hf : f_X6_write_s20 σ = some σ2) (l : Launch) (sz : Nat) : Met l yX6_write (Cond.code yX6_write cX6_write 3 none :: ALW) { frames := 8, cells := 0, slots := 0, locals := 200 } (va_Pc [.ref (o 76), .ref (ad 20)] (PZ D y ad av (WX y o σ) sz)) (QZv D (WX y o σ) (WX y o σ2) sz) 0 0 (va_A (WX y o σ) sz) := by
  refine met_v (by decide) (Nat.le_of_ble_eq_true rfl) ?_
  intro p e R s m args below meth c Q A ls hx hb hml hta hown hRc hRs hRf hRl hN hK hV hA hret hC hl
  have hl : lv_has ls 3 [(0, .ref (o 76)), (1, .ref (ad 20))] := hl
  unfold f_X6_write_s20 at hf
  refine lv_iconst (v := 0) hx hb dX6_write_0 (by decide) ?_
  refine lv_istore_n (lv' := [(2, .int 0), (0, .ref (o 76)), (1, .ref (ad 20))]) hx hb dX6_write_1 rfl hl (by decide) rfl (fun ls hl => ?_)
  refine itr_inv2 (P := fun (x2_1 : Int32) (s_1 : Sto) => ∀ (H : Heap) (locs : List Loc) (ls : Array Slot), CZ D A s H locs (WX y o s_1) → lv_has ls 3 [(0, .ref (o 76)), (1, .ref (ad 20)), (2, .int x2_1)] → W p l e R s m args below meth c H locs 0 0 Q (F0 m 2 ls [])) hf ?_ _ _ _ hC (lv_sub hl [1, 2, 0] rfl)
  intro a_2 x2_1 s_1 ha_2 hf H locs ls hC hl
  refine lv_iload_n hx hb dX6_write_2 rfl (lv_at hl 2 rfl) ?_
  refine lv_aload_n hx hb dX6_write_3 rfl (lv_at hl 1 rfl) ?_
  refine cc_length hx hb hml hta hown hK hN hV hA hC hRc hRs (by omega) (by omega) wq_528 (i := 20) (n := 1) (by decide) (by decide) (by decide) hl.1 rfl dX6_write_4 (fun H locs hC => ?_)
  refine lv_icmp_ge (tgt := 25) hx hb dX6_write_7 (by decide) (fun c_2 => ?_) (fun c_2 => ?_)
  · have hf := it_t c_2 hf
    exact hret _ _ _ _ _ (congrArg (WX y o) (Option.some.inj hf)) dX6_write_25 hC
  · have hf := it_f c_2 hf
    refine lv_aload_n hx hb dX6_write_10 rfl (lv_at hl 0 rfl) ?_
    refine lv_aload_n hx hb dX6_write_11 rfl (lv_at hl 1 rfl) ?_
    refine lv_iload_n hx hb dX6_write_12 rfl (lv_at hl 2 rfl) ?_
    obtain ⟨hi_3, hf⟩ := ix_inv hf
    obtain ⟨v_3, e_3, hf⟩ := lt_inv hf
    refine cc_charAt hx hb hml hta hown hK hN hV hA hC hRc hRs (by omega) (by omega) wq_531 (i := 20) (n := 1) (by decide) (by decide) (by decide) hi_3 e_3 hl.1 rfl dX6_write_13 (fun H locs hC => ?_)
    obtain ⟨s_4, hc_4, hf⟩ := cals_inv hf
    refine cc_Vv (r_X6_writeSign (D := D) (y := y) (o := o) (ad := ad) (av := av) hc_4 l) hx hb hml hta hown hK hN hV hA hC hRc hRs (by omega) (by omega) wq_477 (q := 76) (ci := 6) rfl rfl wq_478 wq_479 wq_480 wq_475 hd_X6_writeSign (As := [.int v_3]) (rest := []) rfl rfl hl.1 rfl dX6_write_16 (fun H locs hC => ?_)
    obtain ⟨x2_5, e_5, hf⟩ := lt_inv hf
    refine lv_iinc (v := x2_5) (lv' := [(2, .int x2_5), (0, .ref (o 76)), (1, .ref (ad 20))]) hx hb dX6_write_19 hl (k := 2) rfl e_5.symm (by decide) rfl (fun ls hl => ?_)
    refine lv_goto (tgt := 2) hx hb dX6_write_22 (by decide) ?_
    exact ha_2 _ _ hf _ _ _ hC (lv_sub hl [1, 2, 0] rfl)

set_option maxHeartbeats 8000000 in
set_option maxRecDepth 100000 in
theorem rg_X6_writeExpression {D : va_G} {y : Nat → ClassId} {o : Nat → Nat} {ad av : Nat → Nat} : ∀ d : Nat, (∀ {x1 : Int32} {x2 : Int32} {σ : Sto} {σ2 : Sto}, f_X6_writeExpression d x1 x2 σ = some σ2 → ∀ (l : Launch) (sz : Nat), Met l yX6_writeExpression (Cond.code yX6_writeExpression cX6_writeExpression 5 none :: ALW) { frames := d + 9, cells := 0, slots := 0, locals := d * 24 + 222 } (va_Pc [.ref (o 76), .int x1, .int x2] (PZ D y ad av (WX y o σ) sz)) (QZv D (WX y o σ) (WX y o σ2) sz) 0 0 (va_A (WX y o σ) sz)) := by
  intro d
  induction d with
  | zero => exact fun hc => by have hc : (none : Option (Sto)) = some _ := hc; cases hc
  | succ d ih =>
    have h_X6_writeExpression := @ih
    intro x1 x2 σ σ2 hf l sz
    have hf : b_X6_writeExpression (f_X6_writeExpression d) x1 x2 σ = some σ2 := hf
    refine met_v (by decide) (Nat.le_of_ble_eq_true rfl) ?_
    intro p e R s m args below meth c Q A ls hx hb hml hta hown hRc hRs hRf hRl hN hK hV hA hret hC hl
    have hl : lv_has ls 5 [(0, .ref (o 76)), (1, .int x1), (2, .int x2)] := hl
    unfold b_X6_writeExpression at hf
    refine lv_iload_n hx hb dX6_writeExpression_0 rfl (lv_at hl 1 rfl) ?_
    refine lv_iconst (v := (-1)) hx hb dX6_writeExpression_1 (by decide) ?_
    refine lv_icmp_eq (tgt := 11) hx hb dX6_writeExpression_2 (by decide) (fun c_1 => ?_) (fun c_1 => ?_)
    · have hf := it_t c_1 hf
      exact hret _ _ _ _ _ (congrArg (WX y o) (Option.some.inj hf)) dX6_writeExpression_11 hC
    · have hf := it_f c_1 hf
      refine lv_iload_n hx hb dX6_writeExpression_5 rfl (lv_at hl 2 rfl) ?_
      refine lv_bipush (v := 60) hx hb dX6_writeExpression_6 (by decide) ?_
      refine lv_icmp_le (tgt := 12) hx hb dX6_writeExpression_8 (by decide) (fun c_2 => ?_) (fun c_2 => ?_)
      · have hf := it_t c_2 hf
        refine lv_aload_n hx hb dX6_writeExpression_12 rfl (lv_at hl 0 rfl) ?_
        refine gt_X6_15_pen hx hb hta hown hK hC dX6_writeExpression_13 ?_
        refine gt_X6_115_pool hx hb hta hown hK hC dX6_writeExpression_16 ?_
        refine lv_iload_n hx hb dX6_writeExpression_19 rfl (lv_at hl 1 rfl) ?_
        obtain ⟨hi_3, hf⟩ := ix_inv hf
        obtain ⟨v_3, e_3, hf⟩ := lt_inv hf
        refine al_X_43 hx hb hK hC hi_3 e_3 dX6_writeExpression_20 ?_
        refine lv_istore_n (lv' := [(3, .int v_3), (0, .ref (o 76)), (1, .int x1), (2, .int x2)]) hx hb dX6_writeExpression_21 rfl hl (by decide) rfl (fun ls hl => ?_)
        refine lv_aload_n hx hb dX6_writeExpression_22 rfl (lv_at hl 1 rfl) ?_
        refine gt_X6_15_pen hx hb hta hown hK hC dX6_writeExpression_23 ?_
        refine gt_X6_120_pool hx hb hta hown hK hC dX6_writeExpression_26 ?_
        refine lv_iload_n hx hb dX6_writeExpression_29 rfl (lv_at hl 2 rfl) ?_
        obtain ⟨hi_4, hf⟩ := ix_inv hf
        obtain ⟨v_4, e_4, hf⟩ := lt_inv hf
        refine al_X_44 hx hb hK hC hi_4 e_4 dX6_writeExpression_30 ?_
        refine lv_istore (lv' := [(4, .int v_4), (3, .int v_3), (0, .ref (o 76)), (1, .int x1), (2, .int x2)]) hx hb dX6_writeExpression_31 hl (by decide) rfl (fun ls hl => ?_)
        refine lv_iload_n hx hb dX6_writeExpression_33 rfl (lv_at hl 1 rfl) ?_
        by_cases h_5_0 : v_3.toInt = 84
        · have hf := it_t h_5_0 hf
          refine lv_lookup (off := 67) (tgt := 101) hx hb dX6_writeExpression_34 (by decide) (by (rw [h_5_0]; decide)) (by decide) ?_
          refine lv_aload_n hx hb dX6_writeExpression_101 rfl (lv_at hl 2 rfl) ?_
          refine lv_bipush (v := 116) hx hb dX6_writeExpression_102 (by decide) ?_
          refine lv_iload hx hb dX6_writeExpression_104 (lv_at hl 0 rfl) ?_
          obtain ⟨s_6, hc_6, hf⟩ := cals_inv hf
          refine cc_Vv (r_X6_writeName (D := D) (y := y) (o := o) (ad := ad) (av := av) hc_6 l) hx hb hml hta hown hK hN hV hA hC hRc hRs (by omega) (by omega) wq_538 (q := 76) (ci := 6) rfl rfl wq_539 wq_540 wq_480 wq_481 hd_X6_writeName (As := [.int 116, .int v_4]) (rest := []) rfl rfl hl.1 rfl dX6_writeExpression_106 (fun H locs hC => ?_)
          exact hret _ _ _ _ _ (congrArg (WX y o) (Option.some.inj hf)) dX6_writeExpression_109 hC
        have hf := it_f h_5_0 hf
        by_cases h_5_1 : v_3.toInt = 88
        · have hf := it_t h_5_1 hf
          refine lv_lookup (off := 76) (tgt := 110) hx hb dX6_writeExpression_34 (by decide) (by (rw [h_5_1]; decide)) (by decide) ?_
          refine lv_aload_n hx hb dX6_writeExpression_110 rfl (lv_at hl 2 rfl) ?_
          refine lv_bipush (v := 120) hx hb dX6_writeExpression_111 (by decide) ?_
          refine lv_iload hx hb dX6_writeExpression_113 (lv_at hl 0 rfl) ?_
          obtain ⟨s_7, hc_7, hf⟩ := cals_inv hf
          refine cc_Vv (r_X6_writeName (D := D) (y := y) (o := o) (ad := ad) (av := av) hc_7 l) hx hb hml hta hown hK hN hV hA hC hRc hRs (by omega) (by omega) wq_538 (q := 76) (ci := 6) rfl rfl wq_539 wq_540 wq_480 wq_481 hd_X6_writeName (As := [.int 120, .int v_4]) (rest := []) rfl rfl hl.1 rfl dX6_writeExpression_115 (fun H locs hC => ?_)
          exact hret _ _ _ _ _ (congrArg (WX y o) (Option.some.inj hf)) dX6_writeExpression_118 hC
        have hf := it_f h_5_1 hf
        by_cases h_5_2 : v_3.toInt = 105
        · have hf := it_t h_5_2 hf
          refine lv_lookup (off := 85) (tgt := 119) hx hb dX6_writeExpression_34 (by decide) (by (rw [h_5_2]; decide)) (by decide) ?_
          refine lv_aload_n hx hb dX6_writeExpression_119 rfl (lv_at hl 2 rfl) ?_
          refine va_ldcS hx hb hown (ss_Rp hV 18 rfl) dX6_writeExpression_120 ?_
          obtain ⟨s_8, hc_8, hf⟩ := cals_inv hf
          refine cc_Vv (r_X6_write_s18 (D := D) (y := y) (o := o) (ad := ad) (av := av) hc_8 l) hx hb hml hta hown hK hN hV hA hC hRc hRs (by omega) (by omega) wq_541 (q := 76) (ci := 6) rfl rfl wq_542 wq_543 wq_480 wq_534 hd_X6_write (As := [.ref (ad 18)]) (rest := []) rfl rfl hl.1 rfl dX6_writeExpression_122 (fun H locs hC => ?_)
          exact hret _ _ _ _ _ (congrArg (WX y o) (Option.some.inj hf)) dX6_writeExpression_125 hC
        have hf := it_f h_5_2 hf
        by_cases h_5_3 : v_3.toInt = 107
        · have hf := it_t h_5_3 hf
          refine lv_lookup (off := 50) (tgt := 84) hx hb dX6_writeExpression_34 (by decide) (by (rw [h_5_3]; decide)) (by decide) ?_
          refine lv_aload_n hx hb dX6_writeExpression_84 rfl (lv_at hl 2 rfl) ?_
          refine lv_iload hx hb dX6_writeExpression_85 (lv_at hl 0 rfl) ?_
          obtain ⟨s_9, hc_9, hf⟩ := cals_inv hf
          refine cc_Vv (r_X6_writeNumber (D := D) (y := y) (o := o) (ad := ad) (av := av) hc_9 l) hx hb hml hta hown hK hN hV hA hC hRc hRs (by omega) (by omega) wq_482 (q := 76) (ci := 6) rfl rfl wq_483 wq_484 wq_480 wq_476 hd_X6_writeNumber (As := [.int v_4]) (rest := []) rfl rfl hl.1 rfl dX6_writeExpression_87 (fun H locs hC => ?_)
          exact hret _ _ _ _ _ (congrArg (WX y o) (Option.some.inj hf)) dX6_writeExpression_90 hC
        have hf := it_f h_5_3 hf
        by_cases h_5_4 : v_3.toInt = 108
        · have hf := it_t h_5_4 hf
          refine lv_lookup (off := 57) (tgt := 91) hx hb dX6_writeExpression_34 (by decide) (by (rw [h_5_4]; decide)) (by decide) ?_
          refine lv_aload_n hx hb dX6_writeExpression_91 rfl (lv_at hl 2 rfl) ?_
          refine lv_bipush (v := 97) hx hb dX6_writeExpression_92 (by decide) ?_
          refine lv_iload hx hb dX6_writeExpression_94 (lv_at hl 0 rfl) ?_
          refine lv_iadd hx hb dX6_writeExpression_96 ?_
          obtain ⟨s_10, hc_10, hf⟩ := cals_inv hf
          refine cc_Vv (r_X6_writeSign (D := D) (y := y) (o := o) (ad := ad) (av := av) hc_10 l) hx hb hml hta hown hK hN hV hA hC hRc hRs (by omega) (by omega) wq_477 (q := 76) (ci := 6) rfl rfl wq_478 wq_479 wq_480 wq_475 hd_X6_writeSign (As := [.int ((97 : Int32) + v_4)]) (rest := []) rfl rfl hl.1 rfl dX6_writeExpression_97 (fun H locs hC => ?_)
          exact hret _ _ _ _ _ (congrArg (WX y o) (Option.some.inj hf)) dX6_writeExpression_100 hC
        have hf := it_f h_5_4 hf
        refine lv_lookup (off := 92) (tgt := 126) hx hb dX6_writeExpression_34 (by decide) (lk_none (by intro a ha; simp only [List.mem_cons, List.not_mem_nil, or_false] at ha; rcases ha with rfl | rfl | rfl | rfl | rfl <;> (simp only; omega))) (by decide) ?_
        refine lv_iload_n hx hb dX6_writeExpression_126 rfl (lv_at hl 1 rfl) ?_
        obtain ⟨v_11, hc_11, hf⟩ := calp_inv hf
        refine cc_SiN (r_X11_isBinary (D := D) (y := y) (w := WX y o σ) (ad := ad) (av := av) hc_11 l) hx hb hml hta hown hK hN hV hA hC hRc hRs (by omega) (by omega) (nw_X6_125 hN) wq_67 wq_38 wq_65 hd_X11_isBinary (As := [.int v_3]) (rest := []) rfl rfl hl.1 rfl dX6_writeExpression_127 (fun H locs hC => ?_)
        refine lv_if_eq (tgt := 178) hx hb dX6_writeExpression_130 (by decide) (fun c_12 => ?_) (fun c_12 => ?_)
        · have hf := it_t c_12 hf
          refine lv_aload_n hx hb dX6_writeExpression_178 rfl (lv_at hl 2 rfl) ?_
          refine lv_iload_n hx hb dX6_writeExpression_179 rfl (lv_at hl 1 rfl) ?_
          refine lv_bipush (v := 110) hx hb dX6_writeExpression_180 (by decide) ?_
          obtain ⟨k_191, hk_191, hf⟩ := jn_inv1 hf
          have hj_191 : ∀ (t0_13 : Int32) (H : Heap) (locs : List Loc) (ls : Array Slot), k_191 t0_13 = some σ2 → CZ D A s H locs (WX y o σ) → lv_has ls 5 [(0, .ref (o 76)), (2, .int x2), (4, .int v_4)] → W p l e R s m args below meth c H locs 0 0 Q (F0 m 191 ls [.int t0_13, .ref (o 76)]) := by
            intro t0_13 H locs ls hf hC hl
            have hf := hk_191 _ hf
            obtain ⟨s_14, hc_14, hf⟩ := cals_inv hf
            refine cc_Vv (r_X6_writeSign (D := D) (y := y) (o := o) (ad := ad) (av := av) hc_14 l) hx hb hml hta hown hK hN hV hA hC hRc hRs (by omega) (by omega) wq_477 (q := 76) (ci := 6) rfl rfl wq_478 wq_479 wq_480 wq_475 hd_X6_writeSign (As := [.int t0_13]) (rest := []) rfl rfl hl.1 rfl dX6_writeExpression_191 (fun H locs hC => ?_)
            refine lv_aload_n hx hb dX6_writeExpression_194 rfl (lv_at hl 0 rfl) ?_
            refine lv_iload hx hb dX6_writeExpression_195 (lv_at hl 2 rfl) ?_
            refine lv_iload_n hx hb dX6_writeExpression_197 rfl (lv_at hl 1 rfl) ?_
            refine lv_iconst (v := 1) hx hb dX6_writeExpression_198 (by decide) ?_
            refine lv_iadd hx hb dX6_writeExpression_199 ?_
            obtain ⟨s_15, hc_15, hf⟩ := cals_inv hf
            refine cc_Vv (h_X6_writeExpression hc_15 l) hx hb hml hta hown hK hN hV hA hC hRc hRs (by omega) (by omega) wq_544 (q := 76) (ci := 6) rfl rfl wq_545 wq_546 wq_480 wq_547 hd_X6_writeExpression (As := [.int v_4, .int (x2 + 1)]) (rest := []) rfl rfl hl.1 rfl dX6_writeExpression_200 (fun H locs hC => ?_)
            exact hret _ _ _ _ _ (congrArg (WX y o) (Option.some.inj hf)) dX6_writeExpression_203 hC
          refine lv_icmp_ne (tgt := 190) hx hb dX6_writeExpression_182 (by decide) (fun c_16 => ?_) (fun c_16 => ?_)
          · have hf := it_f c_16 hf
            refine lv_iload_n hx hb dX6_writeExpression_190 rfl (lv_at hl 1 rfl) ?_
            exact hj_191 _ _ _ _ hf hC (lv_sub hl [2, 4, 0] rfl)
          · have hf := it_t c_16 hf
            refine lv_bipush (v := 45) hx hb dX6_writeExpression_185 (by decide) ?_
            refine lv_goto (tgt := 191) hx hb dX6_writeExpression_187 (by decide) ?_
            exact hj_191 _ _ _ _ hf hC (lv_sub hl [2, 4, 0] rfl)
        · have hf := it_f c_12 hf
          refine lv_aload_n hx hb dX6_writeExpression_133 rfl (lv_at hl 2 rfl) ?_
          refine va_ldcS hx hb hown (ss_Rp hV 19 rfl) dX6_writeExpression_134 ?_
          obtain ⟨s_17, hc_17, hf⟩ := cals_inv hf
          refine cc_Vv (r_X6_write_s19 (D := D) (y := y) (o := o) (ad := ad) (av := av) hc_17 l) hx hb hml hta hown hK hN hV hA hC hRc hRs (by omega) (by omega) wq_541 (q := 76) (ci := 6) rfl rfl wq_542 wq_543 wq_480 wq_534 hd_X6_write (As := [.ref (ad 19)]) (rest := []) rfl rfl hl.1 rfl dX6_writeExpression_136 (fun H locs hC => ?_)
          refine lv_aload_n hx hb dX6_writeExpression_139 rfl (lv_at hl 2 rfl) ?_
          refine lv_iload hx hb dX6_writeExpression_140 (lv_at hl 0 rfl) ?_
          refine lv_iload_n hx hb dX6_writeExpression_142 rfl (lv_at hl 4 rfl) ?_
          refine lv_iconst (v := 1) hx hb dX6_writeExpression_143 (by decide) ?_
          refine lv_iadd hx hb dX6_writeExpression_144 ?_
          obtain ⟨s_18, hc_18, hf⟩ := cals_inv hf
          refine cc_Vv (h_X6_writeExpression hc_18 l) hx hb hml hta hown hK hN hV hA hC hRc hRs (by omega) (by omega) wq_544 (q := 76) (ci := 6) rfl rfl wq_545 wq_546 wq_480 wq_547 hd_X6_writeExpression (As := [.int v_4, .int (x2 + 1)]) (rest := []) rfl rfl hl.1 rfl dX6_writeExpression_145 (fun H locs hC => ?_)
          refine lv_aload_n hx hb dX6_writeExpression_148 rfl (lv_at hl 2 rfl) ?_
          refine lv_iload_n hx hb dX6_writeExpression_149 rfl (lv_at hl 1 rfl) ?_
          obtain ⟨s_19, hc_19, hf⟩ := cals_inv hf
          refine cc_Vv (r_X6_writeSign (D := D) (y := y) (o := o) (ad := ad) (av := av) hc_19 l) hx hb hml hta hown hK hN hV hA hC hRc hRs (by omega) (by omega) wq_477 (q := 76) (ci := 6) rfl rfl wq_478 wq_479 wq_480 wq_475 hd_X6_writeSign (As := [.int v_3]) (rest := []) rfl rfl hl.1 rfl dX6_writeExpression_150 (fun H locs hC => ?_)
          refine lv_aload_n hx hb dX6_writeExpression_153 rfl (lv_at hl 2 rfl) ?_
          refine lv_aload_n hx hb dX6_writeExpression_154 rfl (lv_at hl 2 rfl) ?_
          refine gt_X6_15_pen hx hb hta hown hK hC dX6_writeExpression_155 ?_
          refine gt_X6_131_pool hx hb hta hown hK hC dX6_writeExpression_158 ?_
          refine lv_iload_n hx hb dX6_writeExpression_161 rfl (lv_at hl 3 rfl) ?_
          obtain ⟨hi_20, hf⟩ := ix_inv hf
          obtain ⟨v_20, e_20, hf⟩ := lt_inv hf
          refine al_X_45 hx hb hK hC hi_20 e_20 dX6_writeExpression_162 ?_
          refine lv_iload_n hx hb dX6_writeExpression_163 rfl (lv_at hl 4 rfl) ?_
          refine lv_iconst (v := 1) hx hb dX6_writeExpression_164 (by decide) ?_
          refine lv_iadd hx hb dX6_writeExpression_165 ?_
          obtain ⟨s_21, hc_21, hf⟩ := cals_inv hf
          refine cc_Vv (h_X6_writeExpression hc_21 l) hx hb hml hta hown hK hN hV hA hC hRc hRs (by omega) (by omega) wq_544 (q := 76) (ci := 6) rfl rfl wq_545 wq_546 wq_480 wq_547 hd_X6_writeExpression (As := [.int v_20, .int (x2 + 1)]) (rest := []) rfl rfl hl.1 rfl dX6_writeExpression_166 (fun H locs hC => ?_)
          refine lv_aload_n hx hb dX6_writeExpression_169 rfl (lv_at hl 2 rfl) ?_
          refine va_ldcS hx hb hown (ss_Rp hV 20 rfl) dX6_writeExpression_170 ?_
          obtain ⟨s_22, hc_22, hf⟩ := cals_inv hf
          refine cc_Vv (r_X6_write_s20 (D := D) (y := y) (o := o) (ad := ad) (av := av) hc_22 l) hx hb hml hta hown hK hN hV hA hC hRc hRs (by omega) (by omega) wq_541 (q := 76) (ci := 6) rfl rfl wq_542 wq_543 wq_480 wq_534 hd_X6_write (As := [.ref (ad 20)]) (rest := []) rfl rfl hl.1 rfl dX6_writeExpression_172 (fun H locs hC => ?_)
          refine lv_goto (tgt := 203) hx hb dX6_writeExpression_175 (by decide) ?_
          exact hret _ _ _ _ _ (congrArg (WX y o) (Option.some.inj hf)) dX6_writeExpression_203 hC
      · have hf := it_f c_2 hf
        exact hret _ _ _ _ _ (congrArg (WX y o) (Option.some.inj hf)) dX6_writeExpression_11 hC
theorem r_X6_writeExpression (d : Nat) {D : va_G} {y : Nat → ClassId} {o : Nat → Nat} {ad av : Nat → Nat} {x1 : Int32} {x2 : Int32} {σ : Sto} {σ2 : Sto} (hf : f_X6_writeExpression d x1 x2 σ = some σ2) (l : Launch) (sz : Nat) : Met l yX6_writeExpression (Cond.code yX6_writeExpression cX6_writeExpression 5 none :: ALW) { frames := d + 9, cells := 0, slots := 0, locals := d * 24 + 222 } (va_Pc [.ref (o 76), .int x1, .int x2] (PZ D y ad av (WX y o σ) sz)) (QZv D (WX y o σ) (WX y o σ2) sz) 0 0 (va_A (WX y o σ) sz) := (rg_X6_writeExpression d) hf l sz

set_option maxHeartbeats 8000000 in
set_option maxRecDepth 100000 in
theorem r_X6_widthOf {D : va_G} {y : Nat → ClassId} {o : Nat → Nat} {ad av : Nat → Nat} {x1 : Int32} {σ : Sto} {σ2 : Sto} {v : Int32} (hf : f_X6_widthOf x1 σ = some (v, σ2)) (l : Launch) (sz : Nat) : Met l yX6_widthOf (Cond.code yX6_widthOf cX6_widthOf 2 (some .int) :: ALW) { frames := 260, cells := 0, slots := 0, locals := 6246 } (va_Pc [.ref (o 76), .int x1] (PZ D y ad av (WX y o σ) sz)) (QZi D (WX y o σ) v (WX y o σ2) sz) 0 0 (va_A (WX y o σ) sz) := by
  refine met_i (by decide) (Nat.le_of_ble_eq_true rfl) ?_
  intro p e R s m args below meth c Q A ls hx hb hml hta hown hRc hRs hRf hRl hN hK hV hA hret hC hl
  have hl : lv_has ls 2 [(0, .ref (o 76)), (1, .int x1)] := hl
  unfold f_X6_widthOf at hf
  refine lv_aload_n hx hb dX6_widthOf_0 rfl (lv_at hl 0 rfl) ?_
  refine lv_iconst (v := 0) hx hb dX6_widthOf_1 (by decide) ?_
  obtain ⟨s_1, e_1, hf⟩ := lt_inv hf
  refine pt_X6_27_pen hx hb hta hown hK hC e_1 dX6_widthOf_2 (fun H locs hC => ?_)
  refine lv_aload_n hx hb dX6_widthOf_5 rfl (lv_at hl 0 rfl) ?_
  refine lv_iload_n hx hb dX6_widthOf_6 rfl (lv_at hl 1 rfl) ?_
  refine lv_iconst (v := 0) hx hb dX6_widthOf_7 (by decide) ?_
  obtain ⟨s_2, hc_2, hf⟩ := cals_inv hf
  refine cc_Vv (r_X6_writeExpression 250 (D := D) (y := y) (o := o) (ad := ad) (av := av) hc_2 l) hx hb hml hta hown hK hN hV hA hC hRc hRs (by omega) (by omega) wq_544 (q := 76) (ci := 6) rfl rfl wq_545 wq_546 wq_480 wq_547 hd_X6_writeExpression (As := [.int x1, .int 0]) (rest := []) rfl rfl hl.1 rfl dX6_widthOf_8 (fun H locs hC => ?_)
  refine lv_aload_n hx hb dX6_widthOf_11 rfl (lv_at hl 0 rfl) ?_
  refine gt_X6_27_pen hx hb hta hown hK hC dX6_widthOf_12 ?_
  exact hret _ _ _ _ _ _ (rv_inv hf).1 (congrArg (WX y o) (rv_inv hf).2) rfl dX6_widthOf_15 hC

set_option maxHeartbeats 8000000 in
set_option maxRecDepth 100000 in
theorem r_X11_statement {D : va_G} {y : Nat → ClassId} {o : Nat → Nat} {ad av : Nat → Nat} {x1 : Int32} {x2 : Int32} {x3 : Int32} {σ : Sto} {σ2 : Sto} {v : Int32} (hf : f_X11_statement x1 x2 x3 σ = some (v, σ2)) (l : Launch) (sz : Nat) : Met l yX11_statement (Cond.code yX11_statement cX11_statement 6 (some .int) :: ALW) { frames := 261, cells := 0, slots := 0, locals := 6267 } (va_Pc [.ref (o 0), .int x1, .int x2, .int x3] (PZ D y ad av (WX y o σ) sz)) (QZi D (WX y o σ) v (WX y o σ2) sz) 0 0 (va_A (WX y o σ) sz) := by
  refine met_i (by decide) (Nat.le_of_ble_eq_true rfl) ?_
  intro p e R s m args below meth c Q A ls hx hb hml hta hown hRc hRs hRf hRl hN hK hV hA hret hC hl
  have hl : lv_has ls 6 [(0, .ref (o 0)), (1, .int x1), (2, .int x2), (3, .int x3)] := hl
  unfold f_X11_statement at hf
  refine lv_aload_n hx hb dX11_statement_0 rfl (lv_at hl 0 rfl) ?_
  refine lv_iload_n hx hb dX11_statement_1 rfl (lv_at hl 1 rfl) ?_
  obtain ⟨v_1, hc_1, hf⟩ := calp_inv hf
  refine cc_Vi (r_X11_isBlock (D := D) (y := y) (o := o) (ad := ad) (av := av) hc_1 l) hx hb hml hta hown hK hN hV hA hC hRc hRs (by omega) (by omega) wq_848 (q := 0) (ci := 11) rfl rfl wq_849 wq_850 wq_38 wq_839 hd_X11_isBlock (As := [.int x1]) (rest := []) rfl rfl hl.1 rfl dX11_statement_2 (fun H locs hC => ?_)
  refine lv_if_eq (tgt := 37) hx hb dX11_statement_5 (by decide) (fun c_2 => ?_) (fun c_2 => ?_)
  · have hf := it_t c_2 hf
    refine lv_ldc hx hb hown (hta _ wq_820) dX11_statement_37 ?_
    exact hret _ _ _ _ _ _ (rv_inv hf).1 (congrArg (WX y o) (rv_inv hf).2) rfl dX11_statement_39 hC
  · have hf := it_f c_2 hf
    refine lv_iload_n hx hb dX11_statement_8 rfl (lv_at hl 2 rfl) ?_
    refine lv_if_lt (tgt := 37) hx hb dX11_statement_9 (by decide) (fun c_3 => ?_) (fun c_3 => ?_)
    · have hf := it_t c_3 hf
      refine lv_ldc hx hb hown (hta _ wq_820) dX11_statement_37 ?_
      exact hret _ _ _ _ _ _ (rv_inv hf).1 (congrArg (WX y o) (rv_inv hf).2) rfl dX11_statement_39 hC
    · have hf := it_f c_3 hf
      refine lv_iload_n hx hb dX11_statement_12 rfl (lv_at hl 2 rfl) ?_
      refine lv_aload_n hx hb dX11_statement_13 rfl (lv_at hl 0 rfl) ?_
      refine gt_X11_56_cl hx hb hta hown hK hC dX11_statement_14 ?_
      refine gt_X11_240_lifted hx hb hta hown hK hC dX11_statement_17 ?_
      refine lv_iload_n hx hb dX11_statement_20 rfl (lv_at hl 1 rfl) ?_
      refine lv_iconst (v := 1) hx hb dX11_statement_21 (by decide) ?_
      refine lv_iadd hx hb dX11_statement_22 ?_
      obtain ⟨hi_4, hf⟩ := ix_inv hf
      obtain ⟨v_4, e_4, hf⟩ := lt_inv hf
      refine al_X_52 hx hb hK hC hi_4 e_4 dX11_statement_23 ?_
      refine lv_aload_n hx hb dX11_statement_24 rfl (lv_at hl 0 rfl) ?_
      refine gt_X11_56_cl hx hb hta hown hK hC dX11_statement_25 ?_
      refine gt_X11_240_lifted hx hb hta hown hK hC dX11_statement_28 ?_
      refine lv_iload_n hx hb dX11_statement_31 rfl (lv_at hl 1 rfl) ?_
      obtain ⟨hi_5, hf⟩ := ix_inv hf
      obtain ⟨v_5, e_5, hf⟩ := lt_inv hf
      refine al_X_52 hx hb hK hC hi_5 e_5 dX11_statement_32 ?_
      refine lv_isub hx hb dX11_statement_33 ?_
      refine lv_icmp_lt (tgt := 40) hx hb dX11_statement_34 (by decide) (fun c_6 => ?_) (fun c_6 => ?_)
      · have hf := it_t c_6 hf
        refine lv_aload_n hx hb dX11_statement_40 rfl (lv_at hl 0 rfl) ?_
        refine gt_X11_56_cl hx hb hta hown hK hC dX11_statement_41 ?_
        refine gt_X11_240_lifted hx hb hta hown hK hC dX11_statement_44 ?_
        refine lv_iload_n hx hb dX11_statement_47 rfl (lv_at hl 1 rfl) ?_
        obtain ⟨hi_7, hf⟩ := ix_inv hf
        obtain ⟨v_7, e_7, hf⟩ := lt_inv hf
        refine al_X_52 hx hb hK hC hi_7 e_7 dX11_statement_48 ?_
        refine lv_iload_n hx hb dX11_statement_49 rfl (lv_at hl 2 rfl) ?_
        refine lv_iadd hx hb dX11_statement_50 ?_
        obtain ⟨x4_8, e_8, hf⟩ := lt_inv hf
        refine nmi e_8 ?_
        refine lv_istore (lv' := [(4, .int x4_8), (0, .ref (o 0)), (1, .int x1), (2, .int x2), (3, .int x3)]) hx hb dX11_statement_51 hl (by decide) rfl (fun ls hl => ?_)
        refine lv_aload_n hx hb dX11_statement_53 rfl (lv_at hl 1 rfl) ?_
        refine gt_X11_56_cl hx hb hta hown hK hC dX11_statement_54 ?_
        refine gt_X11_275_lifted hx hb hta hown hK hC dX11_statement_57 ?_
        refine lv_iload hx hb dX11_statement_60 (lv_at hl 0 rfl) ?_
        obtain ⟨hi_9, hf⟩ := ix_inv hf
        obtain ⟨v_9, e_9, hf⟩ := lt_inv hf
        refine al_X_51 hx hb hK hC hi_9 e_9 dX11_statement_62 ?_
        refine lv_istore (lv' := [(5, .int v_9), (4, .int x4_8), (0, .ref (o 0)), (1, .int x1), (2, .int x2), (3, .int x3)]) hx hb dX11_statement_63 hl (by decide) rfl (fun ls hl => ?_)
        refine lv_iload_n hx hb dX11_statement_65 rfl (lv_at hl 5 rfl) ?_
        by_cases h_10_0 : x3.toInt = 0
        · have hf := it_t h_10_0 hf
          refine lv_tab (tgt := 100) hx hb dX11_statement_66 (Or.inr ⟨34, by omega, by omega, by (rw [h_10_0]; decide), by decide⟩) ?_
          refine lv_aload_n hx hb dX11_statement_100 rfl (lv_at hl 2 rfl) ?_
          refine gt_X11_56_cl hx hb hta hown hK hC dX11_statement_101 ?_
          refine gt_X11_278_lifted hx hb hta hown hK hC dX11_statement_104 ?_
          refine lv_iload hx hb dX11_statement_107 (lv_at hl 1 rfl) ?_
          obtain ⟨hi_11, hf⟩ := ix_inv hf
          obtain ⟨v_11, e_11, hf⟩ := lt_inv hf
          refine al_X_49 hx hb hK hC hi_11 e_11 dX11_statement_109 ?_
          exact hret _ _ _ _ _ _ (rv_inv hf).1 (congrArg (WX y o) (rv_inv hf).2) rfl dX11_statement_110 hC
        have hf := it_f h_10_0 hf
        by_cases h_10_1 : x3.toInt = 1
        · have hf := it_t h_10_1 hf
          refine lv_tab (tgt := 111) hx hb dX11_statement_66 (Or.inr ⟨45, by omega, by omega, by (rw [h_10_1]; decide), by decide⟩) ?_
          refine lv_aload_n hx hb dX11_statement_111 rfl (lv_at hl 2 rfl) ?_
          refine gt_X11_56_cl hx hb hta hown hK hC dX11_statement_112 ?_
          refine gt_X11_281_lifted hx hb hta hown hK hC dX11_statement_115 ?_
          refine lv_iload hx hb dX11_statement_118 (lv_at hl 1 rfl) ?_
          obtain ⟨hi_12, hf⟩ := ix_inv hf
          obtain ⟨v_12, e_12, hf⟩ := lt_inv hf
          refine al_X_50 hx hb hK hC hi_12 e_12 dX11_statement_120 ?_
          exact hret _ _ _ _ _ _ (rv_inv hf).1 (congrArg (WX y o) (rv_inv hf).2) rfl dX11_statement_121 hC
        have hf := it_f h_10_1 hf
        by_cases h_10_2 : x3.toInt = 2
        · have hf := it_t h_10_2 hf
          refine lv_tab (tgt := 122) hx hb dX11_statement_66 (Or.inr ⟨56, by omega, by omega, by (rw [h_10_2]; decide), by decide⟩) ?_
          refine lv_iload hx hb dX11_statement_122 (lv_at hl 0 rfl) ?_
          refine lv_iconst (v := (-1)) hx hb dX11_statement_124 (by decide) ?_
          refine lv_icmp_ne (tgt := 132) hx hb dX11_statement_125 (by decide) (fun c_13 => ?_) (fun c_13 => ?_)
          · have hf := it_f c_13 hf
            refine lv_aload_n hx hb dX11_statement_132 rfl (lv_at hl 2 rfl) ?_
            refine gt_X11_101_cl hx hb hta hown hK hC dX11_statement_133 ?_
            refine lv_iload hx hb dX11_statement_136 (lv_at hl 0 rfl) ?_
            obtain ⟨v_14, s_14, hc_14, hf⟩ := calv_inv hf
            refine cc_Vi (r_X6_widthOf (D := D) (y := y) (o := o) (ad := ad) (av := av) hc_14 l) hx hb hml hta hown hK hN hV hA hC hRc hRs (by omega) (by omega) wq_871 (q := 76) (ci := 6) rfl rfl wq_872 wq_873 wq_480 wq_548 hd_X6_widthOf (As := [.int v_9]) (rest := []) rfl rfl hl.1 rfl dX11_statement_138 (fun H locs hC => ?_)
            exact hret _ _ _ _ _ _ (rv_inv hf).1 (congrArg (WX y o) (rv_inv hf).2) rfl dX11_statement_141 hC
          · have hf := it_t c_13 hf
            refine lv_iconst (v := 0) hx hb dX11_statement_128 (by decide) ?_
            refine lv_goto (tgt := 141) hx hb dX11_statement_129 (by decide) ?_
            exact hret _ _ _ _ _ _ (rv_inv hf).1 (congrArg (WX y o) (rv_inv hf).2) rfl dX11_statement_141 hC
        have hf := it_f h_10_2 hf
        by_cases h_10_3 : x3.toInt = 3
        · have hf := it_t h_10_3 hf
          refine lv_tab (tgt := 142) hx hb dX11_statement_66 (Or.inr ⟨76, by omega, by omega, by (rw [h_10_3]; decide), by decide⟩) ?_
          refine lv_iload hx hb dX11_statement_142 (lv_at hl 0 rfl) ?_
          refine lv_iconst (v := (-1)) hx hb dX11_statement_144 (by decide) ?_
          obtain ⟨k_164, hk_164, hf⟩ := jn_inv0 hf
          have hj_164 : ∀  (H : Heap) (locs : List Loc) (ls : Array Slot), k_164 = some (v, σ2) → CZ D A s H locs (WX y o σ) → lv_has ls 6 [] → W p l e R s m args below meth c H locs 0 0 Q (F0 m 164 ls []) := by
            intro H locs ls hf hC hl
            have hf := hk_164 hf
            refine lv_iconst (v := 0) hx hb dX11_statement_164 (by decide) ?_
            exact hret _ _ _ _ _ _ (rv_inv hf).1 (congrArg (WX y o) (rv_inv hf).2) rfl dX11_statement_165 hC
          refine lv_icmp_eq (tgt := 164) hx hb dX11_statement_145 (by decide) (fun c_16 => ?_) (fun c_16 => ?_)
          · have hf := it_t c_16 hf
            exact hj_164 _ _ _ hf hC (lv_sub hl [] rfl)
          · have hf := it_f c_16 hf
            refine lv_aload_n hx hb dX11_statement_148 rfl (lv_at hl 2 rfl) ?_
            refine gt_X11_47_cl hx hb hta hown hK hC dX11_statement_149 ?_
            refine lv_iload hx hb dX11_statement_152 (lv_at hl 0 rfl) ?_
            obtain ⟨v_17, hc_17, hf⟩ := calp_inv hf
            refine cc_Vi (r_X7_hasEffects (D := D) (y := y) (o := o) (ad := ad) (av := av) hc_17 l) hx hb hml hta hown hK hN hV hA hC hRc hRs (by omega) (by omega) wq_874 (q := 42) (ci := 7) rfl rfl wq_136 wq_137 wq_124 wq_134 hd_X7_hasEffects (As := [.int v_9]) (rest := []) rfl rfl hl.1 rfl dX11_statement_154 (fun H locs hC => ?_)
            refine lv_if_eq (tgt := 164) hx hb dX11_statement_157 (by decide) (fun c_18 => ?_) (fun c_18 => ?_)
            · have hf := it_t c_18 hf
              exact hj_164 _ _ _ hf hC (lv_sub hl [] rfl)
            · have hf := it_f c_18 hf
              refine lv_iconst (v := 1) hx hb dX11_statement_160 (by decide) ?_
              refine lv_goto (tgt := 165) hx hb dX11_statement_161 (by decide) ?_
              exact hret _ _ _ _ _ _ (rv_inv hf).1 (congrArg (WX y o) (rv_inv hf).2) rfl dX11_statement_165 hC
        have hf := it_f h_10_3 hf
        by_cases h_10_4 : x3.toInt = 4
        · have hf := it_t h_10_4 hf
          refine lv_tab (tgt := 166) hx hb dX11_statement_66 (Or.inr ⟨100, by omega, by omega, by (rw [h_10_4]; decide), by decide⟩) ?_
          refine lv_iload hx hb dX11_statement_166 (lv_at hl 0 rfl) ?_
          refine lv_iconst (v := (-1)) hx hb dX11_statement_168 (by decide) ?_
          refine lv_icmp_ne (tgt := 176) hx hb dX11_statement_169 (by decide) (fun c_19 => ?_) (fun c_19 => ?_)
          · have hf := it_f c_19 hf
            refine lv_aload_n hx hb dX11_statement_176 rfl (lv_at hl 2 rfl) ?_
            refine gt_X11_47_cl hx hb hta hown hK hC dX11_statement_177 ?_
            refine gt_X11_290_pool hx hb hta hown hK hC dX11_statement_180 ?_
            refine lv_iload hx hb dX11_statement_183 (lv_at hl 0 rfl) ?_
            obtain ⟨hi_20, hf⟩ := ix_inv hf
            obtain ⟨v_20, e_20, hf⟩ := lt_inv hf
            refine al_X_46 hx hb hK hC hi_20 e_20 dX11_statement_185 ?_
            exact hret _ _ _ _ _ _ (rv_inv hf).1 (congrArg (WX y o) (rv_inv hf).2) rfl dX11_statement_186 hC
          · have hf := it_t c_19 hf
            refine lv_iconst (v := 0) hx hb dX11_statement_172 (by decide) ?_
            refine lv_goto (tgt := 186) hx hb dX11_statement_173 (by decide) ?_
            exact hret _ _ _ _ _ _ (rv_inv hf).1 (congrArg (WX y o) (rv_inv hf).2) rfl dX11_statement_186 hC
        have hf := it_f h_10_4 hf
        refine lv_tab (tgt := 187) hx hb dX11_statement_66 (Or.inl ⟨by omega, by decide⟩) ?_
        refine lv_ldc hx hb hown (hta _ wq_820) dX11_statement_187 ?_
        exact hret _ _ _ _ _ _ (rv_inv hf).1 (congrArg (WX y o) (rv_inv hf).2) rfl dX11_statement_189 hC
      · have hf := it_f c_6 hf
        refine lv_ldc hx hb hown (hta _ wq_820) dX11_statement_37 ?_
        exact hret _ _ _ _ _ _ (rv_inv hf).1 (congrArg (WX y o) (rv_inv hf).2) rfl dX11_statement_39 hC

set_option maxHeartbeats 8000000 in
set_option maxRecDepth 100000 in
theorem r_X6_signAt {D : va_G} {y : Nat → ClassId} {o : Nat → Nat} {ad av : Nat → Nat} {x1 : Int32} {σ : Sto} {v : Int32} (hf : f_X6_signAt x1 σ = some v) (l : Launch) (sz : Nat) : Met l yX6_signAt (Cond.code yX6_signAt cX6_signAt 2 (some .int) :: ALW) { frames := 0, cells := 0, slots := 0, locals := 0 } (va_Pc [.ref (o 76), .int x1] (PZ D y ad av (WX y o σ) sz)) (QZi D (WX y o σ) v (WX y o σ) sz) 0 0 (va_A (WX y o σ) sz) := by
  refine met_i (by decide) (Nat.le_of_ble_eq_true rfl) ?_
  intro p e R s m args below meth c Q A ls hx hb hml hta hown hRc hRs hRf hRl hN hK hV hA hret hC hl
  have hl : lv_has ls 2 [(0, .ref (o 76)), (1, .int x1)] := hl
  unfold f_X6_signAt at hf
  refine lv_iload_n hx hb dX6_signAt_0 rfl (lv_at hl 1 rfl) ?_
  obtain ⟨k_28, hk_28, hf⟩ := jn_inv0 hf
  have hj_28 : ∀  (H : Heap) (locs : List Loc) (ls : Array Slot), k_28 = some v → CZ D A s H locs (WX y o σ) → lv_has ls 2 [] → W p l e R s m args below meth c H locs 0 0 Q (F0 m 28 ls []) := by
    intro H locs ls hf hC hl
    have hf := hk_28 hf
    refine lv_iconst (v := (-1)) hx hb dX6_signAt_28 (by decide) ?_
    exact hret _ _ _ _ _ _ (Option.some.inj hf) rfl rfl dX6_signAt_29 hC
  refine lv_if_lt (tgt := 28) hx hb dX6_signAt_1 (by decide) (fun c_2 => ?_) (fun c_2 => ?_)
  · have hf := it_t c_2 hf
    exact hj_28 _ _ _ hf hC (lv_sub hl [] rfl)
  · have hf := it_f c_2 hf
    refine lv_iload_n hx hb dX6_signAt_4 rfl (lv_at hl 1 rfl) ?_
    refine lv_aload_n hx hb dX6_signAt_5 rfl (lv_at hl 0 rfl) ?_
    refine gt_X6_27_pen hx hb hta hown hK hC dX6_signAt_6 ?_
    refine lv_icmp_ge (tgt := 28) hx hb dX6_signAt_9 (by decide) (fun c_3 => ?_) (fun c_3 => ?_)
    · have hf := it_t c_3 hf
      exact hj_28 _ _ _ hf hC (lv_sub hl [] rfl)
    · have hf := it_f c_3 hf
      refine lv_iload_n hx hb dX6_signAt_12 rfl (lv_at hl 1 rfl) ?_
      refine lv_sipush (v := 400) hx hb dX6_signAt_13 (by decide) ?_
      refine lv_icmp_ge (tgt := 28) hx hb dX6_signAt_16 (by decide) (fun c_4 => ?_) (fun c_4 => ?_)
      · have hf := it_t c_4 hf
        exact hj_28 _ _ _ hf hC (lv_sub hl [] rfl)
      · have hf := it_f c_4 hf
        refine lv_aload_n hx hb dX6_signAt_19 rfl (lv_at hl 0 rfl) ?_
        refine gt_X6_9_pen hx hb hta hown hK hC dX6_signAt_20 ?_
        refine lv_iload_n hx hb dX6_signAt_23 rfl (lv_at hl 1 rfl) ?_
        obtain ⟨hi_5, hf⟩ := ix_inv hf
        obtain ⟨v_5, e_5, hf⟩ := lt_inv hf
        refine al_X_77 hx hb hK hC hi_5 e_5 dX6_signAt_24 ?_
        refine lv_goto (tgt := 29) hx hb dX6_signAt_25 (by decide) ?_
        exact hret _ _ _ _ _ _ (Option.some.inj hf) rfl rfl dX6_signAt_29 hC

set_option maxHeartbeats 8000000 in
set_option maxRecDepth 100000 in
theorem r_X11_condition {D : va_G} {y : Nat → ClassId} {o : Nat → Nat} {ad av : Nat → Nat} {x1 : Int32} {x2 : Int32} {σ : Sto} {σ2 : Sto} {v : Int32} (hf : f_X11_condition x1 x2 σ = some (v, σ2)) (l : Launch) (sz : Nat) : Met l yX11_condition (Cond.code yX11_condition cX11_condition 4 (some .int) :: ALW) { frames := 261, cells := 0, slots := 0, locals := 6267 } (va_Pc [.ref (o 0), .int x1, .int x2] (PZ D y ad av (WX y o σ) sz)) (QZi D (WX y o σ) v (WX y o σ2) sz) 0 0 (va_A (WX y o σ) sz) := by
  refine met_i (by decide) (Nat.le_of_ble_eq_true rfl) ?_
  intro p e R s m args below meth c Q A ls hx hb hml hta hown hRc hRs hRf hRl hN hK hV hA hret hC hl
  have hl : lv_has ls 4 [(0, .ref (o 0)), (1, .int x1), (2, .int x2)] := hl
  unfold f_X11_condition at hf
  refine lv_aload_n hx hb dX11_condition_0 rfl (lv_at hl 0 rfl) ?_
  refine lv_iload_n hx hb dX11_condition_1 rfl (lv_at hl 1 rfl) ?_
  obtain ⟨v_1, hc_1, hf⟩ := calp_inv hf
  refine cc_Vi (r_X11_isBlock (D := D) (y := y) (o := o) (ad := ad) (av := av) hc_1 l) hx hb hml hta hown hK hN hV hA hC hRc hRs (by omega) (by omega) wq_848 (q := 0) (ci := 11) rfl rfl wq_849 wq_850 wq_38 wq_839 hd_X11_isBlock (As := [.int x1]) (rest := []) rfl rfl hl.1 rfl dX11_condition_2 (fun H locs hC => ?_)
  refine lv_if_eq (tgt := 21) hx hb dX11_condition_5 (by decide) (fun c_2 => ?_) (fun c_2 => ?_)
  · have hf := it_t c_2 hf
    refine lv_iconst (v := (-1)) hx hb dX11_condition_21 (by decide) ?_
    exact hret _ _ _ _ _ _ (rv_inv hf).1 (congrArg (WX y o) (rv_inv hf).2) rfl dX11_condition_22 hC
  · have hf := it_f c_2 hf
    refine lv_aload_n hx hb dX11_condition_8 rfl (lv_at hl 0 rfl) ?_
    refine gt_X11_56_cl hx hb hta hown hK hC dX11_condition_9 ?_
    refine gt_X11_293_lifted hx hb hta hown hK hC dX11_condition_12 ?_
    refine lv_iload_n hx hb dX11_condition_15 rfl (lv_at hl 1 rfl) ?_
    obtain ⟨hi_3, hf⟩ := ix_inv hf
    obtain ⟨v_3, e_3, hf⟩ := lt_inv hf
    refine al_X_53 hx hb hK hC hi_3 e_3 dX11_condition_16 ?_
    refine lv_iconst (v := (-1)) hx hb dX11_condition_17 (by decide) ?_
    refine lv_icmp_ne (tgt := 23) hx hb dX11_condition_18 (by decide) (fun c_4 => ?_) (fun c_4 => ?_)
    · have hf := it_f c_4 hf
      refine lv_aload_n hx hb dX11_condition_23 rfl (lv_at hl 0 rfl) ?_
      refine gt_X11_101_cl hx hb hta hown hK hC dX11_condition_24 ?_
      refine lv_aload_n hx hb dX11_condition_27 rfl (lv_at hl 0 rfl) ?_
      refine gt_X11_56_cl hx hb hta hown hK hC dX11_condition_28 ?_
      refine gt_X11_293_lifted hx hb hta hown hK hC dX11_condition_31 ?_
      refine lv_iload_n hx hb dX11_condition_34 rfl (lv_at hl 1 rfl) ?_
      obtain ⟨hi_5, hf⟩ := ix_inv hf
      obtain ⟨v_5, e_5, hf⟩ := lt_inv hf
      refine al_X_53 hx hb hK hC hi_5 e_5 dX11_condition_35 ?_
      obtain ⟨v_6, s_6, hc_6, hf⟩ := calv_inv hf
      refine cc_Vi (r_X6_widthOf (D := D) (y := y) (o := o) (ad := ad) (av := av) hc_6 l) hx hb hml hta hown hK hN hV hA hC hRc hRs (by omega) (by omega) wq_871 (q := 76) (ci := 6) rfl rfl wq_872 wq_873 wq_480 wq_548 hd_X6_widthOf (As := [.int v_5]) (rest := []) rfl rfl hl.1 rfl dX11_condition_36 (fun H locs hC => ?_)
      refine lv_istore_n (lv' := [(3, .int v_6), (0, .ref (o 0)), (1, .int x1), (2, .int x2)]) hx hb dX11_condition_39 rfl hl (by decide) rfl (fun ls hl => ?_)
      refine lv_iload_n hx hb dX11_condition_40 rfl (lv_at hl 3 rfl) ?_
      refine lv_iconst (v := (-1)) hx hb dX11_condition_41 (by decide) ?_
      refine lv_icmp_ne (tgt := 49) hx hb dX11_condition_42 (by decide) (fun c_7 => ?_) (fun c_7 => ?_)
      · have hf := it_f c_7 hf
        refine lv_aload_n hx hb dX11_condition_49 rfl (lv_at hl 1 rfl) ?_
        refine gt_X11_101_cl hx hb hta hown hK hC dX11_condition_50 ?_
        refine lv_iload_n hx hb dX11_condition_53 rfl (lv_at hl 3 rfl) ?_
        obtain ⟨v_8, hc_8, hf⟩ := calp_inv hf
        refine cc_Vi (r_X6_signAt (D := D) (y := y) (o := o) (ad := ad) (av := av) hc_8 l) hx hb hml hta hown hK hN hV hA hC hRc hRs (by omega) (by omega) wq_877 (q := 76) (ci := 6) rfl rfl wq_878 wq_879 wq_480 wq_473 hd_X6_signAt (As := [.int x2]) (rest := []) rfl rfl hl.1 rfl dX11_condition_54 (fun H locs hC => ?_)
        exact hret _ _ _ _ _ _ (rv_inv hf).1 (congrArg (WX y o) (rv_inv hf).2) rfl dX11_condition_57 hC
      · have hf := it_t c_7 hf
        refine lv_iload_n hx hb dX11_condition_45 rfl (lv_at hl 0 rfl) ?_
        refine lv_goto (tgt := 57) hx hb dX11_condition_46 (by decide) ?_
        exact hret _ _ _ _ _ _ (rv_inv hf).1 (congrArg (WX y o) (rv_inv hf).2) rfl dX11_condition_57 hC
    · have hf := it_t c_4 hf
      refine lv_iconst (v := (-1)) hx hb dX11_condition_21 (by decide) ?_
      exact hret _ _ _ _ _ _ (rv_inv hf).1 (congrArg (WX y o) (rv_inv hf).2) rfl dX11_condition_22 hC

set_option maxHeartbeats 8000000 in
set_option maxRecDepth 100000 in
theorem r_X11_isLine {D : va_G} {y : Nat → ClassId} {o : Nat → Nat} {ad av : Nat → Nat} {x1 : Int32} {σ : Sto} {v : Int32} (hf : f_X11_isLine x1 σ = some v) (l : Launch) (sz : Nat) : Met l yX11_isLine (Cond.code yX11_isLine cX11_isLine 2 (some .boolean) :: ALW) { frames := 0, cells := 0, slots := 0, locals := 0 } (va_Pc [.ref (o 0), .int x1] (PZ D y ad av (WX y o σ) sz)) (QZi D (WX y o σ) v (WX y o σ) sz) 0 0 (va_A (WX y o σ) sz) := by
  refine met_i (by decide) (Nat.le_of_ble_eq_true rfl) ?_
  intro p e R s m args below meth c Q A ls hx hb hml hta hown hRc hRs hRf hRl hN hK hV hA hret hC hl
  have hl : lv_has ls 2 [(0, .ref (o 0)), (1, .int x1)] := hl
  unfold f_X11_isLine at hf
  refine lv_aload_n hx hb dX11_isLine_0 rfl (lv_at hl 0 rfl) ?_
  refine gt_X11_105_cl hx hb hta hown hK hC dX11_isLine_1 ?_
  obtain ⟨k_36, hk_36, hf⟩ := jn_inv0 hf
  have hj_36 : ∀  (H : Heap) (locs : List Loc) (ls : Array Slot), k_36 = some v → CZ D A s H locs (WX y o σ) → lv_has ls 2 [] → W p l e R s m args below meth c H locs 0 0 Q (F0 m 36 ls []) := by
    intro H locs ls hf hC hl
    have hf := hk_36 hf
    refine lv_iconst (v := 0) hx hb dX11_isLine_36 (by decide) ?_
    exact hret _ _ _ _ _ _ (Option.some.inj hf) rfl rfl dX11_isLine_37 hC
  refine lv_if_eq (tgt := 36) hx hb dX11_isLine_4 (by decide) (fun c_2 => ?_) (fun c_2 => ?_)
  · have hf := it_t c_2 hf
    exact hj_36 _ _ _ hf hC (lv_sub hl [] rfl)
  · have hf := it_f c_2 hf
    refine lv_aload_n hx hb dX11_isLine_7 rfl (lv_at hl 0 rfl) ?_
    refine gt_X11_40_cl hx hb hta hown hK hC dX11_isLine_8 ?_
    refine gt_X11_173_shape hx hb hta hown hK hC dX11_isLine_11 ?_
    refine lv_if_ne (tgt := 36) hx hb dX11_isLine_14 (by decide) (fun c_3 => ?_) (fun c_3 => ?_)
    · have hf := it_f c_3 hf
      exact hj_36 _ _ _ hf hC (lv_sub hl [] rfl)
    · have hf := it_t c_3 hf
      refine lv_iload_n hx hb dX11_isLine_17 rfl (lv_at hl 1 rfl) ?_
      refine lv_if_lt (tgt := 36) hx hb dX11_isLine_18 (by decide) (fun c_4 => ?_) (fun c_4 => ?_)
      · have hf := it_t c_4 hf
        exact hj_36 _ _ _ hf hC (lv_sub hl [] rfl)
      · have hf := it_f c_4 hf
        refine lv_iload_n hx hb dX11_isLine_21 rfl (lv_at hl 1 rfl) ?_
        refine lv_aload_n hx hb dX11_isLine_22 rfl (lv_at hl 0 rfl) ?_
        refine gt_X11_83_cl hx hb hta hown hK hC dX11_isLine_23 ?_
        refine gt_X11_182_lines hx hb hta hown hK hC dX11_isLine_26 ?_
        refine lv_icmp_ge (tgt := 36) hx hb dX11_isLine_29 (by decide) (fun c_5 => ?_) (fun c_5 => ?_)
        · have hf := it_t c_5 hf
          exact hj_36 _ _ _ hf hC (lv_sub hl [] rfl)
        · have hf := it_f c_5 hf
          refine lv_iconst (v := 1) hx hb dX11_isLine_32 (by decide) ?_
          refine lv_goto (tgt := 37) hx hb dX11_isLine_33 (by decide) ?_
          exact hret _ _ _ _ _ _ (Option.some.inj hf) rfl rfl dX11_isLine_37 hC

set_option maxHeartbeats 8000000 in
set_option maxRecDepth 100000 in
theorem r_X11_line {D : va_G} {y : Nat → ClassId} {o : Nat → Nat} {ad av : Nat → Nat} {x1 : Int32} {x2 : Int32} {σ : Sto} {v : Int32} (hf : f_X11_line x1 x2 σ = some v) (l : Launch) (sz : Nat) : Met l yX11_line (Cond.code yX11_line cX11_line 3 (some .int) :: ALW) { frames := 1, cells := 0, slots := 0, locals := 21 } (va_Pc [.ref (o 0), .int x1, .int x2] (PZ D y ad av (WX y o σ) sz)) (QZi D (WX y o σ) v (WX y o σ) sz) 0 0 (va_A (WX y o σ) sz) := by
  refine met_i (by decide) (Nat.le_of_ble_eq_true rfl) ?_
  intro p e R s m args below meth c Q A ls hx hb hml hta hown hRc hRs hRf hRl hN hK hV hA hret hC hl
  have hl : lv_has ls 3 [(0, .ref (o 0)), (1, .int x1), (2, .int x2)] := hl
  unfold f_X11_line at hf
  refine lv_aload_n hx hb dX11_line_0 rfl (lv_at hl 0 rfl) ?_
  refine lv_iload_n hx hb dX11_line_1 rfl (lv_at hl 1 rfl) ?_
  obtain ⟨v_1, hc_1, hf⟩ := calp_inv hf
  refine cc_Vi (r_X11_isLine (D := D) (y := y) (o := o) (ad := ad) (av := av) hc_1 l) hx hb hml hta hown hK hN hV hA hC hRc hRs (by omega) (by omega) wq_886 (q := 0) (ci := 11) rfl rfl wq_887 wq_888 wq_38 wq_881 hd_X11_isLine (As := [.int x1]) (rest := []) rfl rfl hl.1 rfl dX11_line_2 (fun H locs hC => ?_)
  refine lv_if_ne (tgt := 11) hx hb dX11_line_5 (by decide) (fun c_2 => ?_) (fun c_2 => ?_)
  · have hf := it_f c_2 hf
    refine lv_iload_n hx hb dX11_line_11 rfl (lv_at hl 2 rfl) ?_
    by_cases h_3_0 : x2.toInt = 0
    · have hf := it_t h_3_0 hf
      refine lv_tab (tgt := 40) hx hb dX11_line_12 (Or.inr ⟨28, by omega, by omega, by (rw [h_3_0]; decide), by decide⟩) ?_
      refine lv_aload_n hx hb dX11_line_40 rfl (lv_at hl 0 rfl) ?_
      refine gt_X11_83_cl hx hb hta hown hK hC dX11_line_41 ?_
      refine gt_X11_302_lines hx hb hta hown hK hC dX11_line_44 ?_
      refine lv_iload_n hx hb dX11_line_47 rfl (lv_at hl 1 rfl) ?_
      obtain ⟨hi_4, hf⟩ := ix_inv hf
      obtain ⟨v_4, e_4, hf⟩ := lt_inv hf
      refine al_X_64 hx hb hK hC hi_4 e_4 dX11_line_48 ?_
      exact hret _ _ _ _ _ _ (Option.some.inj hf) rfl rfl dX11_line_49 hC
    have hf := it_f h_3_0 hf
    by_cases h_3_1 : x2.toInt = 1
    · have hf := it_t h_3_1 hf
      refine lv_tab (tgt := 50) hx hb dX11_line_12 (Or.inr ⟨38, by omega, by omega, by (rw [h_3_1]; decide), by decide⟩) ?_
      refine lv_aload_n hx hb dX11_line_50 rfl (lv_at hl 0 rfl) ?_
      refine gt_X11_83_cl hx hb hta hown hK hC dX11_line_51 ?_
      refine gt_X11_303_lines hx hb hta hown hK hC dX11_line_54 ?_
      refine lv_iload_n hx hb dX11_line_57 rfl (lv_at hl 1 rfl) ?_
      obtain ⟨hi_5, hf⟩ := ix_inv hf
      obtain ⟨v_5, e_5, hf⟩ := lt_inv hf
      refine al_X_65 hx hb hK hC hi_5 e_5 dX11_line_58 ?_
      exact hret _ _ _ _ _ _ (Option.some.inj hf) rfl rfl dX11_line_59 hC
    have hf := it_f h_3_1 hf
    by_cases h_3_2 : x2.toInt = 2
    · have hf := it_t h_3_2 hf
      refine lv_tab (tgt := 60) hx hb dX11_line_12 (Or.inr ⟨48, by omega, by omega, by (rw [h_3_2]; decide), by decide⟩) ?_
      refine lv_aload_n hx hb dX11_line_60 rfl (lv_at hl 0 rfl) ?_
      refine gt_X11_83_cl hx hb hta hown hK hC dX11_line_61 ?_
      refine gt_X11_306_lines hx hb hta hown hK hC dX11_line_64 ?_
      refine lv_iload_n hx hb dX11_line_67 rfl (lv_at hl 1 rfl) ?_
      obtain ⟨hi_6, hf⟩ := ix_inv hf
      obtain ⟨v_6, e_6, hf⟩ := lt_inv hf
      refine al_X_66 hx hb hK hC hi_6 e_6 dX11_line_68 ?_
      exact hret _ _ _ _ _ _ (Option.some.inj hf) rfl rfl dX11_line_69 hC
    have hf := it_f h_3_2 hf
    refine lv_tab (tgt := 70) hx hb dX11_line_12 (Or.inl ⟨by omega, by decide⟩) ?_
    refine lv_ldc hx hb hown (hta _ wq_820) dX11_line_70 ?_
    exact hret _ _ _ _ _ _ (Option.some.inj hf) rfl rfl dX11_line_72 hC
  · have hf := it_t c_2 hf
    refine lv_ldc hx hb hown (hta _ wq_820) dX11_line_8 ?_
    exact hret _ _ _ _ _ _ (Option.some.inj hf) rfl rfl dX11_line_10 hC

set_option maxHeartbeats 8000000 in
set_option maxRecDepth 100000 in
theorem r_X6_write_s7 {D : va_G} {y : Nat → ClassId} {o : Nat → Nat} {ad av : Nat → Nat} {σ : Sto} {σ2 : Sto} (hf : f_X6_write_s7 σ = some σ2) (l : Launch) (sz : Nat) : Met l yX6_write (Cond.code yX6_write cX6_write 3 none :: ALW) { frames := 8, cells := 0, slots := 0, locals := 200 } (va_Pc [.ref (o 76), .ref (ad 7)] (PZ D y ad av (WX y o σ) sz)) (QZv D (WX y o σ) (WX y o σ2) sz) 0 0 (va_A (WX y o σ) sz) := by
  refine met_v (by decide) (Nat.le_of_ble_eq_true rfl) ?_
  intro p e R s m args below meth c Q A ls hx hb hml hta hown hRc hRs hRf hRl hN hK hV hA hret hC hl
  have hl : lv_has ls 3 [(0, .ref (o 76)), (1, .ref (ad 7))] := hl
  unfold f_X6_write_s7 at hf
  refine lv_iconst (v := 0) hx hb dX6_write_0 (by decide) ?_
  refine lv_istore_n (lv' := [(2, .int 0), (0, .ref (o 76)), (1, .ref (ad 7))]) hx hb dX6_write_1 rfl hl (by decide) rfl (fun ls hl => ?_)
  refine itr_inv2 (P := fun (x2_1 : Int32) (s_1 : Sto) => ∀ (H : Heap) (locs : List Loc) (ls : Array Slot), CZ D A s H locs (WX y o s_1) → lv_has ls 3 [(0, .ref (o 76)), (1, .ref (ad 7)), (2, .int x2_1)] → W p l e R s m args below meth c H locs 0 0 Q (F0 m 2 ls [])) hf ?_ _ _ _ hC (lv_sub hl [1, 2, 0] rfl)
  intro a_2 x2_1 s_1 ha_2 hf H locs ls hC hl
  refine lv_iload_n hx hb dX6_write_2 rfl (lv_at hl 2 rfl) ?_
  refine lv_aload_n hx hb dX6_write_3 rfl (lv_at hl 1 rfl) ?_
  refine cc_length hx hb hml hta hown hK hN hV hA hC hRc hRs (by omega) (by omega) wq_528 (i := 7) (n := 1) (by decide) (by decide) (by decide) hl.1 rfl dX6_write_4 (fun H locs hC => ?_)
  refine lv_icmp_ge (tgt := 25) hx hb dX6_write_7 (by decide) (fun c_2 => ?_) (fun c_2 => ?_)
  · have hf := it_t c_2 hf
    exact hret _ _ _ _ _ (congrArg (WX y o) (Option.some.inj hf)) dX6_write_25 hC
  · have hf := it_f c_2 hf
    refine lv_aload_n hx hb dX6_write_10 rfl (lv_at hl 0 rfl) ?_
    refine lv_aload_n hx hb dX6_write_11 rfl (lv_at hl 1 rfl) ?_
    refine lv_iload_n hx hb dX6_write_12 rfl (lv_at hl 2 rfl) ?_
    obtain ⟨hi_3, hf⟩ := ix_inv hf
    obtain ⟨v_3, e_3, hf⟩ := lt_inv hf
    refine cc_charAt hx hb hml hta hown hK hN hV hA hC hRc hRs (by omega) (by omega) wq_531 (i := 7) (n := 1) (by decide) (by decide) (by decide) hi_3 e_3 hl.1 rfl dX6_write_13 (fun H locs hC => ?_)
    obtain ⟨s_4, hc_4, hf⟩ := cals_inv hf
    refine cc_Vv (r_X6_writeSign (D := D) (y := y) (o := o) (ad := ad) (av := av) hc_4 l) hx hb hml hta hown hK hN hV hA hC hRc hRs (by omega) (by omega) wq_477 (q := 76) (ci := 6) rfl rfl wq_478 wq_479 wq_480 wq_475 hd_X6_writeSign (As := [.int v_3]) (rest := []) rfl rfl hl.1 rfl dX6_write_16 (fun H locs hC => ?_)
    obtain ⟨x2_5, e_5, hf⟩ := lt_inv hf
    refine lv_iinc (v := x2_5) (lv' := [(2, .int x2_5), (0, .ref (o 76)), (1, .ref (ad 7))]) hx hb dX6_write_19 hl (k := 2) rfl e_5.symm (by decide) rfl (fun ls hl => ?_)
    refine lv_goto (tgt := 2) hx hb dX6_write_22 (by decide) ?_
    exact ha_2 _ _ hf _ _ _ hC (lv_sub hl [1, 2, 0] rfl)

set_option maxHeartbeats 8000000 in
set_option maxRecDepth 100000 in
theorem r_X6_write_s14 {D : va_G} {y : Nat → ClassId} {o : Nat → Nat} {ad av : Nat → Nat} {σ : Sto} {σ2 : Sto} (hf : f_X6_write_s14 σ = some σ2) (l : Launch) (sz : Nat) : Met l yX6_write (Cond.code yX6_write cX6_write 3 none :: ALW) { frames := 8, cells := 0, slots := 0, locals := 200 } (va_Pc [.ref (o 76), .ref (ad 14)] (PZ D y ad av (WX y o σ) sz)) (QZv D (WX y o σ) (WX y o σ2) sz) 0 0 (va_A (WX y o σ) sz) := by
  refine met_v (by decide) (Nat.le_of_ble_eq_true rfl) ?_
  intro p e R s m args below meth c Q A ls hx hb hml hta hown hRc hRs hRf hRl hN hK hV hA hret hC hl
  have hl : lv_has ls 3 [(0, .ref (o 76)), (1, .ref (ad 14))] := hl
  unfold f_X6_write_s14 at hf
  refine lv_iconst (v := 0) hx hb dX6_write_0 (by decide) ?_
  refine lv_istore_n (lv' := [(2, .int 0), (0, .ref (o 76)), (1, .ref (ad 14))]) hx hb dX6_write_1 rfl hl (by decide) rfl (fun ls hl => ?_)
  refine itr_inv2 (P := fun (x2_1 : Int32) (s_1 : Sto) => ∀ (H : Heap) (locs : List Loc) (ls : Array Slot), CZ D A s H locs (WX y o s_1) → lv_has ls 3 [(0, .ref (o 76)), (1, .ref (ad 14)), (2, .int x2_1)] → W p l e R s m args below meth c H locs 0 0 Q (F0 m 2 ls [])) hf ?_ _ _ _ hC (lv_sub hl [1, 2, 0] rfl)
  intro a_2 x2_1 s_1 ha_2 hf H locs ls hC hl
  refine lv_iload_n hx hb dX6_write_2 rfl (lv_at hl 2 rfl) ?_
  refine lv_aload_n hx hb dX6_write_3 rfl (lv_at hl 1 rfl) ?_
  refine cc_length hx hb hml hta hown hK hN hV hA hC hRc hRs (by omega) (by omega) wq_528 (i := 14) (n := 1) (by decide) (by decide) (by decide) hl.1 rfl dX6_write_4 (fun H locs hC => ?_)
  refine lv_icmp_ge (tgt := 25) hx hb dX6_write_7 (by decide) (fun c_2 => ?_) (fun c_2 => ?_)
  · have hf := it_t c_2 hf
    exact hret _ _ _ _ _ (congrArg (WX y o) (Option.some.inj hf)) dX6_write_25 hC
  · have hf := it_f c_2 hf
    refine lv_aload_n hx hb dX6_write_10 rfl (lv_at hl 0 rfl) ?_
    refine lv_aload_n hx hb dX6_write_11 rfl (lv_at hl 1 rfl) ?_
    refine lv_iload_n hx hb dX6_write_12 rfl (lv_at hl 2 rfl) ?_
    obtain ⟨hi_3, hf⟩ := ix_inv hf
    obtain ⟨v_3, e_3, hf⟩ := lt_inv hf
    refine cc_charAt hx hb hml hta hown hK hN hV hA hC hRc hRs (by omega) (by omega) wq_531 (i := 14) (n := 1) (by decide) (by decide) (by decide) hi_3 e_3 hl.1 rfl dX6_write_13 (fun H locs hC => ?_)
    obtain ⟨s_4, hc_4, hf⟩ := cals_inv hf
    refine cc_Vv (r_X6_writeSign (D := D) (y := y) (o := o) (ad := ad) (av := av) hc_4 l) hx hb hml hta hown hK hN hV hA hC hRc hRs (by omega) (by omega) wq_477 (q := 76) (ci := 6) rfl rfl wq_478 wq_479 wq_480 wq_475 hd_X6_writeSign (As := [.int v_3]) (rest := []) rfl rfl hl.1 rfl dX6_write_16 (fun H locs hC => ?_)
    obtain ⟨x2_5, e_5, hf⟩ := lt_inv hf
    refine lv_iinc (v := x2_5) (lv' := [(2, .int x2_5), (0, .ref (o 76)), (1, .ref (ad 14))]) hx hb dX6_write_19 hl (k := 2) rfl e_5.symm (by decide) rfl (fun ls hl => ?_)
    refine lv_goto (tgt := 2) hx hb dX6_write_22 (by decide) ?_
    exact ha_2 _ _ hf _ _ _ hC (lv_sub hl [1, 2, 0] rfl)

set_option maxHeartbeats 8000000 in
set_option maxRecDepth 100000 in
theorem r_X6_write_s15 {D : va_G} {y : Nat → ClassId} {o : Nat → Nat} {ad av : Nat → Nat} {σ : Sto} {σ2 : Sto} (hf : f_X6_write_s15 σ = some σ2) (l : Launch) (sz : Nat) : Met l yX6_write (Cond.code yX6_write cX6_write 3 none :: ALW) { frames := 8, cells := 0, slots := 0, locals := 200 } (va_Pc [.ref (o 76), .ref (ad 15)] (PZ D y ad av (WX y o σ) sz)) (QZv D (WX y o σ) (WX y o σ2) sz) 0 0 (va_A (WX y o σ) sz) := by
  refine met_v (by decide) (Nat.le_of_ble_eq_true rfl) ?_
  intro p e R s m args below meth c Q A ls hx hb hml hta hown hRc hRs hRf hRl hN hK hV hA hret hC hl
  have hl : lv_has ls 3 [(0, .ref (o 76)), (1, .ref (ad 15))] := hl
  unfold f_X6_write_s15 at hf
  refine lv_iconst (v := 0) hx hb dX6_write_0 (by decide) ?_
  refine lv_istore_n (lv' := [(2, .int 0), (0, .ref (o 76)), (1, .ref (ad 15))]) hx hb dX6_write_1 rfl hl (by decide) rfl (fun ls hl => ?_)
  refine itr_inv2 (P := fun (x2_1 : Int32) (s_1 : Sto) => ∀ (H : Heap) (locs : List Loc) (ls : Array Slot), CZ D A s H locs (WX y o s_1) → lv_has ls 3 [(0, .ref (o 76)), (1, .ref (ad 15)), (2, .int x2_1)] → W p l e R s m args below meth c H locs 0 0 Q (F0 m 2 ls [])) hf ?_ _ _ _ hC (lv_sub hl [1, 2, 0] rfl)
  intro a_2 x2_1 s_1 ha_2 hf H locs ls hC hl
  refine lv_iload_n hx hb dX6_write_2 rfl (lv_at hl 2 rfl) ?_
  refine lv_aload_n hx hb dX6_write_3 rfl (lv_at hl 1 rfl) ?_
  refine cc_length hx hb hml hta hown hK hN hV hA hC hRc hRs (by omega) (by omega) wq_528 (i := 15) (n := 4) (by decide) (by decide) (by decide) hl.1 rfl dX6_write_4 (fun H locs hC => ?_)
  refine lv_icmp_ge (tgt := 25) hx hb dX6_write_7 (by decide) (fun c_2 => ?_) (fun c_2 => ?_)
  · have hf := it_t c_2 hf
    exact hret _ _ _ _ _ (congrArg (WX y o) (Option.some.inj hf)) dX6_write_25 hC
  · have hf := it_f c_2 hf
    refine lv_aload_n hx hb dX6_write_10 rfl (lv_at hl 0 rfl) ?_
    refine lv_aload_n hx hb dX6_write_11 rfl (lv_at hl 1 rfl) ?_
    refine lv_iload_n hx hb dX6_write_12 rfl (lv_at hl 2 rfl) ?_
    obtain ⟨hi_3, hf⟩ := ix_inv hf
    obtain ⟨v_3, e_3, hf⟩ := lt_inv hf
    refine cc_charAt hx hb hml hta hown hK hN hV hA hC hRc hRs (by omega) (by omega) wq_531 (i := 15) (n := 4) (by decide) (by decide) (by decide) hi_3 e_3 hl.1 rfl dX6_write_13 (fun H locs hC => ?_)
    obtain ⟨s_4, hc_4, hf⟩ := cals_inv hf
    refine cc_Vv (r_X6_writeSign (D := D) (y := y) (o := o) (ad := ad) (av := av) hc_4 l) hx hb hml hta hown hK hN hV hA hC hRc hRs (by omega) (by omega) wq_477 (q := 76) (ci := 6) rfl rfl wq_478 wq_479 wq_480 wq_475 hd_X6_writeSign (As := [.int v_3]) (rest := []) rfl rfl hl.1 rfl dX6_write_16 (fun H locs hC => ?_)
    obtain ⟨x2_5, e_5, hf⟩ := lt_inv hf
    refine lv_iinc (v := x2_5) (lv' := [(2, .int x2_5), (0, .ref (o 76)), (1, .ref (ad 15))]) hx hb dX6_write_19 hl (k := 2) rfl e_5.symm (by decide) rfl (fun ls hl => ?_)
    refine lv_goto (tgt := 2) hx hb dX6_write_22 (by decide) ?_
    exact ha_2 _ _ hf _ _ _ hC (lv_sub hl [1, 2, 0] rfl)

set_option maxHeartbeats 8000000 in
set_option maxRecDepth 100000 in
theorem r_X6_write_s16 {D : va_G} {y : Nat → ClassId} {o : Nat → Nat} {ad av : Nat → Nat} {σ : Sto} {σ2 : Sto} (hf : f_X6_write_s16 σ = some σ2) (l : Launch) (sz : Nat) : Met l yX6_write (Cond.code yX6_write cX6_write 3 none :: ALW) { frames := 8, cells := 0, slots := 0, locals := 200 } (va_Pc [.ref (o 76), .ref (ad 16)] (PZ D y ad av (WX y o σ) sz)) (QZv D (WX y o σ) (WX y o σ2) sz) 0 0 (va_A (WX y o σ) sz) := by
  refine met_v (by decide) (Nat.le_of_ble_eq_true rfl) ?_
  intro p e R s m args below meth c Q A ls hx hb hml hta hown hRc hRs hRf hRl hN hK hV hA hret hC hl
  have hl : lv_has ls 3 [(0, .ref (o 76)), (1, .ref (ad 16))] := hl
  unfold f_X6_write_s16 at hf
  refine lv_iconst (v := 0) hx hb dX6_write_0 (by decide) ?_
  refine lv_istore_n (lv' := [(2, .int 0), (0, .ref (o 76)), (1, .ref (ad 16))]) hx hb dX6_write_1 rfl hl (by decide) rfl (fun ls hl => ?_)
  refine itr_inv2 (P := fun (x2_1 : Int32) (s_1 : Sto) => ∀ (H : Heap) (locs : List Loc) (ls : Array Slot), CZ D A s H locs (WX y o s_1) → lv_has ls 3 [(0, .ref (o 76)), (1, .ref (ad 16)), (2, .int x2_1)] → W p l e R s m args below meth c H locs 0 0 Q (F0 m 2 ls [])) hf ?_ _ _ _ hC (lv_sub hl [1, 2, 0] rfl)
  intro a_2 x2_1 s_1 ha_2 hf H locs ls hC hl
  refine lv_iload_n hx hb dX6_write_2 rfl (lv_at hl 2 rfl) ?_
  refine lv_aload_n hx hb dX6_write_3 rfl (lv_at hl 1 rfl) ?_
  refine cc_length hx hb hml hta hown hK hN hV hA hC hRc hRs (by omega) (by omega) wq_528 (i := 16) (n := 6) (by decide) (by decide) (by decide) hl.1 rfl dX6_write_4 (fun H locs hC => ?_)
  refine lv_icmp_ge (tgt := 25) hx hb dX6_write_7 (by decide) (fun c_2 => ?_) (fun c_2 => ?_)
  · have hf := it_t c_2 hf
    exact hret _ _ _ _ _ (congrArg (WX y o) (Option.some.inj hf)) dX6_write_25 hC
  · have hf := it_f c_2 hf
    refine lv_aload_n hx hb dX6_write_10 rfl (lv_at hl 0 rfl) ?_
    refine lv_aload_n hx hb dX6_write_11 rfl (lv_at hl 1 rfl) ?_
    refine lv_iload_n hx hb dX6_write_12 rfl (lv_at hl 2 rfl) ?_
    obtain ⟨hi_3, hf⟩ := ix_inv hf
    obtain ⟨v_3, e_3, hf⟩ := lt_inv hf
    refine cc_charAt hx hb hml hta hown hK hN hV hA hC hRc hRs (by omega) (by omega) wq_531 (i := 16) (n := 6) (by decide) (by decide) (by decide) hi_3 e_3 hl.1 rfl dX6_write_13 (fun H locs hC => ?_)
    obtain ⟨s_4, hc_4, hf⟩ := cals_inv hf
    refine cc_Vv (r_X6_writeSign (D := D) (y := y) (o := o) (ad := ad) (av := av) hc_4 l) hx hb hml hta hown hK hN hV hA hC hRc hRs (by omega) (by omega) wq_477 (q := 76) (ci := 6) rfl rfl wq_478 wq_479 wq_480 wq_475 hd_X6_writeSign (As := [.int v_3]) (rest := []) rfl rfl hl.1 rfl dX6_write_16 (fun H locs hC => ?_)
    obtain ⟨x2_5, e_5, hf⟩ := lt_inv hf
    refine lv_iinc (v := x2_5) (lv' := [(2, .int x2_5), (0, .ref (o 76)), (1, .ref (ad 16))]) hx hb dX6_write_19 hl (k := 2) rfl e_5.symm (by decide) rfl (fun ls hl => ?_)
    refine lv_goto (tgt := 2) hx hb dX6_write_22 (by decide) ?_
    exact ha_2 _ _ hf _ _ _ hC (lv_sub hl [1, 2, 0] rfl)

set_option maxHeartbeats 8000000 in
set_option maxRecDepth 100000 in
theorem r_X6_write_s17 {D : va_G} {y : Nat → ClassId} {o : Nat → Nat} {ad av : Nat → Nat} {σ : Sto} {σ2 : Sto} (hf : f_X6_write_s17 σ = some σ2) (l : Launch) (sz : Nat) : Met l yX6_write (Cond.code yX6_write cX6_write 3 none :: ALW) { frames := 8, cells := 0, slots := 0, locals := 200 } (va_Pc [.ref (o 76), .ref (ad 17)] (PZ D y ad av (WX y o σ) sz)) (QZv D (WX y o σ) (WX y o σ2) sz) 0 0 (va_A (WX y o σ) sz) := by
  refine met_v (by decide) (Nat.le_of_ble_eq_true rfl) ?_
  intro p e R s m args below meth c Q A ls hx hb hml hta hown hRc hRs hRf hRl hN hK hV hA hret hC hl
  have hl : lv_has ls 3 [(0, .ref (o 76)), (1, .ref (ad 17))] := hl
  unfold f_X6_write_s17 at hf
  refine lv_iconst (v := 0) hx hb dX6_write_0 (by decide) ?_
  refine lv_istore_n (lv' := [(2, .int 0), (0, .ref (o 76)), (1, .ref (ad 17))]) hx hb dX6_write_1 rfl hl (by decide) rfl (fun ls hl => ?_)
  refine itr_inv2 (P := fun (x2_1 : Int32) (s_1 : Sto) => ∀ (H : Heap) (locs : List Loc) (ls : Array Slot), CZ D A s H locs (WX y o s_1) → lv_has ls 3 [(0, .ref (o 76)), (1, .ref (ad 17)), (2, .int x2_1)] → W p l e R s m args below meth c H locs 0 0 Q (F0 m 2 ls [])) hf ?_ _ _ _ hC (lv_sub hl [1, 2, 0] rfl)
  intro a_2 x2_1 s_1 ha_2 hf H locs ls hC hl
  refine lv_iload_n hx hb dX6_write_2 rfl (lv_at hl 2 rfl) ?_
  refine lv_aload_n hx hb dX6_write_3 rfl (lv_at hl 1 rfl) ?_
  refine cc_length hx hb hml hta hown hK hN hV hA hC hRc hRs (by omega) (by omega) wq_528 (i := 17) (n := 6) (by decide) (by decide) (by decide) hl.1 rfl dX6_write_4 (fun H locs hC => ?_)
  refine lv_icmp_ge (tgt := 25) hx hb dX6_write_7 (by decide) (fun c_2 => ?_) (fun c_2 => ?_)
  · have hf := it_t c_2 hf
    exact hret _ _ _ _ _ (congrArg (WX y o) (Option.some.inj hf)) dX6_write_25 hC
  · have hf := it_f c_2 hf
    refine lv_aload_n hx hb dX6_write_10 rfl (lv_at hl 0 rfl) ?_
    refine lv_aload_n hx hb dX6_write_11 rfl (lv_at hl 1 rfl) ?_
    refine lv_iload_n hx hb dX6_write_12 rfl (lv_at hl 2 rfl) ?_
    obtain ⟨hi_3, hf⟩ := ix_inv hf
    obtain ⟨v_3, e_3, hf⟩ := lt_inv hf
    refine cc_charAt hx hb hml hta hown hK hN hV hA hC hRc hRs (by omega) (by omega) wq_531 (i := 17) (n := 6) (by decide) (by decide) (by decide) hi_3 e_3 hl.1 rfl dX6_write_13 (fun H locs hC => ?_)
    obtain ⟨s_4, hc_4, hf⟩ := cals_inv hf
    refine cc_Vv (r_X6_writeSign (D := D) (y := y) (o := o) (ad := ad) (av := av) hc_4 l) hx hb hml hta hown hK hN hV hA hC hRc hRs (by omega) (by omega) wq_477 (q := 76) (ci := 6) rfl rfl wq_478 wq_479 wq_480 wq_475 hd_X6_writeSign (As := [.int v_3]) (rest := []) rfl rfl hl.1 rfl dX6_write_16 (fun H locs hC => ?_)
    obtain ⟨x2_5, e_5, hf⟩ := lt_inv hf
    refine lv_iinc (v := x2_5) (lv' := [(2, .int x2_5), (0, .ref (o 76)), (1, .ref (ad 17))]) hx hb dX6_write_19 hl (k := 2) rfl e_5.symm (by decide) rfl (fun ls hl => ?_)
    refine lv_goto (tgt := 2) hx hb dX6_write_22 (by decide) ?_
    exact ha_2 _ _ hf _ _ _ hC (lv_sub hl [1, 2, 0] rfl)

set_option maxHeartbeats 8000000 in
set_option maxRecDepth 100000 in
theorem r_X6_writeStatement {D : va_G} {y : Nat → ClassId} {o : Nat → Nat} {ad av : Nat → Nat} {x1 : Int32} {σ : Sto} {σ2 : Sto} (hf : f_X6_writeStatement x1 σ = some σ2) (l : Launch) (sz : Nat) : Met l yX6_writeStatement (Cond.code yX6_writeStatement cX6_writeStatement 3 none :: ALW) { frames := 260, cells := 0, slots := 0, locals := 6246 } (va_Pc [.ref (o 76), .int x1] (PZ D y ad av (WX y o σ) sz)) (QZv D (WX y o σ) (WX y o σ2) sz) 0 0 (va_A (WX y o σ) sz) := by
  refine met_v (by decide) (Nat.le_of_ble_eq_true rfl) ?_
  intro p e R s m args below meth c Q A ls hx hb hml hta hown hRc hRs hRf hRl hN hK hV hA hret hC hl
  have hl : lv_has ls 3 [(0, .ref (o 76)), (1, .int x1)] := hl
  unfold f_X6_writeStatement at hf
  refine lv_aload_n hx hb dX6_writeStatement_0 rfl (lv_at hl 0 rfl) ?_
  refine gt_X6_19_pen hx hb hta hown hK hC dX6_writeStatement_1 ?_
  refine gt_X6_94_lifted hx hb hta hown hK hC dX6_writeStatement_4 ?_
  refine lv_iload_n hx hb dX6_writeStatement_7 rfl (lv_at hl 1 rfl) ?_
  obtain ⟨hi_1, hf⟩ := ix_inv hf
  obtain ⟨v_1, e_1, hf⟩ := lt_inv hf
  refine al_X_50 hx hb hK hC hi_1 e_1 dX6_writeStatement_8 ?_
  refine lv_istore_n (lv' := [(2, .int v_1), (0, .ref (o 76)), (1, .int x1)]) hx hb dX6_writeStatement_9 rfl hl (by decide) rfl (fun ls hl => ?_)
  refine lv_aload_n hx hb dX6_writeStatement_10 rfl (lv_at hl 1 rfl) ?_
  refine gt_X6_19_pen hx hb hta hown hK hC dX6_writeStatement_11 ?_
  refine gt_X6_97_lifted hx hb hta hown hK hC dX6_writeStatement_14 ?_
  refine lv_iload_n hx hb dX6_writeStatement_17 rfl (lv_at hl 2 rfl) ?_
  obtain ⟨hi_2, hf⟩ := ix_inv hf
  obtain ⟨v_2, e_2, hf⟩ := lt_inv hf
  refine al_X_49 hx hb hK hC hi_2 e_2 dX6_writeStatement_18 ?_
  obtain ⟨k_136, hk_136, hf⟩ := jn_inv1 hf
  have hj_136 : ∀ (s_3 : Sto) (H : Heap) (locs : List Loc) (ls : Array Slot), k_136 s_3 = some σ2 → CZ D A s H locs (WX y o s_3) → lv_has ls 3 [(0, .ref (o 76)), (1, .int x1)] → W p l e R s m args below meth c H locs 0 0 Q (F0 m 136 ls []) := by
    intro s_3 H locs ls hf hC hl
    have hf := hk_136 _ hf
    refine lv_aload_n hx hb dX6_writeStatement_136 rfl (lv_at hl 0 rfl) ?_
    refine gt_X6_19_pen hx hb hta hown hK hC dX6_writeStatement_137 ?_
    refine gt_X6_112_lifted hx hb hta hown hK hC dX6_writeStatement_140 ?_
    refine lv_iload_n hx hb dX6_writeStatement_143 rfl (lv_at hl 1 rfl) ?_
    obtain ⟨hi_4, hf⟩ := ix_inv hf
    obtain ⟨v_4, e_4, hf⟩ := lt_inv hf
    refine al_X_51 hx hb hK hC hi_4 e_4 dX6_writeStatement_144 ?_
    refine lv_iconst (v := (-1)) hx hb dX6_writeStatement_145 (by decide) ?_
    obtain ⟨k_163, hk_163, hf⟩ := jn_inv1 hf
    have hj_163 : ∀ (s_5 : Sto) (H : Heap) (locs : List Loc) (ls : Array Slot), k_163 s_5 = some σ2 → CZ D A s H locs (WX y o s_5) → lv_has ls 3 [(0, .ref (o 76))] → W p l e R s m args below meth c H locs 0 0 Q (F0 m 163 ls []) := by
      intro s_5 H locs ls hf hC hl
      have hf := hk_163 _ hf
      refine lv_aload_n hx hb dX6_writeStatement_163 rfl (lv_at hl 0 rfl) ?_
      refine va_ldcS hx hb hown (ss_Rp hV 7 rfl) dX6_writeStatement_164 ?_
      obtain ⟨s_6, hc_6, hf⟩ := cals_inv hf
      refine cc_Vv (r_X6_write_s7 (D := D) (y := y) (o := o) (ad := ad) (av := av) hc_6 l) hx hb hml hta hown hK hN hV hA hC hRc hRs (by omega) (by omega) wq_541 (q := 76) (ci := 6) rfl rfl wq_542 wq_543 wq_480 wq_534 hd_X6_write (As := [.ref (ad 7)]) (rest := []) rfl rfl hl.1 rfl dX6_writeStatement_166 (fun H locs hC => ?_)
      exact hret _ _ _ _ _ (congrArg (WX y o) (Option.some.inj hf)) dX6_writeStatement_169 hC
    refine lv_icmp_eq (tgt := 163) hx hb dX6_writeStatement_146 (by decide) (fun c_7 => ?_) (fun c_7 => ?_)
    · have hf := it_t c_7 hf
      exact hj_163 _ _ _ _ hf hC (lv_sub hl [0] rfl)
    · have hf := it_f c_7 hf
      refine lv_aload_n hx hb dX6_writeStatement_149 rfl (lv_at hl 0 rfl) ?_
      refine lv_aload_n hx hb dX6_writeStatement_150 rfl (lv_at hl 0 rfl) ?_
      refine gt_X6_19_pen hx hb hta hown hK hC dX6_writeStatement_151 ?_
      refine gt_X6_112_lifted hx hb hta hown hK hC dX6_writeStatement_154 ?_
      refine lv_iload_n hx hb dX6_writeStatement_157 rfl (lv_at hl 1 rfl) ?_
      obtain ⟨hi_8, hf⟩ := ix_inv hf
      obtain ⟨v_8, e_8, hf⟩ := lt_inv hf
      refine al_X_51 hx hb hK hC hi_8 e_8 dX6_writeStatement_158 ?_
      refine lv_iconst (v := 0) hx hb dX6_writeStatement_159 (by decide) ?_
      obtain ⟨s_9, hc_9, hf⟩ := cals_inv hf
      refine cc_Vv (r_X6_writeExpression 250 (D := D) (y := y) (o := o) (ad := ad) (av := av) hc_9 l) hx hb hml hta hown hK hN hV hA hC hRc hRs (by omega) (by omega) wq_544 (q := 76) (ci := 6) rfl rfl wq_545 wq_546 wq_480 wq_547 hd_X6_writeExpression (As := [.int v_8, .int 0]) (rest := []) rfl rfl hl.1 rfl dX6_writeStatement_160 (fun H locs hC => ?_)
      exact hj_163 _ _ _ _ hf hC (lv_sub hl [0] rfl)
  by_cases h_10_0 : v_2.toInt = 0
  · have hf := it_t h_10_0 hf
    refine lv_tab (tgt := 60) hx hb dX6_writeStatement_19 (Or.inr ⟨41, by omega, by omega, by (rw [h_10_0]; decide), by decide⟩) ?_
    refine lv_aload_n hx hb dX6_writeStatement_60 rfl (lv_at hl 1 rfl) ?_
    refine lv_bipush (v := 97) hx hb dX6_writeStatement_61 (by decide) ?_
    refine lv_iload_n hx hb dX6_writeStatement_63 rfl (lv_at hl 0 rfl) ?_
    refine lv_iadd hx hb dX6_writeStatement_64 ?_
    obtain ⟨s_11, hc_11, hf⟩ := cals_inv hf
    refine cc_Vv (r_X6_writeSign (D := D) (y := y) (o := o) (ad := ad) (av := av) hc_11 l) hx hb hml hta hown hK hN hV hA hC hRc hRs (by omega) (by omega) wq_477 (q := 76) (ci := 6) rfl rfl wq_478 wq_479 wq_480 wq_475 hd_X6_writeSign (As := [.int ((97 : Int32) + v_1)]) (rest := []) rfl rfl hl.1 rfl dX6_writeStatement_65 (fun H locs hC => ?_)
    refine lv_aload_n hx hb dX6_writeStatement_68 rfl (lv_at hl 1 rfl) ?_
    refine va_ldcS hx hb hown (ss_Rp hV 14 rfl) dX6_writeStatement_69 ?_
    obtain ⟨s_12, hc_12, hf⟩ := cals_inv hf
    refine cc_Vv (r_X6_write_s14 (D := D) (y := y) (o := o) (ad := ad) (av := av) hc_12 l) hx hb hml hta hown hK hN hV hA hC hRc hRs (by omega) (by omega) wq_541 (q := 76) (ci := 6) rfl rfl wq_542 wq_543 wq_480 wq_534 hd_X6_write (As := [.ref (ad 14)]) (rest := []) rfl rfl hl.1 rfl dX6_writeStatement_71 (fun H locs hC => ?_)
    refine lv_goto (tgt := 136) hx hb dX6_writeStatement_74 (by decide) ?_
    exact hj_136 _ _ _ _ hf hC (lv_sub hl [1, 2] rfl)
  have hf := it_f h_10_0 hf
  by_cases h_10_1 : v_2.toInt = 1
  · have hf := it_t h_10_1 hf
    refine lv_tab (tgt := 77) hx hb dX6_writeStatement_19 (Or.inr ⟨58, by omega, by omega, by (rw [h_10_1]; decide), by decide⟩) ?_
    refine lv_aload_n hx hb dX6_writeStatement_77 rfl (lv_at hl 1 rfl) ?_
    refine lv_bipush (v := 116) hx hb dX6_writeStatement_78 (by decide) ?_
    refine lv_iload_n hx hb dX6_writeStatement_80 rfl (lv_at hl 0 rfl) ?_
    obtain ⟨s_13, hc_13, hf⟩ := cals_inv hf
    refine cc_Vv (r_X6_writeName (D := D) (y := y) (o := o) (ad := ad) (av := av) hc_13 l) hx hb hml hta hown hK hN hV hA hC hRc hRs (by omega) (by omega) wq_538 (q := 76) (ci := 6) rfl rfl wq_539 wq_540 wq_480 wq_481 hd_X6_writeName (As := [.int 116, .int v_1]) (rest := []) rfl rfl hl.1 rfl dX6_writeStatement_81 (fun H locs hC => ?_)
    refine lv_aload_n hx hb dX6_writeStatement_84 rfl (lv_at hl 1 rfl) ?_
    refine va_ldcS hx hb hown (ss_Rp hV 14 rfl) dX6_writeStatement_85 ?_
    obtain ⟨s_14, hc_14, hf⟩ := cals_inv hf
    refine cc_Vv (r_X6_write_s14 (D := D) (y := y) (o := o) (ad := ad) (av := av) hc_14 l) hx hb hml hta hown hK hN hV hA hC hRc hRs (by omega) (by omega) wq_541 (q := 76) (ci := 6) rfl rfl wq_542 wq_543 wq_480 wq_534 hd_X6_write (As := [.ref (ad 14)]) (rest := []) rfl rfl hl.1 rfl dX6_writeStatement_87 (fun H locs hC => ?_)
    refine lv_goto (tgt := 136) hx hb dX6_writeStatement_90 (by decide) ?_
    exact hj_136 _ _ _ _ hf hC (lv_sub hl [1, 2] rfl)
  have hf := it_f h_10_1 hf
  by_cases h_10_2 : v_2.toInt = 2
  · have hf := it_t h_10_2 hf
    refine lv_tab (tgt := 93) hx hb dX6_writeStatement_19 (Or.inr ⟨74, by omega, by omega, by (rw [h_10_2]; decide), by decide⟩) ?_
    refine lv_aload_n hx hb dX6_writeStatement_93 rfl (lv_at hl 1 rfl) ?_
    refine lv_bipush (v := 120) hx hb dX6_writeStatement_94 (by decide) ?_
    refine lv_iload_n hx hb dX6_writeStatement_96 rfl (lv_at hl 0 rfl) ?_
    obtain ⟨s_15, hc_15, hf⟩ := cals_inv hf
    refine cc_Vv (r_X6_writeName (D := D) (y := y) (o := o) (ad := ad) (av := av) hc_15 l) hx hb hml hta hown hK hN hV hA hC hRc hRs (by omega) (by omega) wq_538 (q := 76) (ci := 6) rfl rfl wq_539 wq_540 wq_480 wq_481 hd_X6_writeName (As := [.int 120, .int v_1]) (rest := []) rfl rfl hl.1 rfl dX6_writeStatement_97 (fun H locs hC => ?_)
    refine lv_aload_n hx hb dX6_writeStatement_100 rfl (lv_at hl 1 rfl) ?_
    refine va_ldcS hx hb hown (ss_Rp hV 14 rfl) dX6_writeStatement_101 ?_
    obtain ⟨s_16, hc_16, hf⟩ := cals_inv hf
    refine cc_Vv (r_X6_write_s14 (D := D) (y := y) (o := o) (ad := ad) (av := av) hc_16 l) hx hb hml hta hown hK hN hV hA hC hRc hRs (by omega) (by omega) wq_541 (q := 76) (ci := 6) rfl rfl wq_542 wq_543 wq_480 wq_534 hd_X6_write (As := [.ref (ad 14)]) (rest := []) rfl rfl hl.1 rfl dX6_writeStatement_103 (fun H locs hC => ?_)
    refine lv_goto (tgt := 136) hx hb dX6_writeStatement_106 (by decide) ?_
    exact hj_136 _ _ _ _ hf hC (lv_sub hl [1, 2] rfl)
  have hf := it_f h_10_2 hf
  by_cases h_10_3 : v_2.toInt = 3
  · have hf := it_t h_10_3 hf
    refine lv_tab (tgt := 109) hx hb dX6_writeStatement_19 (Or.inr ⟨90, by omega, by omega, by (rw [h_10_3]; decide), by decide⟩) ?_
    refine lv_aload_n hx hb dX6_writeStatement_109 rfl (lv_at hl 1 rfl) ?_
    refine va_ldcS hx hb hown (ss_Rp hV 15 rfl) dX6_writeStatement_110 ?_
    obtain ⟨s_17, hc_17, hf⟩ := cals_inv hf
    refine cc_Vv (r_X6_write_s15 (D := D) (y := y) (o := o) (ad := ad) (av := av) hc_17 l) hx hb hml hta hown hK hN hV hA hC hRc hRs (by omega) (by omega) wq_541 (q := 76) (ci := 6) rfl rfl wq_542 wq_543 wq_480 wq_534 hd_X6_write (As := [.ref (ad 15)]) (rest := []) rfl rfl hl.1 rfl dX6_writeStatement_112 (fun H locs hC => ?_)
    refine lv_goto (tgt := 136) hx hb dX6_writeStatement_115 (by decide) ?_
    exact hj_136 _ _ _ _ hf hC (lv_sub hl [1, 2] rfl)
  have hf := it_f h_10_3 hf
  by_cases h_10_4 : v_2.toInt = 5
  · have hf := it_t h_10_4 hf
    refine lv_tab (tgt := 118) hx hb dX6_writeStatement_19 (Or.inr ⟨99, by omega, by omega, by (rw [h_10_4]; decide), by decide⟩) ?_
    refine lv_aload_n hx hb dX6_writeStatement_118 rfl (lv_at hl 1 rfl) ?_
    refine va_ldcS hx hb hown (ss_Rp hV 16 rfl) dX6_writeStatement_119 ?_
    obtain ⟨s_18, hc_18, hf⟩ := cals_inv hf
    refine cc_Vv (r_X6_write_s16 (D := D) (y := y) (o := o) (ad := ad) (av := av) hc_18 l) hx hb hml hta hown hK hN hV hA hC hRc hRs (by omega) (by omega) wq_541 (q := 76) (ci := 6) rfl rfl wq_542 wq_543 wq_480 wq_534 hd_X6_write (As := [.ref (ad 16)]) (rest := []) rfl rfl hl.1 rfl dX6_writeStatement_121 (fun H locs hC => ?_)
    refine lv_goto (tgt := 136) hx hb dX6_writeStatement_124 (by decide) ?_
    exact hj_136 _ _ _ _ hf hC (lv_sub hl [1, 2] rfl)
  have hf := it_f h_10_4 hf
  by_cases h_10_5 : v_2.toInt = 6
  · have hf := it_t h_10_5 hf
    refine lv_tab (tgt := 127) hx hb dX6_writeStatement_19 (Or.inr ⟨108, by omega, by omega, by (rw [h_10_5]; decide), by decide⟩) ?_
    refine lv_aload_n hx hb dX6_writeStatement_127 rfl (lv_at hl 1 rfl) ?_
    refine va_ldcS hx hb hown (ss_Rp hV 17 rfl) dX6_writeStatement_128 ?_
    obtain ⟨s_19, hc_19, hf⟩ := cals_inv hf
    refine cc_Vv (r_X6_write_s17 (D := D) (y := y) (o := o) (ad := ad) (av := av) hc_19 l) hx hb hml hta hown hK hN hV hA hC hRc hRs (by omega) (by omega) wq_541 (q := 76) (ci := 6) rfl rfl wq_542 wq_543 wq_480 wq_534 hd_X6_write (As := [.ref (ad 17)]) (rest := []) rfl rfl hl.1 rfl dX6_writeStatement_130 (fun H locs hC => ?_)
    refine lv_goto (tgt := 136) hx hb dX6_writeStatement_133 (by decide) ?_
    exact hj_136 _ _ _ _ hf hC (lv_sub hl [1, 2] rfl)
  have hf := it_f h_10_5 hf
  refine lv_tab (tgt := 136) hx hb dX6_writeStatement_19 (by rcases (show (v_2.toInt < 0 ∨ 6 < v_2.toInt ∨ v_2.toInt = 4) by omega) with h | h | h; exact Or.inl ⟨Or.inl h, by decide⟩; exact Or.inl ⟨Or.inr h, by decide⟩; all_goals exact Or.inr ⟨117, by omega, by omega, by rw [h]; decide, by decide⟩) ?_
  exact hj_136 _ _ _ _ hf hC (lv_sub hl [1, 2] rfl)

set_option maxHeartbeats 8000000 in
set_option maxRecDepth 100000 in
theorem r_X6_write_s0 {D : va_G} {y : Nat → ClassId} {o : Nat → Nat} {ad av : Nat → Nat} {σ : Sto} {σ2 : Sto} (hf : f_X6_write_s0 σ = some σ2) (l : Launch) (sz : Nat) : Met l yX6_write (Cond.code yX6_write cX6_write 3 none :: ALW) { frames := 8, cells := 0, slots := 0, locals := 200 } (va_Pc [.ref (o 76), .ref (ad 0)] (PZ D y ad av (WX y o σ) sz)) (QZv D (WX y o σ) (WX y o σ2) sz) 0 0 (va_A (WX y o σ) sz) := by
  refine met_v (by decide) (Nat.le_of_ble_eq_true rfl) ?_
  intro p e R s m args below meth c Q A ls hx hb hml hta hown hRc hRs hRf hRl hN hK hV hA hret hC hl
  have hl : lv_has ls 3 [(0, .ref (o 76)), (1, .ref (ad 0))] := hl
  unfold f_X6_write_s0 at hf
  refine lv_iconst (v := 0) hx hb dX6_write_0 (by decide) ?_
  refine lv_istore_n (lv' := [(2, .int 0), (0, .ref (o 76)), (1, .ref (ad 0))]) hx hb dX6_write_1 rfl hl (by decide) rfl (fun ls hl => ?_)
  refine itr_inv2 (P := fun (x2_1 : Int32) (s_1 : Sto) => ∀ (H : Heap) (locs : List Loc) (ls : Array Slot), CZ D A s H locs (WX y o s_1) → lv_has ls 3 [(0, .ref (o 76)), (1, .ref (ad 0)), (2, .int x2_1)] → W p l e R s m args below meth c H locs 0 0 Q (F0 m 2 ls [])) hf ?_ _ _ _ hC (lv_sub hl [1, 2, 0] rfl)
  intro a_2 x2_1 s_1 ha_2 hf H locs ls hC hl
  refine lv_iload_n hx hb dX6_write_2 rfl (lv_at hl 2 rfl) ?_
  refine lv_aload_n hx hb dX6_write_3 rfl (lv_at hl 1 rfl) ?_
  refine cc_length hx hb hml hta hown hK hN hV hA hC hRc hRs (by omega) (by omega) wq_528 (i := 0) (n := 6) (by decide) (by decide) (by decide) hl.1 rfl dX6_write_4 (fun H locs hC => ?_)
  refine lv_icmp_ge (tgt := 25) hx hb dX6_write_7 (by decide) (fun c_2 => ?_) (fun c_2 => ?_)
  · have hf := it_t c_2 hf
    exact hret _ _ _ _ _ (congrArg (WX y o) (Option.some.inj hf)) dX6_write_25 hC
  · have hf := it_f c_2 hf
    refine lv_aload_n hx hb dX6_write_10 rfl (lv_at hl 0 rfl) ?_
    refine lv_aload_n hx hb dX6_write_11 rfl (lv_at hl 1 rfl) ?_
    refine lv_iload_n hx hb dX6_write_12 rfl (lv_at hl 2 rfl) ?_
    obtain ⟨hi_3, hf⟩ := ix_inv hf
    obtain ⟨v_3, e_3, hf⟩ := lt_inv hf
    refine cc_charAt hx hb hml hta hown hK hN hV hA hC hRc hRs (by omega) (by omega) wq_531 (i := 0) (n := 6) (by decide) (by decide) (by decide) hi_3 e_3 hl.1 rfl dX6_write_13 (fun H locs hC => ?_)
    obtain ⟨s_4, hc_4, hf⟩ := cals_inv hf
    refine cc_Vv (r_X6_writeSign (D := D) (y := y) (o := o) (ad := ad) (av := av) hc_4 l) hx hb hml hta hown hK hN hV hA hC hRc hRs (by omega) (by omega) wq_477 (q := 76) (ci := 6) rfl rfl wq_478 wq_479 wq_480 wq_475 hd_X6_writeSign (As := [.int v_3]) (rest := []) rfl rfl hl.1 rfl dX6_write_16 (fun H locs hC => ?_)
    obtain ⟨x2_5, e_5, hf⟩ := lt_inv hf
    refine lv_iinc (v := x2_5) (lv' := [(2, .int x2_5), (0, .ref (o 76)), (1, .ref (ad 0))]) hx hb dX6_write_19 hl (k := 2) rfl e_5.symm (by decide) rfl (fun ls hl => ?_)
    refine lv_goto (tgt := 2) hx hb dX6_write_22 (by decide) ?_
    exact ha_2 _ _ hf _ _ _ hC (lv_sub hl [1, 2, 0] rfl)

set_option maxHeartbeats 8000000 in
set_option maxRecDepth 100000 in
theorem r_X6_write_s1 {D : va_G} {y : Nat → ClassId} {o : Nat → Nat} {ad av : Nat → Nat} {σ : Sto} {σ2 : Sto} (hf : f_X6_write_s1 σ = some σ2) (l : Launch) (sz : Nat) : Met l yX6_write (Cond.code yX6_write cX6_write 3 none :: ALW) { frames := 8, cells := 0, slots := 0, locals := 200 } (va_Pc [.ref (o 76), .ref (ad 1)] (PZ D y ad av (WX y o σ) sz)) (QZv D (WX y o σ) (WX y o σ2) sz) 0 0 (va_A (WX y o σ) sz) := by
  refine met_v (by decide) (Nat.le_of_ble_eq_true rfl) ?_
  intro p e R s m args below meth c Q A ls hx hb hml hta hown hRc hRs hRf hRl hN hK hV hA hret hC hl
  have hl : lv_has ls 3 [(0, .ref (o 76)), (1, .ref (ad 1))] := hl
  unfold f_X6_write_s1 at hf
  refine lv_iconst (v := 0) hx hb dX6_write_0 (by decide) ?_
  refine lv_istore_n (lv' := [(2, .int 0), (0, .ref (o 76)), (1, .ref (ad 1))]) hx hb dX6_write_1 rfl hl (by decide) rfl (fun ls hl => ?_)
  refine itr_inv2 (P := fun (x2_1 : Int32) (s_1 : Sto) => ∀ (H : Heap) (locs : List Loc) (ls : Array Slot), CZ D A s H locs (WX y o s_1) → lv_has ls 3 [(0, .ref (o 76)), (1, .ref (ad 1)), (2, .int x2_1)] → W p l e R s m args below meth c H locs 0 0 Q (F0 m 2 ls [])) hf ?_ _ _ _ hC (lv_sub hl [1, 2, 0] rfl)
  intro a_2 x2_1 s_1 ha_2 hf H locs ls hC hl
  refine lv_iload_n hx hb dX6_write_2 rfl (lv_at hl 2 rfl) ?_
  refine lv_aload_n hx hb dX6_write_3 rfl (lv_at hl 1 rfl) ?_
  refine cc_length hx hb hml hta hown hK hN hV hA hC hRc hRs (by omega) (by omega) wq_528 (i := 1) (n := 1) (by decide) (by decide) (by decide) hl.1 rfl dX6_write_4 (fun H locs hC => ?_)
  refine lv_icmp_ge (tgt := 25) hx hb dX6_write_7 (by decide) (fun c_2 => ?_) (fun c_2 => ?_)
  · have hf := it_t c_2 hf
    exact hret _ _ _ _ _ (congrArg (WX y o) (Option.some.inj hf)) dX6_write_25 hC
  · have hf := it_f c_2 hf
    refine lv_aload_n hx hb dX6_write_10 rfl (lv_at hl 0 rfl) ?_
    refine lv_aload_n hx hb dX6_write_11 rfl (lv_at hl 1 rfl) ?_
    refine lv_iload_n hx hb dX6_write_12 rfl (lv_at hl 2 rfl) ?_
    obtain ⟨hi_3, hf⟩ := ix_inv hf
    obtain ⟨v_3, e_3, hf⟩ := lt_inv hf
    refine cc_charAt hx hb hml hta hown hK hN hV hA hC hRc hRs (by omega) (by omega) wq_531 (i := 1) (n := 1) (by decide) (by decide) (by decide) hi_3 e_3 hl.1 rfl dX6_write_13 (fun H locs hC => ?_)
    obtain ⟨s_4, hc_4, hf⟩ := cals_inv hf
    refine cc_Vv (r_X6_writeSign (D := D) (y := y) (o := o) (ad := ad) (av := av) hc_4 l) hx hb hml hta hown hK hN hV hA hC hRc hRs (by omega) (by omega) wq_477 (q := 76) (ci := 6) rfl rfl wq_478 wq_479 wq_480 wq_475 hd_X6_writeSign (As := [.int v_3]) (rest := []) rfl rfl hl.1 rfl dX6_write_16 (fun H locs hC => ?_)
    obtain ⟨x2_5, e_5, hf⟩ := lt_inv hf
    refine lv_iinc (v := x2_5) (lv' := [(2, .int x2_5), (0, .ref (o 76)), (1, .ref (ad 1))]) hx hb dX6_write_19 hl (k := 2) rfl e_5.symm (by decide) rfl (fun ls hl => ?_)
    refine lv_goto (tgt := 2) hx hb dX6_write_22 (by decide) ?_
    exact ha_2 _ _ hf _ _ _ hC (lv_sub hl [1, 2, 0] rfl)
