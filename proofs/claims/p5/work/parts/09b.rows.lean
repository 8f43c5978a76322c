set_option maxHeartbeats 8000000 in
set_option maxRecDepth 100000 in
theorem r_X12_laysJumps {D : va_G} {y : Nat → ClassId} {o : Nat → Nat} {ad av : Nat → Nat} {σ : Sto} {σ2 : Sto} (hf : f_X12_laysJumps σ = some σ2) (l : Launch) (sz : Nat) : Met l yX12_laysJumps (Cond.code yX12_laysJumps cX12_laysJumps 2 none :: ALW) { frames := 5, cells := 0, slots := 0, locals := 115 } (va_Pc [.ref (o 0)] (PZ D y ad av (WM y o σ) sz)) (QZv D (WM y o σ) (WM y o σ2) sz) 0 0 (va_A (WM y o σ) sz) := by
  refine met_v (by decide) (Nat.le_of_ble_eq_true rfl) ?_
  intro p e R s m args below meth c Q A ls hx hb hml hta hown hRc hRs hRf hRl hN hK hV hA hret hC hl
  have hl : lv_has ls 2 [(0, .ref (o 0))] := hl
  unfold f_X12_laysJumps at hf
  refine lv_iconst (v := 0) hx hb dX12_laysJumps_0 (by decide) ?_
  refine lv_istore_n (lv' := [(1, .int 0), (0, .ref (o 0))]) hx hb dX12_laysJumps_1 rfl hl (by decide) rfl (fun ls hl => ?_)
  refine itr_inv2 (P := fun (x1_1 : Int32) (s_1 : Sto) => ∀ (H : Heap) (locs : List Loc) (ls : Array Slot), CZ D A s H locs (WM y o s_1) → lv_has ls 2 [(0, .ref (o 0)), (1, .int x1_1)] → W p l e R s m args below meth c H locs 0 0 Q (F0 m 2 ls [])) hf ?_ _ _ _ hC (lv_sub hl [1, 0] rfl)
  intro a_2 x1_1 s_1 ha_2 hf H locs ls hC hl
  refine lv_iload_n hx hb dX12_laysJumps_2 rfl (lv_at hl 1 rfl) ?_
  refine lv_aload_n hx hb dX12_laysJumps_3 rfl (lv_at hl 0 rfl) ?_
  refine gt_X12_327_m hx hb hta hown hK hC dX12_laysJumps_4 ?_
  refine lv_icmp_ge (tgt := 23) hx hb dX12_laysJumps_7 (by decide) (fun c_2 => ?_) (fun c_2 => ?_)
  · have hf := it_t c_2 hf
    refine lv_aload_n hx hb dX12_laysJumps_23 rfl (lv_at hl 0 rfl) ?_
    refine lv_aload_n hx hb dX12_laysJumps_24 rfl (lv_at hl 0 rfl) ?_
    obtain ⟨v_3, s_3, hc_3, hf⟩ := calv_inv hf
    refine cc_Vi (r_X12_isGoodSo (D := D) (y := y) (o := o) (ad := ad) (av := av) hc_3 l) hx hb hml hta hown hK hN hV hA hC hRc hRs (by omega) (by omega) wq_1141 (q := 0) (ci := 12) rfl rfl wq_1142 wq_1143 wq_1012 wq_1140 hd_X12_isGoodSo (As := []) (rest := [.ref (o 0)]) rfl rfl hl.1 rfl dX12_laysJumps_25 (fun H locs hC => ?_)
    obtain ⟨hb_5, hf⟩ := bz_inv hf
    obtain ⟨s_4, e_4, hf⟩ := lt_inv hf
    refine pt_X12_355_m hx hb hta hown hK hC hb_5 e_4 dX12_laysJumps_28 (fun H locs hC => ?_)
    refine lv_aload_n hx hb dX12_laysJumps_31 rfl (lv_at hl 0 rfl) ?_
    refine lv_iconst (v := 0) hx hb dX12_laysJumps_32 (by decide) ?_
    obtain ⟨s_6, e_6, hf⟩ := lt_inv hf
    refine pt_X12_358_m hx hb hta hown hK hC e_6 dX12_laysJumps_33 (fun H locs hC => ?_)
    refine lv_aload_n hx hb dX12_laysJumps_36 rfl (lv_at hl 0 rfl) ?_
    refine gt_X12_355_m hx hb hta hown hK hC dX12_laysJumps_37 ?_
    refine lv_if_eq (tgt := 44) hx hb dX12_laysJumps_40 (by decide) (fun c_7 => ?_) (fun c_7 => ?_)
    · have hf := it_t c_7 hf
      refine lv_aload_n hx hb dX12_laysJumps_44 rfl (lv_at hl 0 rfl) ?_
      refine lv_iconst (v := 1) hx hb dX12_laysJumps_45 (by decide) ?_
      obtain ⟨s_8, e_8, hf⟩ := lt_inv hf
      refine pt_X12_358_m hx hb hta hown hK hC e_8 dX12_laysJumps_46 (fun H locs hC => ?_)
      refine itr_inv1 (P := fun (s_9 : Sto) => ∀ (H : Heap) (locs : List Loc) (ls : Array Slot), CZ D A s H locs (WM y o s_9) → lv_has ls 2 [(0, .ref (o 0))] → W p l e R s m args below meth c H locs 0 0 Q (F0 m 49 ls [])) hf ?_ _ _ _ hC (lv_sub hl [0] rfl)
      intro a_49 s_9 ha_49 hf H locs ls hC hl
      refine lv_aload_n hx hb dX12_laysJumps_49 rfl (lv_at hl 0 rfl) ?_
      refine gt_X12_358_m hx hb hta hown hK hC dX12_laysJumps_50 ?_
      refine lv_iconst (v := 2) hx hb dX12_laysJumps_53 (by decide) ?_
      refine lv_icmp_gt (tgt := 139) hx hb dX12_laysJumps_54 (by decide) (fun c_10 => ?_) (fun c_10 => ?_)
      · have hf := it_t c_10 hf
        refine lv_aload_n hx hb dX12_laysJumps_139 rfl (lv_at hl 0 rfl) ?_
        refine lv_iconst (v := (-1)) hx hb dX12_laysJumps_140 (by decide) ?_
        obtain ⟨s_11, e_11, hf⟩ := lt_inv hf
        refine pt_X12_358_m hx hb hta hown hK hC e_11 dX12_laysJumps_141 (fun H locs hC => ?_)
        refine lv_aload_n hx hb dX12_laysJumps_144 rfl (lv_at hl 0 rfl) ?_
        obtain ⟨s_12, hc_12, hf⟩ := cals_inv hf
        refine cc_Vv (r_X12_laysDominators (D := D) (y := y) (o := o) (ad := ad) (av := av) hc_12 l) hx hb hml hta hown hK hN hV hA hC hRc hRs (by omega) (by omega) wq_1134 (q := 0) (ci := 12) rfl rfl wq_1135 wq_1136 wq_1012 wq_1122 hd_X12_laysDominators (As := []) (rest := []) rfl rfl hl.1 rfl dX12_laysJumps_145 (fun H locs hC => ?_)
        exact hret _ _ _ _ _ (congrArg (WM y o) (Option.some.inj hf)) dX12_laysJumps_148 hC
      · have hf := it_f c_10 hf
        refine lv_iconst (v := 0) hx hb dX12_laysJumps_57 (by decide) ?_
        refine lv_istore_n (lv' := [(1, .int 0), (0, .ref (o 0))]) hx hb dX12_laysJumps_58 rfl hl (by decide) rfl (fun ls hl => ?_)
        refine itr_inv2 (P := fun (x1_13 : Int32) (s_13 : Sto) => ∀ (H : Heap) (locs : List Loc) (ls : Array Slot), CZ D A s H locs (WM y o s_13) → lv_has ls 2 [(0, .ref (o 0)), (1, .int x1_13)] → W p l e R s m args below meth c H locs 0 0 Q (F0 m 59 ls [])) hf ?_ _ _ _ hC (lv_sub hl [1, 0] rfl)
        intro a_59 x1_13 s_13 ha_59 hf H locs ls hC hl
        refine lv_iload_n hx hb dX12_laysJumps_59 rfl (lv_at hl 1 rfl) ?_
        refine lv_aload_n hx hb dX12_laysJumps_60 rfl (lv_at hl 0 rfl) ?_
        refine gt_X12_327_m hx hb hta hown hK hC dX12_laysJumps_61 ?_
        refine lv_icmp_ge (tgt := 126) hx hb dX12_laysJumps_64 (by decide) (fun c_14 => ?_) (fun c_14 => ?_)
        · have hf := it_t c_14 hf
          refine lv_aload_n hx hb dX12_laysJumps_126 rfl (lv_at hl 0 rfl) ?_
          refine lv_dup hx hb dX12_laysJumps_127 rfl ?_
          refine gt_X12_358_m hx hb hta hown hK hC dX12_laysJumps_128 ?_
          refine lv_iconst (v := 1) hx hb dX12_laysJumps_131 (by decide) ?_
          refine lv_iadd hx hb dX12_laysJumps_132 ?_
          obtain ⟨s_15, e_15, hf⟩ := lt_inv hf
          refine pt_X12_358_m hx hb hta hown hK hC e_15 dX12_laysJumps_133 (fun H locs hC => ?_)
          refine lv_goto (tgt := 49) hx hb dX12_laysJumps_136 (by decide) ?_
          exact ha_49 _ hf _ _ _ hC (lv_sub hl [0] rfl)
        · have hf := it_f c_14 hf
          refine lv_aload_n hx hb dX12_laysJumps_67 rfl (lv_at hl 0 rfl) ?_
          refine gt_X12_65_m hx hb hta hown hK hC dX12_laysJumps_68 ?_
          refine lv_iload_n hx hb dX12_laysJumps_71 rfl (lv_at hl 1 rfl) ?_
          obtain ⟨hi_16, hf⟩ := ix_inv hf
          obtain ⟨v_16, e_16, hf⟩ := lt_inv hf
          refine al_M_19 hx hb hK hC hi_16 e_16 dX12_laysJumps_72 ?_
          obtain ⟨k_120, hk_120, hf⟩ := jn_inv1 hf
          have hj_120 : ∀ (s_17 : Sto) (H : Heap) (locs : List Loc) (ls : Array Slot), k_120 s_17 = some σ2 → CZ D A s H locs (WM y o s_17) → lv_has ls 2 [(0, .ref (o 0)), (1, .int x1_13)] → W p l e R s m args below meth c H locs 0 0 Q (F0 m 120 ls []) := by
            intro s_17 H locs ls hf hC hl
            have hf := hk_120 _ hf
            obtain ⟨x1_18, e_18, hf⟩ := lt_inv hf
            refine lv_iinc (v := x1_18) (lv' := [(1, .int x1_18), (0, .ref (o 0))]) hx hb dX12_laysJumps_120 hl (k := 1) rfl e_18.symm (by decide) rfl (fun ls hl => ?_)
            refine lv_goto (tgt := 59) hx hb dX12_laysJumps_123 (by decide) ?_
            exact ha_59 _ _ hf _ _ _ hC (lv_sub hl [1, 0] rfl)
          refine lv_if_eq (tgt := 79) hx hb dX12_laysJumps_73 (by decide) (fun c_19 => ?_) (fun c_19 => ?_)
          · have hf := it_t c_19 hf
            refine lv_aload_n hx hb dX12_laysJumps_79 rfl (lv_at hl 0 rfl) ?_
            refine gt_X12_69_m hx hb hta hown hK hC dX12_laysJumps_80 ?_
            refine lv_iload_n hx hb dX12_laysJumps_83 rfl (lv_at hl 1 rfl) ?_
            refine lv_iconst (v := 1) hx hb dX12_laysJumps_84 (by decide) ?_
            obtain ⟨hi_20, hf⟩ := ix_inv hf
            obtain ⟨s_20, e_20, hf⟩ := lt_inv hf
            refine as_M_20 hx hb hK hC hi_20 (Or.inr rfl) e_20 dX12_laysJumps_85 (fun H locs hC => ?_)
            refine lv_aload_n hx hb dX12_laysJumps_86 rfl (lv_at hl 0 rfl) ?_
            refine gt_X12_358_m hx hb hta hown hK hC dX12_laysJumps_87 ?_
            refine lv_iconst (v := 1) hx hb dX12_laysJumps_90 (by decide) ?_
            obtain ⟨k_113, hk_113, hf⟩ := jn_inv1 hf
            have hj_113 : ∀ (s_21 : Sto) (H : Heap) (locs : List Loc) (ls : Array Slot), k_113 s_21 = some σ2 → CZ D A s H locs (WM y o s_21) → lv_has ls 2 [(0, .ref (o 0)), (1, .int x1_13)] → W p l e R s m args below meth c H locs 0 0 Q (F0 m 113 ls []) := by
              intro s_21 H locs ls hf hC hl
              have hf := hk_113 _ hf
              refine lv_aload_n hx hb dX12_laysJumps_113 rfl (lv_at hl 0 rfl) ?_
              refine gt_X12_69_m hx hb hta hown hK hC dX12_laysJumps_114 ?_
              refine lv_iload_n hx hb dX12_laysJumps_117 rfl (lv_at hl 1 rfl) ?_
              refine lv_iconst (v := 0) hx hb dX12_laysJumps_118 (by decide) ?_
              obtain ⟨hi_22, hf⟩ := ix_inv hf
              obtain ⟨s_22, e_22, hf⟩ := lt_inv hf
              refine as_M_20 hx hb hK hC hi_22 (Or.inl rfl) e_22 dX12_laysJumps_119 (fun H locs hC => ?_)
              exact hj_120 _ _ _ _ hf hC hl
            refine lv_icmp_ne (tgt := 104) hx hb dX12_laysJumps_91 (by decide) (fun c_23 => ?_) (fun c_23 => ?_)
            · have hf := it_f c_23 hf
              refine lv_aload_n hx hb dX12_laysJumps_104 rfl (lv_at hl 0 rfl) ?_
              refine lv_iload_n hx hb dX12_laysJumps_105 rfl (lv_at hl 1 rfl) ?_
              obtain ⟨v_26, s_26, hc_26, hf⟩ := calv_inv hf
              refine cc_Vi (r_X12_hasSecond (D := D) (y := y) (o := o) (ad := ad) (av := av) hc_26 l) hx hb hml hta hown hK hN hV hA hC hRc hRs (by omega) (by omega) wq_1147 (q := 0) (ci := 12) rfl rfl wq_1148 wq_1149 wq_1012 wq_1144 hd_X12_hasSecond (As := [.int x1_13]) (rest := []) rfl rfl hl.1 rfl dX12_laysJumps_106 (fun H locs hC => ?_)
              refine lv_if_eq (tgt := 113) hx hb dX12_laysJumps_109 (by decide) (fun c_27 => ?_) (fun c_27 => ?_)
              · have hf := it_t c_27 hf
                exact hj_113 _ _ _ _ hf hC hl
              · have hf := it_f c_27 hf
                exact hret _ _ _ _ _ (congrArg (WM y o) (Option.some.inj hf)) dX12_laysJumps_112 hC
            · have hf := it_t c_23 hf
              refine lv_aload_n hx hb dX12_laysJumps_94 rfl (lv_at hl 0 rfl) ?_
              obtain ⟨v_24, s_24, hc_24, hf⟩ := calv_inv hf
              refine cc_Vi (r_X12_isGoodSo (D := D) (y := y) (o := o) (ad := ad) (av := av) hc_24 l) hx hb hml hta hown hK hN hV hA hC hRc hRs (by omega) (by omega) wq_1141 (q := 0) (ci := 12) rfl rfl wq_1142 wq_1143 wq_1012 wq_1140 hd_X12_isGoodSo (As := []) (rest := []) rfl rfl hl.1 rfl dX12_laysJumps_95 (fun H locs hC => ?_)
              refine lv_if_eq (tgt := 113) hx hb dX12_laysJumps_98 (by decide) (fun c_25 => ?_) (fun c_25 => ?_)
              · have hf := it_t c_25 hf
                exact hj_113 _ _ _ _ hf hC hl
              · have hf := it_f c_25 hf
                refine lv_goto (tgt := 112) hx hb dX12_laysJumps_101 (by decide) ?_
                exact hret _ _ _ _ _ (congrArg (WM y o) (Option.some.inj hf)) dX12_laysJumps_112 hC
          · have hf := it_f c_19 hf
            refine lv_goto (tgt := 120) hx hb dX12_laysJumps_76 (by decide) ?_
            exact hj_120 _ _ _ _ hf hC hl
    · have hf := it_f c_7 hf
      exact hret _ _ _ _ _ (congrArg (WM y o) (Option.some.inj hf)) dX12_laysJumps_43 hC
  · have hf := it_f c_2 hf
    refine lv_aload_n hx hb dX12_laysJumps_10 rfl (lv_at hl 0 rfl) ?_
    refine gt_X12_69_m hx hb hta hown hK hC dX12_laysJumps_11 ?_
    refine lv_iload_n hx hb dX12_laysJumps_14 rfl (lv_at hl 1 rfl) ?_
    refine lv_iconst (v := 0) hx hb dX12_laysJumps_15 (by decide) ?_
    obtain ⟨hi_28, hf⟩ := ix_inv hf
    obtain ⟨s_28, e_28, hf⟩ := lt_inv hf
    refine as_M_20 hx hb hK hC hi_28 (Or.inl rfl) e_28 dX12_laysJumps_16 (fun H locs hC => ?_)
    obtain ⟨x1_29, e_29, hf⟩ := lt_inv hf
    refine lv_iinc (v := x1_29) (lv' := [(1, .int x1_29), (0, .ref (o 0))]) hx hb dX12_laysJumps_17 hl (k := 1) rfl e_29.symm (by decide) rfl (fun ls hl => ?_)
    refine lv_goto (tgt := 2) hx hb dX12_laysJumps_20 (by decide) ?_
    exact ha_2 _ _ hf _ _ _ hC (lv_sub hl [1, 0] rfl)

set_option maxHeartbeats 8000000 in
set_option maxRecDepth 100000 in
theorem rg_X12_leaves {D : va_G} {y : Nat → ClassId} {o : Nat → Nat} {ad av : Nat → Nat} : ∀ d : Nat, (∀ {x1 : Int32} {σ : Sto} {σ2 : Sto}, f_X12_leaves d x1 σ = some σ2 → ∀ (l : Launch) (sz : Nat), Met l yX12_leaves (Cond.code yX12_leaves cX12_leaves 3 none :: ALW) { frames := d + 1, cells := 0, slots := 0, locals := d * 22 + 22 } (va_Pc [.ref (o 0), .int x1] (PZ D y ad av (WM y o σ) sz)) (QZv D (WM y o σ) (WM y o σ2) sz) 0 0 (va_A (WM y o σ) sz)) := by
  intro d
  induction d with
  | zero => exact fun hc => by have hc : (none : Option (Sto)) = some _ := hc; cases hc
  | succ d ih =>
    have h_X12_leaves := @ih
    intro x1 σ σ2 hf l sz
    have hf : b_X12_leaves (f_X12_leaves d) x1 σ = some σ2 := hf
    refine met_v (by decide) (Nat.le_of_ble_eq_true rfl) ?_
    intro p e R s m args below meth c Q A ls hx hb hml hta hown hRc hRs hRf hRl hN hK hV hA hret hC hl
    have hl : lv_has ls 3 [(0, .ref (o 0)), (1, .int x1)] := hl
    unfold b_X12_leaves at hf
    refine lv_aload_n hx hb dX12_leaves_0 rfl (lv_at hl 0 rfl) ?_
    refine lv_dup hx hb dX12_leaves_1 rfl ?_
    refine gt_X12_364_m hx hb hta hown hK hC dX12_leaves_2 ?_
    refine lv_lconst (v := 1) hx hb dX12_leaves_5 rfl ?_
    refine lv_iload_n hx hb dX12_leaves_6 rfl (lv_at hl 1 rfl) ?_
    refine lv_lshl hx hb dX12_leaves_7 rfl ?_
    refine lv_lor hx hb dX12_leaves_8 ?_
    obtain ⟨s_1, e_1, hf⟩ := lt_inv hf
    refine pt_X12_364_m hx hb hta hown hK hC e_1 dX12_leaves_9 (fun H locs hC => ?_)
    refine lv_iconst (v := 0) hx hb dX12_leaves_12 (by decide) ?_
    refine lv_istore_n (lv' := [(2, .int 0), (0, .ref (o 0)), (1, .int x1)]) hx hb dX12_leaves_13 rfl hl (by decide) rfl (fun ls hl => ?_)
    refine itr_inv2 (P := fun (x2_2 : Int32) (s_2 : Sto) => ∀ (H : Heap) (locs : List Loc) (ls : Array Slot), CZ D A s H locs (WM y o s_2) → lv_has ls 3 [(0, .ref (o 0)), (1, .int x1), (2, .int x2_2)] → W p l e R s m args below meth c H locs 0 0 Q (F0 m 14 ls [])) hf ?_ _ _ _ hC (lv_sub hl [1, 2, 0] rfl)
    intro a_14 x2_2 s_2 ha_14 hf H locs ls hC hl
    refine lv_iload_n hx hb dX12_leaves_14 rfl (lv_at hl 2 rfl) ?_
    refine lv_aload_n hx hb dX12_leaves_15 rfl (lv_at hl 0 rfl) ?_
    refine gt_X12_327_m hx hb hta hown hK hC dX12_leaves_16 ?_
    refine lv_icmp_ge (tgt := 73) hx hb dX12_leaves_19 (by decide) (fun c_3 => ?_) (fun c_3 => ?_)
    · have hf := it_t c_3 hf
      refine lv_aload_n hx hb dX12_leaves_73 rfl (lv_at hl 0 rfl) ?_
      refine lv_dup hx hb dX12_leaves_74 rfl ?_
      refine gt_X12_368_m hx hb hta hown hK hC dX12_leaves_75 ?_
      refine lv_iconst (v := 1) hx hb dX12_leaves_78 (by decide) ?_
      refine lv_isub hx hb dX12_leaves_79 ?_
      obtain ⟨s_4, e_4, hf⟩ := lt_inv hf
      refine pt_X12_368_m hx hb hta hown hK hC e_4 dX12_leaves_80 (fun H locs hC => ?_)
      refine lv_aload_n hx hb dX12_leaves_83 rfl (lv_at hl 0 rfl) ?_
      refine gt_X12_82_m hx hb hta hown hK hC dX12_leaves_84 ?_
      refine lv_iload_n hx hb dX12_leaves_87 rfl (lv_at hl 1 rfl) ?_
      refine lv_aload_n hx hb dX12_leaves_88 rfl (lv_at hl 0 rfl) ?_
      refine gt_X12_368_m hx hb hta hown hK hC dX12_leaves_89 ?_
      obtain ⟨hi_5, hf⟩ := ix_inv hf
      obtain ⟨s_5, e_5, hf⟩ := lt_inv hf
      refine as_M_24 hx hb hK hC hi_5 e_5 dX12_leaves_92 (fun H locs hC => ?_)
      exact hret _ _ _ _ _ (congrArg (WM y o) (Option.some.inj hf)) dX12_leaves_93 hC
    · have hf := it_f c_3 hf
      refine lv_aload_n hx hb dX12_leaves_22 rfl (lv_at hl 0 rfl) ?_
      refine gt_X12_59_m hx hb hta hown hK hC dX12_leaves_23 ?_
      refine lv_iload_n hx hb dX12_leaves_26 rfl (lv_at hl 2 rfl) ?_
      obtain ⟨hi_6, hf⟩ := ix_inv hf
      obtain ⟨v_6, e_6, hf⟩ := lt_inv hf
      refine al_M_17 hx hb hK hC hi_6 e_6 dX12_leaves_27 ?_
      refine lv_iload_n hx hb dX12_leaves_28 rfl (lv_at hl 1 rfl) ?_
      obtain ⟨k_67, hk_67, hf⟩ := jn_inv1 hf
      have hj_67 : ∀ (s_7 : Sto) (H : Heap) (locs : List Loc) (ls : Array Slot), k_67 s_7 = some σ2 → CZ D A s H locs (WM y o s_7) → lv_has ls 3 [(0, .ref (o 0)), (1, .int x1), (2, .int x2_2)] → W p l e R s m args below meth c H locs 0 0 Q (F0 m 67 ls []) := by
        intro s_7 H locs ls hf hC hl
        have hf := hk_67 _ hf
        obtain ⟨x2_8, e_8, hf⟩ := lt_inv hf
        refine lv_iinc (v := x2_8) (lv' := [(2, .int x2_8), (0, .ref (o 0)), (1, .int x1)]) hx hb dX12_leaves_67 hl (k := 2) rfl e_8.symm (by decide) rfl (fun ls hl => ?_)
        refine lv_goto (tgt := 14) hx hb dX12_leaves_70 (by decide) ?_
        exact ha_14 _ _ hf _ _ _ hC (lv_sub hl [1, 2, 0] rfl)
      refine lv_icmp_ne (tgt := 67) hx hb dX12_leaves_29 (by decide) (fun c_9 => ?_) (fun c_9 => ?_)
      · have hf := it_f c_9 hf
        exact hj_67 _ _ _ _ hf hC hl
      · have hf := it_t c_9 hf
        refine lv_aload_n hx hb dX12_leaves_32 rfl (lv_at hl 0 rfl) ?_
        refine gt_X12_69_m hx hb hta hown hK hC dX12_leaves_33 ?_
        refine lv_iload_n hx hb dX12_leaves_36 rfl (lv_at hl 2 rfl) ?_
        obtain ⟨hi_10, hf⟩ := ix_inv hf
        obtain ⟨v_10, e_10, hf⟩ := lt_inv hf
        refine al_M_20 hx hb hK hC hi_10 e_10 dX12_leaves_37 ?_
        refine lv_if_ne (tgt := 67) hx hb dX12_leaves_38 (by decide) (fun c_11 => ?_) (fun c_11 => ?_)
        · have hf := it_f c_11 hf
          exact hj_67 _ _ _ _ hf hC hl
        · have hf := it_t c_11 hf
          refine lv_aload_n hx hb dX12_leaves_41 rfl (lv_at hl 0 rfl) ?_
          refine gt_X12_364_m hx hb hta hown hK hC dX12_leaves_42 ?_
          refine lv_aload_n hx hb dX12_leaves_45 rfl (lv_at hl 0 rfl) ?_
          refine gt_X12_62_m hx hb hta hown hK hC dX12_leaves_46 ?_
          refine lv_iload_n hx hb dX12_leaves_49 rfl (lv_at hl 2 rfl) ?_
          obtain ⟨hi_12, hf⟩ := ix_inv hf
          obtain ⟨v_12, e_12, hf⟩ := lt_inv hf
          refine al_M_18 hx hb hK hC hi_12 e_12 dX12_leaves_50 ?_
          obtain ⟨v_13, hc_13, hf⟩ := calp_inv hf
          refine cc_Si (r_X12_has (D := D) (y := y) (w := WM y o s_2) (ad := ad) (av := av) hc_13 l) hx hb hml hta hown hK hN hV hA hC hRc hRs (by omega) (by omega) wq_1010 wq_1011 wq_1012 wq_1008 hd_X12_has (As := [.long (s_2.2 2 0), .int v_12]) (rest := []) rfl rfl hl.1 rfl dX12_leaves_51 (fun H locs hC => ?_)
          refine lv_if_ne (tgt := 67) hx hb dX12_leaves_54 (by decide) (fun c_14 => ?_) (fun c_14 => ?_)
          · have hf := it_f c_14 hf
            exact hj_67 _ _ _ _ hf hC hl
          · have hf := it_t c_14 hf
            refine lv_aload_n hx hb dX12_leaves_57 rfl (lv_at hl 0 rfl) ?_
            refine lv_aload_n hx hb dX12_leaves_58 rfl (lv_at hl 0 rfl) ?_
            refine gt_X12_62_m hx hb hta hown hK hC dX12_leaves_59 ?_
            refine lv_iload_n hx hb dX12_leaves_62 rfl (lv_at hl 2 rfl) ?_
            obtain ⟨hi_15, hf⟩ := ix_inv hf
            obtain ⟨v_15, e_15, hf⟩ := lt_inv hf
            refine al_M_18 hx hb hK hC hi_15 e_15 dX12_leaves_63 ?_
            obtain ⟨s_16, hc_16, hf⟩ := cals_inv hf
            refine cc_Vv (h_X12_leaves hc_16 l) hx hb hml hta hown hK hN hV hA hC hRc hRs (by omega) (by omega) wq_1154 (q := 0) (ci := 12) rfl rfl wq_1155 wq_1156 wq_1012 wq_1151 hd_X12_leaves (As := [.int v_15]) (rest := []) rfl rfl hl.1 rfl dX12_leaves_64 (fun H locs hC => ?_)
            exact hj_67 _ _ _ _ hf hC hl
theorem r_X12_leaves (d : Nat) {D : va_G} {y : Nat → ClassId} {o : Nat → Nat} {ad av : Nat → Nat} {x1 : Int32} {σ : Sto} {σ2 : Sto} (hf : f_X12_leaves d x1 σ = some σ2) (l : Launch) (sz : Nat) : Met l yX12_leaves (Cond.code yX12_leaves cX12_leaves 3 none :: ALW) { frames := d + 1, cells := 0, slots := 0, locals := d * 22 + 22 } (va_Pc [.ref (o 0), .int x1] (PZ D y ad av (WM y o σ) sz)) (QZv D (WM y o σ) (WM y o σ2) sz) 0 0 (va_A (WM y o σ) sz) := (rg_X12_leaves d) hf l sz

set_option maxHeartbeats 8000000 in
set_option maxRecDepth 100000 in
theorem r_X12_laysOrder {D : va_G} {y : Nat → ClassId} {o : Nat → Nat} {ad av : Nat → Nat} {σ : Sto} {σ2 : Sto} (hf : f_X12_laysOrder σ = some σ2) (l : Launch) (sz : Nat) : Met l yX12_laysOrder (Cond.code yX12_laysOrder cX12_laysOrder 1 none :: ALW) { frames := 252, cells := 0, slots := 0, locals := 5544 } (va_Pc [.ref (o 0)] (PZ D y ad av (WM y o σ) sz)) (QZv D (WM y o σ) (WM y o σ2) sz) 0 0 (va_A (WM y o σ) sz) := by
  refine met_v (by decide) (Nat.le_of_ble_eq_true rfl) ?_
  intro p e R s m args below meth c Q A ls hx hb hml hta hown hRc hRs hRf hRl hN hK hV hA hret hC hl
  have hl : lv_has ls 1 [(0, .ref (o 0))] := hl
  unfold f_X12_laysOrder at hf
  refine lv_aload_n hx hb dX12_laysOrder_0 rfl (lv_at hl 0 rfl) ?_
  refine lv_lconst (v := 0) hx hb dX12_laysOrder_1 rfl ?_
  obtain ⟨s_1, e_1, hf⟩ := lt_inv hf
  refine pt_X12_364_m hx hb hta hown hK hC e_1 dX12_laysOrder_2 (fun H locs hC => ?_)
  refine lv_aload_n hx hb dX12_laysOrder_5 rfl (lv_at hl 0 rfl) ?_
  refine lv_aload_n hx hb dX12_laysOrder_6 rfl (lv_at hl 0 rfl) ?_
  refine gt_X12_299_m hx hb hta hown hK hC dX12_laysOrder_7 ?_
  obtain ⟨s_2, e_2, hf⟩ := lt_inv hf
  refine pt_X12_368_m hx hb hta hown hK hC e_2 dX12_laysOrder_10 (fun H locs hC => ?_)
  refine lv_aload_n hx hb dX12_laysOrder_13 rfl (lv_at hl 0 rfl) ?_
  refine lv_iconst (v := 0) hx hb dX12_laysOrder_14 (by decide) ?_
  obtain ⟨s_3, hc_3, hf⟩ := cals_inv hf
  refine cc_Vv (r_X12_leaves 250 (D := D) (y := y) (o := o) (ad := ad) (av := av) hc_3 l) hx hb hml hta hown hK hN hV hA hC hRc hRs (by omega) (by omega) wq_1154 (q := 0) (ci := 12) rfl rfl wq_1155 wq_1156 wq_1012 wq_1151 hd_X12_leaves (As := [.int 0]) (rest := []) rfl rfl hl.1 rfl dX12_laysOrder_15 (fun H locs hC => ?_)
  exact hret _ _ _ _ _ (congrArg (WM y o) (Option.some.inj hf)) dX12_laysOrder_18 hC

set_option maxHeartbeats 8000000 in
set_option maxRecDepth 100000 in
theorem r_X12_laysAbove {D : va_G} {y : Nat → ClassId} {o : Nat → Nat} {ad av : Nat → Nat} {σ : Sto} {σ2 : Sto} (hf : f_X12_laysAbove σ = some σ2) (l : Launch) (sz : Nat) : Met l yX12_laysAbove (Cond.code yX12_laysAbove cX12_laysAbove 3 none :: ALW) { frames := 1, cells := 0, slots := 0, locals := 22 } (va_Pc [.ref (o 0)] (PZ D y ad av (WM y o σ) sz)) (QZv D (WM y o σ) (WM y o σ2) sz) 0 0 (va_A (WM y o σ) sz) := by
  refine met_v (by decide) (Nat.le_of_ble_eq_true rfl) ?_
  intro p e R s m args below meth c Q A ls hx hb hml hta hown hRc hRs hRf hRl hN hK hV hA hret hC hl
  have hl : lv_has ls 3 [(0, .ref (o 0))] := hl
  unfold f_X12_laysAbove at hf
  refine lv_iconst (v := 0) hx hb dX12_laysAbove_0 (by decide) ?_
  refine lv_istore_n (lv' := [(1, .int 0), (0, .ref (o 0))]) hx hb dX12_laysAbove_1 rfl hl (by decide) rfl (fun ls hl => ?_)
  refine itr_inv2 (P := fun (x1_1 : Int32) (s_1 : Sto) => ∀ (H : Heap) (locs : List Loc) (ls : Array Slot), CZ D A s H locs (WM y o s_1) → lv_has ls 3 [(0, .ref (o 0)), (1, .int x1_1)] → W p l e R s m args below meth c H locs 0 0 Q (F0 m 2 ls [])) hf ?_ _ _ _ hC (lv_sub hl [1, 0] rfl)
  intro a_2 x1_1 s_1 ha_2 hf H locs ls hC hl
  refine lv_iload_n hx hb dX12_laysAbove_2 rfl (lv_at hl 1 rfl) ?_
  refine lv_aload_n hx hb dX12_laysAbove_3 rfl (lv_at hl 0 rfl) ?_
  refine gt_X12_299_m hx hb hta hown hK hC dX12_laysAbove_4 ?_
  refine lv_icmp_ge (tgt := 92) hx hb dX12_laysAbove_7 (by decide) (fun c_2 => ?_) (fun c_2 => ?_)
  · have hf := it_t c_2 hf
    exact hret _ _ _ _ _ (congrArg (WM y o) (Option.some.inj hf)) dX12_laysAbove_92 hC
  · have hf := it_f c_2 hf
    refine lv_aload_n hx hb dX12_laysAbove_10 rfl (lv_at hl 0 rfl) ?_
    refine gt_X12_85_m hx hb hta hown hK hC dX12_laysAbove_11 ?_
    refine lv_iload_n hx hb dX12_laysAbove_14 rfl (lv_at hl 1 rfl) ?_
    refine lv_iconst (v := (-1)) hx hb dX12_laysAbove_15 (by decide) ?_
    obtain ⟨hi_3, hf⟩ := ix_inv hf
    obtain ⟨s_3, e_3, hf⟩ := lt_inv hf
    refine as_M_25 hx hb hK hC hi_3 e_3 dX12_laysAbove_16 (fun H locs hC => ?_)
    refine lv_iconst (v := 0) hx hb dX12_laysAbove_17 (by decide) ?_
    refine lv_istore_n (lv' := [(2, .int 0), (0, .ref (o 0)), (1, .int x1_1)]) hx hb dX12_laysAbove_18 rfl hl (by decide) rfl (fun ls hl => ?_)
    refine itr_inv2 (P := fun (x2_4 : Int32) (s_4 : Sto) => ∀ (H : Heap) (locs : List Loc) (ls : Array Slot), CZ D A s H locs (WM y o s_4) → lv_has ls 3 [(0, .ref (o 0)), (1, .int x1_1), (2, .int x2_4)] → W p l e R s m args below meth c H locs 0 0 Q (F0 m 19 ls [])) hf ?_ _ _ _ hC (lv_sub hl [1, 2, 0] rfl)
    intro a_19 x2_4 s_4 ha_19 hf H locs ls hC hl
    refine lv_iload_n hx hb dX12_laysAbove_19 rfl (lv_at hl 2 rfl) ?_
    refine lv_aload_n hx hb dX12_laysAbove_20 rfl (lv_at hl 0 rfl) ?_
    refine gt_X12_299_m hx hb hta hown hK hC dX12_laysAbove_21 ?_
    refine lv_icmp_ge (tgt := 86) hx hb dX12_laysAbove_24 (by decide) (fun c_5 => ?_) (fun c_5 => ?_)
    · have hf := it_t c_5 hf
      obtain ⟨x1_6, e_6, hf⟩ := lt_inv hf
      refine lv_iinc (v := x1_6) (lv' := [(1, .int x1_6), (0, .ref (o 0)), (2, .int x2_4)]) hx hb dX12_laysAbove_86 hl (k := 1) rfl e_6.symm (by decide) rfl (fun ls hl => ?_)
      refine lv_goto (tgt := 2) hx hb dX12_laysAbove_89 (by decide) ?_
      exact ha_2 _ _ hf _ _ _ hC (lv_sub hl [1, 0] rfl)
    · have hf := it_f c_5 hf
      refine lv_iload_n hx hb dX12_laysAbove_27 rfl (lv_at hl 2 rfl) ?_
      refine lv_iload_n hx hb dX12_laysAbove_28 rfl (lv_at hl 1 rfl) ?_
      obtain ⟨k_80, hk_80, hf⟩ := jn_inv1 hf
      have hj_80 : ∀ (s_7 : Sto) (H : Heap) (locs : List Loc) (ls : Array Slot), k_80 s_7 = some σ2 → CZ D A s H locs (WM y o s_7) → lv_has ls 3 [(0, .ref (o 0)), (1, .int x1_1), (2, .int x2_4)] → W p l e R s m args below meth c H locs 0 0 Q (F0 m 80 ls []) := by
        intro s_7 H locs ls hf hC hl
        have hf := hk_80 _ hf
        obtain ⟨x2_8, e_8, hf⟩ := lt_inv hf
        refine lv_iinc (v := x2_8) (lv' := [(2, .int x2_8), (0, .ref (o 0)), (1, .int x1_1)]) hx hb dX12_laysAbove_80 hl (k := 2) rfl e_8.symm (by decide) rfl (fun ls hl => ?_)
        refine lv_goto (tgt := 19) hx hb dX12_laysAbove_83 (by decide) ?_
        exact ha_19 _ _ hf _ _ _ hC (lv_sub hl [1, 2, 0] rfl)
      refine lv_icmp_eq (tgt := 80) hx hb dX12_laysAbove_29 (by decide) (fun c_9 => ?_) (fun c_9 => ?_)
      · have hf := it_t c_9 hf
        exact hj_80 _ _ _ _ hf hC hl
      · have hf := it_f c_9 hf
        refine lv_aload_n hx hb dX12_laysAbove_32 rfl (lv_at hl 0 rfl) ?_
        refine gt_X12_75_m hx hb hta hown hK hC dX12_laysAbove_33 ?_
        refine lv_iload_n hx hb dX12_laysAbove_36 rfl (lv_at hl 1 rfl) ?_
        obtain ⟨hi_10, hf⟩ := ix_inv hf
        obtain ⟨v_10, e_10, hf⟩ := lt_inv hf
        refine al_M_22 hx hb hK hC hi_10 e_10 dX12_laysAbove_37 ?_
        refine lv_iload_n hx hb dX12_laysAbove_38 rfl (lv_at hl 2 rfl) ?_
        obtain ⟨v_11, hc_11, hf⟩ := calp_inv hf
        refine cc_Si (r_X12_has (D := D) (y := y) (w := WM y o s_4) (ad := ad) (av := av) hc_11 l) hx hb hml hta hown hK hN hV hA hC hRc hRs (by omega) (by omega) wq_1010 wq_1011 wq_1012 wq_1008 hd_X12_has (As := [.long v_10, .int x2_4]) (rest := []) rfl rfl hl.1 rfl dX12_laysAbove_39 (fun H locs hC => ?_)
        refine lv_if_eq (tgt := 80) hx hb dX12_laysAbove_42 (by decide) (fun c_12 => ?_) (fun c_12 => ?_)
        · have hf := it_t c_12 hf
          exact hj_80 _ _ _ _ hf hC hl
        · have hf := it_f c_12 hf
          refine lv_aload_n hx hb dX12_laysAbove_45 rfl (lv_at hl 0 rfl) ?_
          refine gt_X12_85_m hx hb hta hown hK hC dX12_laysAbove_46 ?_
          refine lv_iload_n hx hb dX12_laysAbove_49 rfl (lv_at hl 1 rfl) ?_
          obtain ⟨hi_13, hf⟩ := ix_inv hf
          obtain ⟨v_13, e_13, hf⟩ := lt_inv hf
          refine al_M_25 hx hb hK hC hi_13 e_13 dX12_laysAbove_50 ?_
          refine lv_iconst (v := (-1)) hx hb dX12_laysAbove_51 (by decide) ?_
          obtain ⟨k_73, hk_73, hf⟩ := jn_inv0 hf
          have hj_73 : ∀  (H : Heap) (locs : List Loc) (ls : Array Slot), k_73 = some σ2 → CZ D A s H locs (WM y o s_4) → lv_has ls 3 [(0, .ref (o 0)), (1, .int x1_1), (2, .int x2_4)] → W p l e R s m args below meth c H locs 0 0 Q (F0 m 73 ls []) := by
            intro H locs ls hf hC hl
            have hf := hk_73 hf
            refine lv_aload_n hx hb dX12_laysAbove_73 rfl (lv_at hl 0 rfl) ?_
            refine gt_X12_85_m hx hb hta hown hK hC dX12_laysAbove_74 ?_
            refine lv_iload_n hx hb dX12_laysAbove_77 rfl (lv_at hl 1 rfl) ?_
            refine lv_iload_n hx hb dX12_laysAbove_78 rfl (lv_at hl 2 rfl) ?_
            obtain ⟨hi_15, hf⟩ := ix_inv hf
            obtain ⟨s_15, e_15, hf⟩ := lt_inv hf
            refine as_M_25 hx hb hK hC hi_15 e_15 dX12_laysAbove_79 (fun H locs hC => ?_)
            exact hj_80 _ _ _ _ hf hC hl
          refine lv_icmp_eq (tgt := 73) hx hb dX12_laysAbove_52 (by decide) (fun c_16 => ?_) (fun c_16 => ?_)
          · have hf := it_t c_16 hf
            exact hj_73 _ _ _ hf hC hl
          · have hf := it_f c_16 hf
            refine lv_aload_n hx hb dX12_laysAbove_55 rfl (lv_at hl 0 rfl) ?_
            refine gt_X12_75_m hx hb hta hown hK hC dX12_laysAbove_56 ?_
            refine lv_iload_n hx hb dX12_laysAbove_59 rfl (lv_at hl 2 rfl) ?_
            obtain ⟨hi_17, hf⟩ := ix_inv hf
            obtain ⟨v_17, e_17, hf⟩ := lt_inv hf
            refine al_M_22 hx hb hK hC hi_17 e_17 dX12_laysAbove_60 ?_
            refine lv_aload_n hx hb dX12_laysAbove_61 rfl (lv_at hl 0 rfl) ?_
            refine gt_X12_85_m hx hb hta hown hK hC dX12_laysAbove_62 ?_
            refine lv_iload_n hx hb dX12_laysAbove_65 rfl (lv_at hl 1 rfl) ?_
            obtain ⟨hi_18, hf⟩ := ix_inv hf
            obtain ⟨v_18, e_18, hf⟩ := lt_inv hf
            refine al_M_25 hx hb hK hC hi_18 e_18 dX12_laysAbove_66 ?_
            obtain ⟨v_19, hc_19, hf⟩ := calp_inv hf
            refine cc_Si (r_X12_has (D := D) (y := y) (w := WM y o s_4) (ad := ad) (av := av) hc_19 l) hx hb hml hta hown hK hN hV hA hC hRc hRs (by omega) (by omega) wq_1010 wq_1011 wq_1012 wq_1008 hd_X12_has (As := [.long v_17, .int v_18]) (rest := []) rfl rfl hl.1 rfl dX12_laysAbove_67 (fun H locs hC => ?_)
            refine lv_if_eq (tgt := 80) hx hb dX12_laysAbove_70 (by decide) (fun c_20 => ?_) (fun c_20 => ?_)
            · have hf := it_t c_20 hf
              exact hj_80 _ _ _ _ hf hC hl
            · have hf := it_f c_20 hf
              exact hj_73 _ _ _ hf hC hl

set_option maxHeartbeats 8000000 in
set_option maxRecDepth 100000 in
theorem r_X12_comeTo {D : va_G} {y : Nat → ClassId} {o : Nat → Nat} {ad av : Nat → Nat} {x1 : Int32} {x2 : Int32} {σ : Sto} {v : Int64} (hf : f_X12_comeTo x1 x2 σ = some v) (l : Launch) (sz : Nat) : Met l yX12_comeTo (Cond.code yX12_comeTo cX12_comeTo 7 (some .long) :: ALW) { frames := 1, cells := 0, slots := 0, locals := 22 } (va_Pc [.ref (o 0), .int x1, .int x2] (PZ D y ad av (WM y o σ) sz)) (QZl D (WM y o σ) v (WM y o σ) sz) 0 0 (va_A (WM y o σ) sz) := by
  refine met_l (by decide) (Nat.le_of_ble_eq_true rfl) ?_
  intro p e R s m args below meth c Q A ls hx hb hml hta hown hRc hRs hRf hRl hN hK hV hA hret hC hl
  have hl : lv_has ls 7 [(0, .ref (o 0)), (1, .int x1), (2, .int x2)] := hl
  unfold f_X12_comeTo at hf
  refine lv_lconst (v := 1) hx hb dX12_comeTo_0 rfl ?_
  refine lv_iload_n hx hb dX12_comeTo_1 rfl (lv_at hl 1 rfl) ?_
  refine lv_lshl hx hb dX12_comeTo_2 rfl ?_
  obtain ⟨x3_1, e_1, hf⟩ := lt_inv hf
  refine nml e_1 ?_
  refine lv_lstore_n (lv' := [(3, .long x3_1), (0, .ref (o 0)), (1, .int x1), (2, .int x2)]) hx hb dX12_comeTo_3 rfl hl (by decide) rfl (fun ls hl => ?_)
  refine lv_iload_n hx hb dX12_comeTo_4 rfl (lv_at hl 2 rfl) ?_
  refine lv_iload_n hx hb dX12_comeTo_5 rfl (lv_at hl 3 rfl) ?_
  obtain ⟨k_14, hk_14, hf⟩ := jn_inv1 hf
  have hj_14 : ∀ (t0_2 : Int32) (H : Heap) (locs : List Loc) (ls : Array Slot), k_14 t0_2 = some v → CZ D A s H locs (WM y o σ) → lv_has ls 7 [(0, .ref (o 0)), (2, .int x2), (3, .long x3_1)] → W p l e R s m args below meth c H locs 0 0 Q (F0 m 14 ls [.int t0_2]) := by
    intro t0_2 H locs ls hf hC hl
    have hf := hk_14 _ hf
    refine lv_istore (lv' := [(5, .int t0_2), (0, .ref (o 0)), (2, .int x2), (3, .long x3_1)]) hx hb dX12_comeTo_14 hl (by decide) rfl (fun ls hl => ?_)
    refine itr_inv2 (P := fun (x3_3 : Int64) (x5_3 : Int32) => ∀ (H : Heap) (locs : List Loc) (ls : Array Slot), CZ D A s H locs (WM y o σ) → lv_has ls 7 [(0, .ref (o 0)), (2, .int x2), (3, .long x3_3), (5, .int x5_3)] → W p l e R s m args below meth c H locs 0 0 Q (F0 m 16 ls [])) hf ?_ _ _ _ hC (lv_sub hl [1, 2, 3, 0] rfl)
    intro a_16 x3_3 x5_3 ha_16 hf H locs ls hC hl
    refine lv_iload hx hb dX12_comeTo_16 (lv_at hl 3 rfl) ?_
    refine lv_if_eq (tgt := 112) hx hb dX12_comeTo_18 (by decide) (fun c_4 => ?_) (fun c_4 => ?_)
    · have hf := it_t c_4 hf
      refine lv_lload_n hx hb dX12_comeTo_112 rfl (lv_at hl 2 rfl) ?_
      exact hret _ _ _ _ _ _ (Option.some.inj hf) rfl dX12_comeTo_113 hC
    · have hf := it_f c_4 hf
      refine lv_iconst (v := 0) hx hb dX12_comeTo_21 (by decide) ?_
      refine lv_istore (lv' := [(5, .int 0), (0, .ref (o 0)), (2, .int x2), (3, .long x3_3)]) hx hb dX12_comeTo_22 hl (by decide) rfl (fun ls hl => ?_)
      refine lv_iconst (v := 0) hx hb dX12_comeTo_24 (by decide) ?_
      refine lv_istore (lv' := [(6, .int 0), (5, .int 0), (0, .ref (o 0)), (2, .int x2), (3, .long x3_3)]) hx hb dX12_comeTo_25 hl (by decide) rfl (fun ls hl => ?_)
      refine itr_inv3 (P := fun (x3_5 : Int64) (x5_5 : Int32) (x6_5 : Int32) => ∀ (H : Heap) (locs : List Loc) (ls : Array Slot), CZ D A s H locs (WM y o σ) → lv_has ls 7 [(0, .ref (o 0)), (2, .int x2), (3, .long x3_5), (5, .int x5_5), (6, .int x6_5)] → W p l e R s m args below meth c H locs 0 0 Q (F0 m 27 ls [])) hf ?_ _ _ _ hC (lv_sub hl [2, 3, 4, 1, 0] rfl)
      intro a_27 x3_5 x5_5 x6_5 ha_27 hf H locs ls hC hl
      refine lv_iload hx hb dX12_comeTo_27 (lv_at hl 4 rfl) ?_
      refine lv_aload_n hx hb dX12_comeTo_29 rfl (lv_at hl 0 rfl) ?_
      refine gt_X12_327_m hx hb hta hown hK hC dX12_comeTo_30 ?_
      refine lv_icmp_ge (tgt := 109) hx hb dX12_comeTo_33 (by decide) (fun c_6 => ?_) (fun c_6 => ?_)
      · have hf := it_t c_6 hf
        refine lv_goto (tgt := 16) hx hb dX12_comeTo_109 (by decide) ?_
        exact ha_16 _ _ hf _ _ _ hC (lv_sub hl [0, 1, 2, 3] rfl)
      · have hf := it_f c_6 hf
        refine lv_aload_n hx hb dX12_comeTo_36 rfl (lv_at hl 0 rfl) ?_
        refine gt_X12_69_m hx hb hta hown hK hC dX12_comeTo_37 ?_
        refine lv_iload hx hb dX12_comeTo_40 (lv_at hl 4 rfl) ?_
        obtain ⟨hi_7, hf⟩ := ix_inv hf
        obtain ⟨v_7, e_7, hf⟩ := lt_inv hf
        refine al_M_20 hx hb hK hC hi_7 e_7 dX12_comeTo_42 ?_
        obtain ⟨k_103, hk_103, hf⟩ := jn_inv2 hf
        have hj_103 : ∀ (x3_8 : Int64) (x5_8 : Int32) (H : Heap) (locs : List Loc) (ls : Array Slot), k_103 x3_8 x5_8 = some v → CZ D A s H locs (WM y o σ) → lv_has ls 7 [(0, .ref (o 0)), (2, .int x2), (3, .long x3_8), (5, .int x5_8), (6, .int x6_5)] → W p l e R s m args below meth c H locs 0 0 Q (F0 m 103 ls []) := by
          intro x3_8 x5_8 H locs ls hf hC hl
          have hf := hk_103 _ _ hf
          obtain ⟨x6_9, e_9, hf⟩ := lt_inv hf
          refine lv_iinc (v := x6_9) (lv' := [(6, .int x6_9), (0, .ref (o 0)), (2, .int x2), (3, .long x3_8), (5, .int x5_8)]) hx hb dX12_comeTo_103 hl (k := 4) rfl e_9.symm (by decide) rfl (fun ls hl => ?_)
          refine lv_goto (tgt := 27) hx hb dX12_comeTo_106 (by decide) ?_
          exact ha_27 _ _ _ hf _ _ _ hC (lv_sub hl [1, 2, 3, 4, 0] rfl)
        refine lv_if_ne (tgt := 103) hx hb dX12_comeTo_43 (by decide) (fun c_10 => ?_) (fun c_10 => ?_)
        · have hf := it_f c_10 hf
          exact hj_103 _ _ _ _ _ hf hC hl
        · have hf := it_t c_10 hf
          refine lv_lload_n hx hb dX12_comeTo_46 rfl (lv_at hl 2 rfl) ?_
          refine lv_aload_n hx hb dX12_comeTo_47 rfl (lv_at hl 0 rfl) ?_
          refine gt_X12_62_m hx hb hta hown hK hC dX12_comeTo_48 ?_
          refine lv_iload hx hb dX12_comeTo_51 (lv_at hl 4 rfl) ?_
          obtain ⟨hi_11, hf⟩ := ix_inv hf
          obtain ⟨v_11, e_11, hf⟩ := lt_inv hf
          refine al_M_18 hx hb hK hC hi_11 e_11 dX12_comeTo_53 ?_
          obtain ⟨v_12, hc_12, hf⟩ := calp_inv hf
          refine cc_Si (r_X12_has (D := D) (y := y) (w := WM y o σ) (ad := ad) (av := av) hc_12 l) hx hb hml hta hown hK hN hV hA hC hRc hRs (by omega) (by omega) wq_1010 wq_1011 wq_1012 wq_1008 hd_X12_has (As := [.long x3_5, .int v_11]) (rest := []) rfl rfl hl.1 rfl dX12_comeTo_54 (fun H locs hC => ?_)
          refine lv_if_eq (tgt := 103) hx hb dX12_comeTo_57 (by decide) (fun c_13 => ?_) (fun c_13 => ?_)
          · have hf := it_t c_13 hf
            exact hj_103 _ _ _ _ _ hf hC hl
          · have hf := it_f c_13 hf
            refine lv_lload_n hx hb dX12_comeTo_60 rfl (lv_at hl 2 rfl) ?_
            refine lv_aload_n hx hb dX12_comeTo_61 rfl (lv_at hl 0 rfl) ?_
            refine gt_X12_59_m hx hb hta hown hK hC dX12_comeTo_62 ?_
            refine lv_iload hx hb dX12_comeTo_65 (lv_at hl 4 rfl) ?_
            obtain ⟨hi_14, hf⟩ := ix_inv hf
            obtain ⟨v_14, e_14, hf⟩ := lt_inv hf
            refine al_M_17 hx hb hK hC hi_14 e_14 dX12_comeTo_67 ?_
            obtain ⟨v_15, hc_15, hf⟩ := calp_inv hf
            refine cc_Si (r_X12_has (D := D) (y := y) (w := WM y o σ) (ad := ad) (av := av) hc_15 l) hx hb hml hta hown hK hN hV hA hC hRc hRs (by omega) (by omega) wq_1010 wq_1011 wq_1012 wq_1008 hd_X12_has (As := [.long x3_5, .int v_14]) (rest := []) rfl rfl hl.1 rfl dX12_comeTo_68 (fun H locs hC => ?_)
            refine lv_if_ne (tgt := 103) hx hb dX12_comeTo_71 (by decide) (fun c_16 => ?_) (fun c_16 => ?_)
            · have hf := it_f c_16 hf
              exact hj_103 _ _ _ _ _ hf hC hl
            · have hf := it_t c_16 hf
              refine lv_aload_n hx hb dX12_comeTo_74 rfl (lv_at hl 0 rfl) ?_
              refine gt_X12_59_m hx hb hta hown hK hC dX12_comeTo_75 ?_
              refine lv_iload hx hb dX12_comeTo_78 (lv_at hl 4 rfl) ?_
              obtain ⟨hi_17, hf⟩ := ix_inv hf
              obtain ⟨v_17, e_17, hf⟩ := lt_inv hf
              refine al_M_17 hx hb hK hC hi_17 e_17 dX12_comeTo_80 ?_
              refine lv_iload_n hx hb dX12_comeTo_81 rfl (lv_at hl 1 rfl) ?_
              refine lv_icmp_ne (tgt := 88) hx hb dX12_comeTo_82 (by decide) (fun c_18 => ?_) (fun c_18 => ?_)
              · have hf := it_f c_18 hf
                refine lv_lload_n hx hb dX12_comeTo_88 rfl (lv_at hl 2 rfl) ?_
                refine lv_lconst (v := 1) hx hb dX12_comeTo_89 rfl ?_
                refine lv_aload_n hx hb dX12_comeTo_90 rfl (lv_at hl 0 rfl) ?_
                refine gt_X12_59_m hx hb hta hown hK hC dX12_comeTo_91 ?_
                refine lv_iload hx hb dX12_comeTo_94 (lv_at hl 4 rfl) ?_
                obtain ⟨hi_19, hf⟩ := ix_inv hf
                obtain ⟨v_19, e_19, hf⟩ := lt_inv hf
                refine al_M_17 hx hb hK hC hi_19 e_19 dX12_comeTo_96 ?_
                refine lv_lshl hx hb dX12_comeTo_97 rfl ?_
                refine lv_lor hx hb dX12_comeTo_98 ?_
                obtain ⟨x3_20, e_20, hf⟩ := lt_inv hf
                refine nml e_20 ?_
                refine lv_lstore_n (lv' := [(3, .long x3_20), (0, .ref (o 0)), (2, .int x2), (5, .int x5_5), (6, .int x6_5)]) hx hb dX12_comeTo_99 rfl hl (by decide) rfl (fun ls hl => ?_)
                refine lv_iconst (v := 1) hx hb dX12_comeTo_100 (by decide) ?_
                refine lv_istore (lv' := [(5, .int 1), (3, .long x3_20), (0, .ref (o 0)), (2, .int x2), (6, .int x6_5)]) hx hb dX12_comeTo_101 hl (by decide) rfl (fun ls hl => ?_)
                exact hj_103 _ _ _ _ _ hf hC (lv_sub hl [2, 3, 1, 0, 4] rfl)
              · have hf := it_t c_18 hf
                refine lv_goto (tgt := 103) hx hb dX12_comeTo_85 (by decide) ?_
                exact hj_103 _ _ _ _ _ hf hC hl
  refine lv_icmp_eq (tgt := 13) hx hb dX12_comeTo_6 (by decide) (fun c_21 => ?_) (fun c_21 => ?_)
  · have hf := it_t c_21 hf
    refine lv_iconst (v := 0) hx hb dX12_comeTo_13 (by decide) ?_
    exact hj_14 _ _ _ _ hf hC (lv_sub hl [1, 3, 0] rfl)
  · have hf := it_f c_21 hf
    refine lv_iconst (v := 1) hx hb dX12_comeTo_9 (by decide) ?_
    refine lv_goto (tgt := 14) hx hb dX12_comeTo_10 (by decide) ?_
    exact hj_14 _ _ _ _ hf hC (lv_sub hl [1, 3, 0] rfl)

set_option maxHeartbeats 8000000 in
set_option maxRecDepth 100000 in
theorem r_X12_laysLoops {D : va_G} {y : Nat → ClassId} {o : Nat → Nat} {ad av : Nat → Nat} {σ : Sto} {σ2 : Sto} (hf : f_X12_laysLoops σ = some σ2) (l : Launch) (sz : Nat) : Met l yX12_laysLoops (Cond.code yX12_laysLoops cX12_laysLoops 3 none :: ALW) { frames := 2, cells := 0, slots := 0, locals := 48 } (va_Pc [.ref (o 0)] (PZ D y ad av (WM y o σ) sz)) (QZv D (WM y o σ) (WM y o σ2) sz) 0 0 (va_A (WM y o σ) sz) := by
  refine met_v (by decide) (Nat.le_of_ble_eq_true rfl) ?_
  intro p e R s m args below meth c Q A ls hx hb hml hta hown hRc hRs hRf hRl hN hK hV hA hret hC hl
  have hl : lv_has ls 3 [(0, .ref (o 0))] := hl
  unfold f_X12_laysLoops at hf
  refine lv_iconst (v := 0) hx hb dX12_laysLoops_0 (by decide) ?_
  refine lv_istore_n (lv' := [(1, .int 0), (0, .ref (o 0))]) hx hb dX12_laysLoops_1 rfl hl (by decide) rfl (fun ls hl => ?_)
  refine itr_inv2 (P := fun (x1_1 : Int32) (s_1 : Sto) => ∀ (H : Heap) (locs : List Loc) (ls : Array Slot), CZ D A s H locs (WM y o s_1) → lv_has ls 3 [(0, .ref (o 0)), (1, .int x1_1)] → W p l e R s m args below meth c H locs 0 0 Q (F0 m 2 ls [])) hf ?_ _ _ _ hC (lv_sub hl [1, 0] rfl)
  intro a_2 x1_1 s_1 ha_2 hf H locs ls hC hl
  refine lv_iload_n hx hb dX12_laysLoops_2 rfl (lv_at hl 1 rfl) ?_
  refine lv_aload_n hx hb dX12_laysLoops_3 rfl (lv_at hl 0 rfl) ?_
  refine gt_X12_299_m hx hb hta hown hK hC dX12_laysLoops_4 ?_
  refine lv_icmp_ge (tgt := 82) hx hb dX12_laysLoops_7 (by decide) (fun c_2 => ?_) (fun c_2 => ?_)
  · have hf := it_t c_2 hf
    exact hret _ _ _ _ _ (congrArg (WM y o) (Option.some.inj hf)) dX12_laysLoops_82 hC
  · have hf := it_f c_2 hf
    refine lv_aload_n hx hb dX12_laysLoops_10 rfl (lv_at hl 0 rfl) ?_
    refine gt_X12_79_m hx hb hta hown hK hC dX12_laysLoops_11 ?_
    refine lv_iload_n hx hb dX12_laysLoops_14 rfl (lv_at hl 1 rfl) ?_
    refine lv_lconst (v := 0) hx hb dX12_laysLoops_15 rfl ?_
    obtain ⟨hi_3, hf⟩ := ix_inv hf
    obtain ⟨s_3, e_3, hf⟩ := lt_inv hf
    refine as_M_23 hx hb hK hC hi_3 e_3 dX12_laysLoops_16 (fun H locs hC => ?_)
    refine lv_iconst (v := 0) hx hb dX12_laysLoops_17 (by decide) ?_
    refine lv_istore_n (lv' := [(2, .int 0), (0, .ref (o 0)), (1, .int x1_1)]) hx hb dX12_laysLoops_18 rfl hl (by decide) rfl (fun ls hl => ?_)
    refine itr_inv2 (P := fun (x2_4 : Int32) (s_4 : Sto) => ∀ (H : Heap) (locs : List Loc) (ls : Array Slot), CZ D A s H locs (WM y o s_4) → lv_has ls 3 [(0, .ref (o 0)), (1, .int x1_1), (2, .int x2_4)] → W p l e R s m args below meth c H locs 0 0 Q (F0 m 19 ls [])) hf ?_ _ _ _ hC (lv_sub hl [1, 2, 0] rfl)
    intro a_19 x2_4 s_4 ha_19 hf H locs ls hC hl
    refine lv_iload_n hx hb dX12_laysLoops_19 rfl (lv_at hl 2 rfl) ?_
    refine lv_aload_n hx hb dX12_laysLoops_20 rfl (lv_at hl 0 rfl) ?_
    refine gt_X12_327_m hx hb hta hown hK hC dX12_laysLoops_21 ?_
    refine lv_icmp_ge (tgt := 76) hx hb dX12_laysLoops_24 (by decide) (fun c_5 => ?_) (fun c_5 => ?_)
    · have hf := it_t c_5 hf
      obtain ⟨x1_6, e_6, hf⟩ := lt_inv hf
      refine lv_iinc (v := x1_6) (lv' := [(1, .int x1_6), (0, .ref (o 0)), (2, .int x2_4)]) hx hb dX12_laysLoops_76 hl (k := 1) rfl e_6.symm (by decide) rfl (fun ls hl => ?_)
      refine lv_goto (tgt := 2) hx hb dX12_laysLoops_79 (by decide) ?_
      exact ha_2 _ _ hf _ _ _ hC (lv_sub hl [1, 0] rfl)
    · have hf := it_f c_5 hf
      refine lv_aload_n hx hb dX12_laysLoops_27 rfl (lv_at hl 0 rfl) ?_
      refine gt_X12_72_m hx hb hta hown hK hC dX12_laysLoops_28 ?_
      refine lv_iload_n hx hb dX12_laysLoops_31 rfl (lv_at hl 2 rfl) ?_
      obtain ⟨hi_7, hf⟩ := ix_inv hf
      obtain ⟨v_7, e_7, hf⟩ := lt_inv hf
      refine al_M_21 hx hb hK hC hi_7 e_7 dX12_laysLoops_32 ?_
      obtain ⟨k_70, hk_70, hf⟩ := jn_inv1 hf
      have hj_70 : ∀ (s_8 : Sto) (H : Heap) (locs : List Loc) (ls : Array Slot), k_70 s_8 = some σ2 → CZ D A s H locs (WM y o s_8) → lv_has ls 3 [(0, .ref (o 0)), (1, .int x1_1), (2, .int x2_4)] → W p l e R s m args below meth c H locs 0 0 Q (F0 m 70 ls []) := by
        intro s_8 H locs ls hf hC hl
        have hf := hk_70 _ hf
        obtain ⟨x2_9, e_9, hf⟩ := lt_inv hf
        refine lv_iinc (v := x2_9) (lv' := [(2, .int x2_9), (0, .ref (o 0)), (1, .int x1_1)]) hx hb dX12_laysLoops_70 hl (k := 2) rfl e_9.symm (by decide) rfl (fun ls hl => ?_)
        refine lv_goto (tgt := 19) hx hb dX12_laysLoops_73 (by decide) ?_
        exact ha_19 _ _ hf _ _ _ hC (lv_sub hl [1, 2, 0] rfl)
      refine lv_if_eq (tgt := 70) hx hb dX12_laysLoops_33 (by decide) (fun c_10 => ?_) (fun c_10 => ?_)
      · have hf := it_t c_10 hf
        exact hj_70 _ _ _ _ hf hC hl
      · have hf := it_f c_10 hf
        refine lv_aload_n hx hb dX12_laysLoops_36 rfl (lv_at hl 0 rfl) ?_
        refine gt_X12_62_m hx hb hta hown hK hC dX12_laysLoops_37 ?_
        refine lv_iload_n hx hb dX12_laysLoops_40 rfl (lv_at hl 2 rfl) ?_
        obtain ⟨hi_11, hf⟩ := ix_inv hf
        obtain ⟨v_11, e_11, hf⟩ := lt_inv hf
        refine al_M_18 hx hb hK hC hi_11 e_11 dX12_laysLoops_41 ?_
        refine lv_iload_n hx hb dX12_laysLoops_42 rfl (lv_at hl 1 rfl) ?_
        refine lv_icmp_ne (tgt := 70) hx hb dX12_laysLoops_43 (by decide) (fun c_12 => ?_) (fun c_12 => ?_)
        · have hf := it_f c_12 hf
          exact hj_70 _ _ _ _ hf hC hl
        · have hf := it_t c_12 hf
          refine lv_aload_n hx hb dX12_laysLoops_46 rfl (lv_at hl 0 rfl) ?_
          refine gt_X12_79_m hx hb hta hown hK hC dX12_laysLoops_47 ?_
          refine lv_iload_n hx hb dX12_laysLoops_50 rfl (lv_at hl 1 rfl) ?_
          refine lv_dup2_11 hx hb dX12_laysLoops_51 rfl rfl ?_
          obtain ⟨hi_13, hf⟩ := ix_inv hf
          obtain ⟨v_13, e_13, hf⟩ := lt_inv hf
          refine al_M_23 hx hb hK hC hi_13 e_13 dX12_laysLoops_52 ?_
          refine lv_lconst (v := 1) hx hb dX12_laysLoops_53 rfl ?_
          refine lv_iload_n hx hb dX12_laysLoops_54 rfl (lv_at hl 1 rfl) ?_
          refine lv_lshl hx hb dX12_laysLoops_55 rfl ?_
          refine lv_aload_n hx hb dX12_laysLoops_56 rfl (lv_at hl 0 rfl) ?_
          refine lv_aload_n hx hb dX12_laysLoops_57 rfl (lv_at hl 0 rfl) ?_
          refine gt_X12_59_m hx hb hta hown hK hC dX12_laysLoops_58 ?_
          refine lv_iload_n hx hb dX12_laysLoops_61 rfl (lv_at hl 2 rfl) ?_
          obtain ⟨hi_14, hf⟩ := ix_inv hf
          obtain ⟨v_14, e_14, hf⟩ := lt_inv hf
          refine al_M_17 hx hb hK hC hi_14 e_14 dX12_laysLoops_62 ?_
          refine lv_iload_n hx hb dX12_laysLoops_63 rfl (lv_at hl 1 rfl) ?_
          obtain ⟨v_15, hc_15, hf⟩ := calp_inv hf
          refine cc_Vl (r_X12_comeTo (D := D) (y := y) (o := o) (ad := ad) (av := av) hc_15 l) hx hb hml hta hown hK hN hV hA hC hRc hRs (by omega) (by omega) wq_1161 (q := 0) (ci := 12) rfl rfl wq_1162 wq_1163 wq_1012 wq_1159 hd_X12_comeTo (As := [.int v_14, .int x1_1]) (rest := [.long ((1 : Int64) <<< (x1_1.toInt64 &&& 63)), .long v_13, .int x1_1, .ref (o 23)]) rfl rfl hl.1 rfl dX12_laysLoops_64 (fun H locs hC => ?_)
          refine lv_lor hx hb dX12_laysLoops_67 ?_
          refine lv_lor hx hb dX12_laysLoops_68 ?_
          obtain ⟨hi_16, hf⟩ := ix_inv hf
          obtain ⟨s_16, e_16, hf⟩ := lt_inv hf
          refine as_M_23 hx hb hK hC hi_16 e_16 dX12_laysLoops_69 (fun H locs hC => ?_)
          exact hj_70 _ _ _ _ hf hC hl

set_option maxHeartbeats 8000000 in
set_option maxRecDepth 100000 in
theorem r_X12_isOneOf_s109 {D : va_G} {y : Nat → ClassId} {ad av : Nat → Nat} {w : va_W} {x1 : Int32} {v : Int32} (hf : f_X12_isOneOf_s109 x1 = some v) (l : Launch) (sz : Nat) : Met l yX12_isOneOf (Cond.code yX12_isOneOf cX12_isOneOf 3 (some .boolean) :: ALW) { frames := 8, cells := 0, slots := 0, locals := 200 } (va_Pc [.int x1, .ref (ad 109)] (PZ D y ad av (w) sz)) (QZi D (w) v (w) sz) 0 0 (va_A (w) sz) := by
  refine met_i (by decide) (Nat.le_of_ble_eq_true rfl) ?_
  intro p e R s m args below meth c Q A ls hx hb hml hta hown hRc hRs hRf hRl hN hK hV hA hret hC hl
  have hl : lv_has ls 3 [(0, .int x1), (1, .ref (ad 109))] := hl
  unfold f_X12_isOneOf_s109 at hf
  refine lv_iconst (v := 0) hx hb dX12_isOneOf_0 (by decide) ?_
  refine lv_istore_n (lv' := [(2, .int 0), (0, .int x1), (1, .ref (ad 109))]) hx hb dX12_isOneOf_1 rfl hl (by decide) rfl (fun ls hl => ?_)
  refine itr_inv1 (P := fun (x2_1 : Int32) => ∀ (H : Heap) (locs : List Loc) (ls : Array Slot), CZ D A s H locs w → lv_has ls 3 [(0, .int x1), (1, .ref (ad 109)), (2, .int x2_1)] → W p l e R s m args below meth c H locs 0 0 Q (F0 m 2 ls [])) hf ?_ _ _ _ hC (lv_sub hl [1, 2, 0] rfl)
  intro a_2 x2_1 ha_2 hf H locs ls hC hl
  refine lv_iload_n hx hb dX12_isOneOf_2 rfl (lv_at hl 2 rfl) ?_
  refine lv_aload_n hx hb dX12_isOneOf_3 rfl (lv_at hl 1 rfl) ?_
  refine cc_length hx hb hml hta hown hK hN hV hA hC hRc hRs (by omega) (by omega) wq_1039 (i := 109) (n := 2) (by decide) (by decide) (by decide) hl.1 rfl dX12_isOneOf_4 (fun H locs hC => ?_)
  refine lv_icmp_ge (tgt := 27) hx hb dX12_isOneOf_7 (by decide) (fun c_2 => ?_) (fun c_2 => ?_)
  · have hf := it_t c_2 hf
    refine lv_iconst (v := 0) hx hb dX12_isOneOf_27 (by decide) ?_
    exact hret _ _ _ _ _ _ (Option.some.inj hf) rfl rfl dX12_isOneOf_28 hC
  · have hf := it_f c_2 hf
    refine lv_aload_n hx hb dX12_isOneOf_10 rfl (lv_at hl 1 rfl) ?_
    refine lv_iload_n hx hb dX12_isOneOf_11 rfl (lv_at hl 2 rfl) ?_
    obtain ⟨hi_3, hf⟩ := ix_inv hf
    obtain ⟨v_3, e_3, hf⟩ := lt_inv hf
    refine cc_charAt hx hb hml hta hown hK hN hV hA hC hRc hRs (by omega) (by omega) wq_1040 (i := 109) (n := 2) (by decide) (by decide) (by decide) hi_3 e_3 hl.1 rfl dX12_isOneOf_12 (fun H locs hC => ?_)
    refine lv_iload_n hx hb dX12_isOneOf_15 rfl (lv_at hl 0 rfl) ?_
    refine lv_icmp_ne (tgt := 21) hx hb dX12_isOneOf_16 (by decide) (fun c_4 => ?_) (fun c_4 => ?_)
    · have hf := it_f c_4 hf
      obtain ⟨x2_5, e_5, hf⟩ := lt_inv hf
      refine lv_iinc (v := x2_5) (lv' := [(2, .int x2_5), (0, .int x1), (1, .ref (ad 109))]) hx hb dX12_isOneOf_21 hl (k := 2) rfl e_5.symm (by decide) rfl (fun ls hl => ?_)
      refine lv_goto (tgt := 2) hx hb dX12_isOneOf_24 (by decide) ?_
      exact ha_2 _ hf _ _ _ hC (lv_sub hl [1, 2, 0] rfl)
    · have hf := it_t c_4 hf
      refine lv_iconst (v := 1) hx hb dX12_isOneOf_19 (by decide) ?_
      exact hret _ _ _ _ _ _ (Option.some.inj hf) rfl rfl dX12_isOneOf_20 hC

set_option maxHeartbeats 8000000 in
set_option maxRecDepth 100000 in
theorem r_X12_isOne {D : va_G} {y : Nat → ClassId} {o : Nat → Nat} {ad av : Nat → Nat} {x1 : Int32} {σ : Sto} {v : Int32} (hf : f_X12_isOne x1 σ = some v) (l : Launch) (sz : Nat) : Met l yX12_isOne (Cond.code yX12_isOne cX12_isOne 2 (some .boolean) :: ALW) { frames := 0, cells := 0, slots := 0, locals := 0 } (va_Pc [.ref (o 0), .int x1] (PZ D y ad av (WM y o σ) sz)) (QZi D (WM y o σ) v (WM y o σ) sz) 0 0 (va_A (WM y o σ) sz) := by
  refine met_i (by decide) (Nat.le_of_ble_eq_true rfl) ?_
  intro p e R s m args below meth c Q A ls hx hb hml hta hown hRc hRs hRf hRl hN hK hV hA hret hC hl
  have hl : lv_has ls 2 [(0, .ref (o 0)), (1, .int x1)] := hl
  unfold f_X12_isOne at hf
  refine lv_aload_n hx hb dX12_isOne_0 rfl (lv_at hl 0 rfl) ?_
  refine gt_X12_88_m hx hb hta hown hK hC dX12_isOne_1 ?_
  refine lv_iload_n hx hb dX12_isOne_4 rfl (lv_at hl 1 rfl) ?_
  obtain ⟨hi_1, hf⟩ := ix_inv hf
  obtain ⟨v_1, e_1, hf⟩ := lt_inv hf
  refine al_M_26 hx hb hK hC hi_1 e_1 dX12_isOne_5 ?_
  refine lv_iconst (v := 5) hx hb dX12_isOne_6 (by decide) ?_
  obtain ⟨k_21, hk_21, hf⟩ := jn_inv0 hf
  have hj_21 : ∀  (H : Heap) (locs : List Loc) (ls : Array Slot), k_21 = some v → CZ D A s H locs (WM y o σ) → lv_has ls 2 [] → W p l e R s m args below meth c H locs 0 0 Q (F0 m 21 ls []) := by
    intro H locs ls hf hC hl
    have hf := hk_21 hf
    refine lv_iconst (v := 1) hx hb dX12_isOne_21 (by decide) ?_
    refine lv_goto (tgt := 26) hx hb dX12_isOne_22 (by decide) ?_
    exact hret _ _ _ _ _ _ (Option.some.inj hf) rfl rfl dX12_isOne_26 hC
  refine lv_icmp_eq (tgt := 21) hx hb dX12_isOne_7 (by decide) (fun c_3 => ?_) (fun c_3 => ?_)
  · have hf := it_t c_3 hf
    exact hj_21 _ _ _ hf hC (lv_sub hl [] rfl)
  · have hf := it_f c_3 hf
    refine lv_aload_n hx hb dX12_isOne_10 rfl (lv_at hl 0 rfl) ?_
    refine gt_X12_88_m hx hb hta hown hK hC dX12_isOne_11 ?_
    refine lv_iload_n hx hb dX12_isOne_14 rfl (lv_at hl 1 rfl) ?_
    obtain ⟨hi_4, hf⟩ := ix_inv hf
    obtain ⟨v_4, e_4, hf⟩ := lt_inv hf
    refine al_M_26 hx hb hK hC hi_4 e_4 dX12_isOne_15 ?_
    refine lv_bipush (v := 6) hx hb dX12_isOne_16 (by decide) ?_
    refine lv_icmp_ne (tgt := 25) hx hb dX12_isOne_18 (by decide) (fun c_5 => ?_) (fun c_5 => ?_)
    · have hf := it_f c_5 hf
      refine lv_iconst (v := 0) hx hb dX12_isOne_25 (by decide) ?_
      exact hret _ _ _ _ _ _ (Option.some.inj hf) rfl rfl dX12_isOne_26 hC
    · have hf := it_t c_5 hf
      exact hj_21 _ _ _ hf hC (lv_sub hl [] rfl)

set_option maxHeartbeats 8000000 in
set_option maxRecDepth 100000 in
theorem r_X12_isBoth {D : va_G} {y : Nat → ClassId} {o : Nat → Nat} {ad av : Nat → Nat} {x1 : Int32} {σ : Sto} {v : Int32} (hf : f_X12_isBoth x1 σ = some v) (l : Launch) (sz : Nat) : Met l yX12_isBoth (Cond.code yX12_isBoth cX12_isBoth 2 (some .boolean) :: ALW) { frames := 0, cells := 0, slots := 0, locals := 0 } (va_Pc [.ref (o 0), .int x1] (PZ D y ad av (WM y o σ) sz)) (QZi D (WM y o σ) v (WM y o σ) sz) 0 0 (va_A (WM y o σ) sz) := by
  refine met_i (by decide) (Nat.le_of_ble_eq_true rfl) ?_
  intro p e R s m args below meth c Q A ls hx hb hml hta hown hRc hRs hRf hRl hN hK hV hA hret hC hl
  have hl : lv_has ls 2 [(0, .ref (o 0)), (1, .int x1)] := hl
  unfold f_X12_isBoth at hf
  refine lv_aload_n hx hb dX12_isBoth_0 rfl (lv_at hl 0 rfl) ?_
  refine gt_X12_88_m hx hb hta hown hK hC dX12_isBoth_1 ?_
  refine lv_iload_n hx hb dX12_isBoth_4 rfl (lv_at hl 1 rfl) ?_
  obtain ⟨hi_1, hf⟩ := ix_inv hf
  obtain ⟨v_1, e_1, hf⟩ := lt_inv hf
  refine al_M_26 hx hb hK hC hi_1 e_1 dX12_isBoth_5 ?_
  refine lv_bipush (v := 6) hx hb dX12_isBoth_6 (by decide) ?_
  refine lv_icmp_le (tgt := 15) hx hb dX12_isBoth_8 (by decide) (fun c_2 => ?_) (fun c_2 => ?_)
  · have hf := it_t c_2 hf
    refine lv_iconst (v := 0) hx hb dX12_isBoth_15 (by decide) ?_
    exact hret _ _ _ _ _ _ (Option.some.inj hf) rfl rfl dX12_isBoth_16 hC
  · have hf := it_f c_2 hf
    refine lv_iconst (v := 1) hx hb dX12_isBoth_11 (by decide) ?_
    refine lv_goto (tgt := 16) hx hb dX12_isBoth_12 (by decide) ?_
    exact hret _ _ _ _ _ _ (Option.some.inj hf) rfl rfl dX12_isBoth_16 hC

set_option maxHeartbeats 8000000 in
set_option maxRecDepth 100000 in
theorem rg_X12_hasEffects {D : va_G} {y : Nat → ClassId} {o : Nat → Nat} {ad av : Nat → Nat} : ∀ d : Nat, (∀ {x1 : Int32} {σ : Sto} {v : Int32}, f_X12_hasEffects d x1 σ = some v → ∀ (l : Launch) (sz : Nat), Met l yX12_hasEffects (Cond.code yX12_hasEffects cX12_hasEffects 2 (some .boolean) :: ALW) { frames := d + 1, cells := 0, slots := 0, locals := d * 21 + 21 } (va_Pc [.ref (o 0), .int x1] (PZ D y ad av (WM y o σ) sz)) (QZi D (WM y o σ) v (WM y o σ) sz) 0 0 (va_A (WM y o σ) sz)) := by
  intro d
  induction d with
  | zero => exact fun hc => by have hc : (none : Option (Int32)) = some _ := hc; cases hc
  | succ d ih =>
    have h_X12_hasEffects := @ih
    intro x1 σ v hf l sz
    have hf : b_X12_hasEffects (f_X12_hasEffects d) x1 σ = some v := hf
    refine met_i (by decide) (Nat.le_of_ble_eq_true rfl) ?_
    intro p e R s m args below meth c Q A ls hx hb hml hta hown hRc hRs hRf hRl hN hK hV hA hret hC hl
    have hl : lv_has ls 2 [(0, .ref (o 0)), (1, .int x1)] := hl
    unfold b_X12_hasEffects at hf
    refine lv_aload_n hx hb dX12_hasEffects_0 rfl (lv_at hl 0 rfl) ?_
    refine lv_iload_n hx hb dX12_hasEffects_1 rfl (lv_at hl 1 rfl) ?_
    obtain ⟨v_1, hc_1, hf⟩ := calp_inv hf
    refine cc_Vi (r_X12_isOne (D := D) (y := y) (o := o) (ad := ad) (av := av) hc_1 l) hx hb hml hta hown hK hN hV hA hC hRc hRs (by omega) (by omega) wq_1174 (q := 0) (ci := 12) rfl rfl wq_1175 wq_1176 wq_1012 wq_1171 hd_X12_isOne (As := [.int x1]) (rest := []) rfl rfl hl.1 rfl dX12_hasEffects_2 (fun H locs hC => ?_)
    refine lv_if_eq (tgt := 19) hx hb dX12_hasEffects_5 (by decide) (fun c_2 => ?_) (fun c_2 => ?_)
    · have hf := it_t c_2 hf
      refine lv_aload_n hx hb dX12_hasEffects_19 rfl (lv_at hl 0 rfl) ?_
      refine lv_iload_n hx hb dX12_hasEffects_20 rfl (lv_at hl 1 rfl) ?_
      obtain ⟨v_3, hc_3, hf⟩ := calp_inv hf
      refine cc_Vi (r_X12_isBoth (D := D) (y := y) (o := o) (ad := ad) (av := av) hc_3 l) hx hb hml hta hown hK hN hV hA hC hRc hRs (by omega) (by omega) wq_1180 (q := 0) (ci := 12) rfl rfl wq_1181 wq_1182 wq_1012 wq_1172 hd_X12_isBoth (As := [.int x1]) (rest := []) rfl rfl hl.1 rfl dX12_hasEffects_21 (fun H locs hC => ?_)
      refine lv_if_ne (tgt := 43) hx hb dX12_hasEffects_24 (by decide) (fun c_4 => ?_) (fun c_4 => ?_)
      · have hf := it_f c_4 hf
        refine lv_aload_n hx hb dX12_hasEffects_43 rfl (lv_at hl 0 rfl) ?_
        refine gt_X12_88_m hx hb hta hown hK hC dX12_hasEffects_44 ?_
        refine lv_iload_n hx hb dX12_hasEffects_47 rfl (lv_at hl 1 rfl) ?_
        obtain ⟨hi_7, hf⟩ := ix_inv hf
        obtain ⟨v_7, e_7, hf⟩ := lt_inv hf
        refine al_M_26 hx hb hK hC hi_7 e_7 dX12_hasEffects_48 ?_
        refine lv_bipush (v := 47) hx hb dX12_hasEffects_49 (by decide) ?_
        obtain ⟨k_91, hk_91, hf⟩ := jn_inv0 hf
        have hj_91 : ∀  (H : Heap) (locs : List Loc) (ls : Array Slot), k_91 = some v → CZ D A s H locs (WM y o σ) → lv_has ls 2 [] → W p l e R s m args below meth c H locs 0 0 Q (F0 m 91 ls []) := by
          intro H locs ls hf hC hl
          have hf := hk_91 hf
          refine lv_iconst (v := 1) hx hb dX12_hasEffects_91 (by decide) ?_
          refine lv_goto (tgt := 96) hx hb dX12_hasEffects_92 (by decide) ?_
          exact hret _ _ _ _ _ _ (Option.some.inj hf) rfl rfl dX12_hasEffects_96 hC
        refine lv_icmp_eq (tgt := 91) hx hb dX12_hasEffects_51 (by decide) (fun c_9 => ?_) (fun c_9 => ?_)
        · have hf := it_t c_9 hf
          exact hj_91 _ _ _ hf hC (lv_sub hl [] rfl)
        · have hf := it_f c_9 hf
          refine lv_aload_n hx hb dX12_hasEffects_54 rfl (lv_at hl 0 rfl) ?_
          refine gt_X12_88_m hx hb hta hown hK hC dX12_hasEffects_55 ?_
          refine lv_iload_n hx hb dX12_hasEffects_58 rfl (lv_at hl 1 rfl) ?_
          obtain ⟨hi_10, hf⟩ := ix_inv hf
          obtain ⟨v_10, e_10, hf⟩ := lt_inv hf
          refine al_M_26 hx hb hK hC hi_10 e_10 dX12_hasEffects_59 ?_
          refine lv_bipush (v := 37) hx hb dX12_hasEffects_60 (by decide) ?_
          refine lv_icmp_eq (tgt := 91) hx hb dX12_hasEffects_62 (by decide) (fun c_11 => ?_) (fun c_11 => ?_)
          · have hf := it_t c_11 hf
            exact hj_91 _ _ _ hf hC (lv_sub hl [] rfl)
          · have hf := it_f c_11 hf
            refine lv_aload_n hx hb dX12_hasEffects_65 rfl (lv_at hl 0 rfl) ?_
            refine lv_aload_n hx hb dX12_hasEffects_66 rfl (lv_at hl 0 rfl) ?_
            refine gt_X12_91_m hx hb hta hown hK hC dX12_hasEffects_67 ?_
            refine lv_iload_n hx hb dX12_hasEffects_70 rfl (lv_at hl 1 rfl) ?_
            obtain ⟨hi_12, hf⟩ := ix_inv hf
            obtain ⟨v_12, e_12, hf⟩ := lt_inv hf
            refine al_M_27 hx hb hK hC hi_12 e_12 dX12_hasEffects_71 ?_
            obtain ⟨v_13, hc_13, hf⟩ := calp_inv hf
            refine cc_Vi (h_X12_hasEffects hc_13 l) hx hb hml hta hown hK hN hV hA hC hRc hRs (by omega) (by omega) wq_1177 (q := 0) (ci := 12) rfl rfl wq_1178 wq_1179 wq_1012 wq_1173 hd_X12_hasEffects (As := [.int v_12]) (rest := []) rfl rfl hl.1 rfl dX12_hasEffects_72 (fun H locs hC => ?_)
            refine lv_if_ne (tgt := 91) hx hb dX12_hasEffects_75 (by decide) (fun c_14 => ?_) (fun c_14 => ?_)
            · have hf := it_f c_14 hf
              exact hj_91 _ _ _ hf hC (lv_sub hl [] rfl)
            · have hf := it_t c_14 hf
              refine lv_aload_n hx hb dX12_hasEffects_78 rfl (lv_at hl 0 rfl) ?_
              refine lv_aload_n hx hb dX12_hasEffects_79 rfl (lv_at hl 0 rfl) ?_
              refine gt_X12_94_m hx hb hta hown hK hC dX12_hasEffects_80 ?_
              refine lv_iload_n hx hb dX12_hasEffects_83 rfl (lv_at hl 1 rfl) ?_
              obtain ⟨hi_15, hf⟩ := ix_inv hf
              obtain ⟨v_15, e_15, hf⟩ := lt_inv hf
              refine al_M_28 hx hb hK hC hi_15 e_15 dX12_hasEffects_84 ?_
              obtain ⟨v_16, hc_16, hf⟩ := calp_inv hf
              refine cc_Vi (h_X12_hasEffects hc_16 l) hx hb hml hta hown hK hN hV hA hC hRc hRs (by omega) (by omega) wq_1177 (q := 0) (ci := 12) rfl rfl wq_1178 wq_1179 wq_1012 wq_1173 hd_X12_hasEffects (As := [.int v_15]) (rest := []) rfl rfl hl.1 rfl dX12_hasEffects_85 (fun H locs hC => ?_)
              refine lv_if_eq (tgt := 95) hx hb dX12_hasEffects_88 (by decide) (fun c_17 => ?_) (fun c_17 => ?_)
              · have hf := it_t c_17 hf
                refine lv_iconst (v := 0) hx hb dX12_hasEffects_95 (by decide) ?_
                exact hret _ _ _ _ _ _ (Option.some.inj hf) rfl rfl dX12_hasEffects_96 hC
              · have hf := it_f c_17 hf
                exact hj_91 _ _ _ hf hC (lv_sub hl [] rfl)
      · have hf := it_t c_4 hf
        refine lv_aload_n hx hb dX12_hasEffects_27 rfl (lv_at hl 0 rfl) ?_
        refine gt_X12_88_m hx hb hta hown hK hC dX12_hasEffects_28 ?_
        refine lv_iload_n hx hb dX12_hasEffects_31 rfl (lv_at hl 1 rfl) ?_
        obtain ⟨hi_5, hf⟩ := ix_inv hf
        obtain ⟨v_5, e_5, hf⟩ := lt_inv hf
        refine al_M_26 hx hb hK hC hi_5 e_5 dX12_hasEffects_32 ?_
        refine lv_iconst (v := 4) hx hb dX12_hasEffects_33 (by decide) ?_
        refine lv_icmp_ne (tgt := 41) hx hb dX12_hasEffects_34 (by decide) (fun c_6 => ?_) (fun c_6 => ?_)
        · have hf := it_f c_6 hf
          refine lv_iconst (v := 0) hx hb dX12_hasEffects_41 (by decide) ?_
          exact hret _ _ _ _ _ _ (Option.some.inj hf) rfl rfl dX12_hasEffects_42 hC
        · have hf := it_t c_6 hf
          refine lv_iconst (v := 1) hx hb dX12_hasEffects_37 (by decide) ?_
          refine lv_goto (tgt := 42) hx hb dX12_hasEffects_38 (by decide) ?_
          exact hret _ _ _ _ _ _ (Option.some.inj hf) rfl rfl dX12_hasEffects_42 hC
    · have hf := it_f c_2 hf
      refine lv_aload_n hx hb dX12_hasEffects_8 rfl (lv_at hl 0 rfl) ?_
      refine lv_aload_n hx hb dX12_hasEffects_9 rfl (lv_at hl 0 rfl) ?_
      refine gt_X12_91_m hx hb hta hown hK hC dX12_hasEffects_10 ?_
      refine lv_iload_n hx hb dX12_hasEffects_13 rfl (lv_at hl 1 rfl) ?_
      obtain ⟨hi_18, hf⟩ := ix_inv hf
      obtain ⟨v_18, e_18, hf⟩ := lt_inv hf
      refine al_M_27 hx hb hK hC hi_18 e_18 dX12_hasEffects_14 ?_
      obtain ⟨v_19, hc_19, hf⟩ := calp_inv hf
      refine cc_Vi (h_X12_hasEffects hc_19 l) hx hb hml hta hown hK hN hV hA hC hRc hRs (by omega) (by omega) wq_1177 (q := 0) (ci := 12) rfl rfl wq_1178 wq_1179 wq_1012 wq_1173 hd_X12_hasEffects (As := [.int v_18]) (rest := []) rfl rfl hl.1 rfl dX12_hasEffects_15 (fun H locs hC => ?_)
      obtain ⟨hb_20, hf⟩ := bz_inv hf
      exact hret _ _ _ _ _ _ (Option.some.inj hf) rfl (bz_nar hb_20) dX12_hasEffects_18 hC
theorem r_X12_hasEffects (d : Nat) {D : va_G} {y : Nat → ClassId} {o : Nat → Nat} {ad av : Nat → Nat} {x1 : Int32} {σ : Sto} {v : Int32} (hf : f_X12_hasEffects d x1 σ = some v) (l : Launch) (sz : Nat) : Met l yX12_hasEffects (Cond.code yX12_hasEffects cX12_hasEffects 2 (some .boolean) :: ALW) { frames := d + 1, cells := 0, slots := 0, locals := d * 21 + 21 } (va_Pc [.ref (o 0), .int x1] (PZ D y ad av (WM y o σ) sz)) (QZi D (WM y o σ) v (WM y o σ) sz) 0 0 (va_A (WM y o σ) sz) := (rg_X12_hasEffects d) hf l sz

set_option maxHeartbeats 8000000 in
set_option maxRecDepth 100000 in
theorem r_X12_states {D : va_G} {y : Nat → ClassId} {o : Nat → Nat} {ad av : Nat → Nat} {x1 : Int32} {x2 : Int32} {x3 : Int32} {σ : Sto} {σ2 : Sto} (hf : f_X12_states x1 x2 x3 σ = some σ2) (l : Launch) (sz : Nat) : Met l yX12_states (Cond.code yX12_states cX12_states 4 none :: ALW) { frames := 0, cells := 0, slots := 0, locals := 0 } (va_Pc [.ref (o 0), .int x1, .int x2, .int x3] (PZ D y ad av (WM y o σ) sz)) (QZv D (WM y o σ) (WM y o σ2) sz) 0 0 (va_A (WM y o σ) sz) := by
  refine met_v (by decide) (Nat.le_of_ble_eq_true rfl) ?_
  intro p e R s m args below meth c Q A ls hx hb hml hta hown hRc hRs hRf hRl hN hK hV hA hret hC hl
  have hl : lv_has ls 4 [(0, .ref (o 0)), (1, .int x1), (2, .int x2), (3, .int x3)] := hl
  unfold f_X12_states at hf
  refine lv_aload_n hx hb dX12_states_0 rfl (lv_at hl 0 rfl) ?_
  refine gt_X12_97_m hx hb hta hown hK hC dX12_states_1 ?_
  refine lv_aload_n hx hb dX12_states_4 rfl (lv_at hl 0 rfl) ?_
  refine gt_X12_407_m hx hb hta hown hK hC dX12_states_5 ?_
  refine lv_iload_n hx hb dX12_states_8 rfl (lv_at hl 1 rfl) ?_
  obtain ⟨hi_1, hf⟩ := ix_inv hf
  obtain ⟨s_1, e_1, hf⟩ := lt_inv hf
  refine as_M_29 hx hb hK hC hi_1 e_1 dX12_states_9 (fun H locs hC => ?_)
  refine lv_aload_n hx hb dX12_states_10 rfl (lv_at hl 0 rfl) ?_
  refine gt_X12_100_m hx hb hta hown hK hC dX12_states_11 ?_
  refine lv_aload_n hx hb dX12_states_14 rfl (lv_at hl 0 rfl) ?_
  refine gt_X12_407_m hx hb hta hown hK hC dX12_states_15 ?_
  refine lv_iload_n hx hb dX12_states_18 rfl (lv_at hl 2 rfl) ?_
  obtain ⟨hi_2, hf⟩ := ix_inv hf
  obtain ⟨s_2, e_2, hf⟩ := lt_inv hf
  refine as_M_30 hx hb hK hC hi_2 e_2 dX12_states_19 (fun H locs hC => ?_)
  refine lv_aload_n hx hb dX12_states_20 rfl (lv_at hl 0 rfl) ?_
  refine gt_X12_103_m hx hb hta hown hK hC dX12_states_21 ?_
  refine lv_aload_n hx hb dX12_states_24 rfl (lv_at hl 0 rfl) ?_
  refine gt_X12_407_m hx hb hta hown hK hC dX12_states_25 ?_
  refine lv_iload_n hx hb dX12_states_28 rfl (lv_at hl 3 rfl) ?_
  obtain ⟨hi_3, hf⟩ := ix_inv hf
  obtain ⟨s_3, e_3, hf⟩ := lt_inv hf
  refine as_M_31 hx hb hK hC hi_3 e_3 dX12_states_29 (fun H locs hC => ?_)
  refine lv_aload_n hx hb dX12_states_30 rfl (lv_at hl 0 rfl) ?_
  refine lv_dup hx hb dX12_states_31 rfl ?_
  refine gt_X12_407_m hx hb hta hown hK hC dX12_states_32 ?_
  refine lv_iconst (v := 1) hx hb dX12_states_35 (by decide) ?_
  refine lv_iadd hx hb dX12_states_36 ?_
  obtain ⟨s_4, e_4, hf⟩ := lt_inv hf
  refine pt_X12_407_m hx hb hta hown hK hC e_4 dX12_states_37 (fun H locs hC => ?_)
  exact hret _ _ _ _ _ (congrArg (WM y o) (Option.some.inj hf)) dX12_states_40 hC

set_option maxHeartbeats 8000000 in
set_option maxRecDepth 100000 in
theorem r_X12_makes {D : va_G} {y : Nat → ClassId} {o : Nat → Nat} {ad av : Nat → Nat} {x1 : Int32} {x2 : Int32} {x3 : Int32} {σ : Sto} {σ2 : Sto} {v : Int32} (hf : f_X12_makes x1 x2 x3 σ = some (v, σ2)) (l : Launch) (sz : Nat) : Met l yX12_makes (Cond.code yX12_makes cX12_makes 4 (some .int) :: ALW) { frames := 0, cells := 0, slots := 0, locals := 0 } (va_Pc [.ref (o 0), .int x1, .int x2, .int x3] (PZ D y ad av (WM y o σ) sz)) (QZi D (WM y o σ) v (WM y o σ2) sz) 0 0 (va_A (WM y o σ) sz) := by
  refine met_i (by decide) (Nat.le_of_ble_eq_true rfl) ?_
  intro p e R s m args below meth c Q A ls hx hb hml hta hown hRc hRs hRf hRl hN hK hV hA hret hC hl
  have hl : lv_has ls 4 [(0, .ref (o 0)), (1, .int x1), (2, .int x2), (3, .int x3)] := hl
  unfold f_X12_makes at hf
  refine lv_aload_n hx hb dX12_makes_0 rfl (lv_at hl 0 rfl) ?_
  refine gt_X12_88_m hx hb hta hown hK hC dX12_makes_1 ?_
  refine lv_aload_n hx hb dX12_makes_4 rfl (lv_at hl 0 rfl) ?_
  refine gt_X12_378_m hx hb hta hown hK hC dX12_makes_5 ?_
  refine lv_iload_n hx hb dX12_makes_8 rfl (lv_at hl 1 rfl) ?_
  obtain ⟨hi_1, hf⟩ := ix_inv hf
  obtain ⟨s_1, e_1, hf⟩ := lt_inv hf
  refine as_M_26 hx hb hK hC hi_1 e_1 dX12_makes_9 (fun H locs hC => ?_)
  refine lv_aload_n hx hb dX12_makes_10 rfl (lv_at hl 0 rfl) ?_
  refine gt_X12_91_m hx hb hta hown hK hC dX12_makes_11 ?_
  refine lv_aload_n hx hb dX12_makes_14 rfl (lv_at hl 0 rfl) ?_
  refine gt_X12_378_m hx hb hta hown hK hC dX12_makes_15 ?_
  refine lv_iload_n hx hb dX12_makes_18 rfl (lv_at hl 2 rfl) ?_
  obtain ⟨hi_2, hf⟩ := ix_inv hf
  obtain ⟨s_2, e_2, hf⟩ := lt_inv hf
  refine as_M_27 hx hb hK hC hi_2 e_2 dX12_makes_19 (fun H locs hC => ?_)
  refine lv_aload_n hx hb dX12_makes_20 rfl (lv_at hl 0 rfl) ?_
  refine gt_X12_94_m hx hb hta hown hK hC dX12_makes_21 ?_
  refine lv_aload_n hx hb dX12_makes_24 rfl (lv_at hl 0 rfl) ?_
  refine gt_X12_378_m hx hb hta hown hK hC dX12_makes_25 ?_
  refine lv_iload_n hx hb dX12_makes_28 rfl (lv_at hl 3 rfl) ?_
  obtain ⟨hi_3, hf⟩ := ix_inv hf
  obtain ⟨s_3, e_3, hf⟩ := lt_inv hf
  refine as_M_28 hx hb hK hC hi_3 e_3 dX12_makes_29 (fun H locs hC => ?_)
  refine lv_aload_n hx hb dX12_makes_30 rfl (lv_at hl 0 rfl) ?_
  refine lv_dup hx hb dX12_makes_31 rfl ?_
  refine gt_X12_378_m hx hb hta hown hK hC dX12_makes_32 ?_
  refine lv_iconst (v := 1) hx hb dX12_makes_35 (by decide) ?_
  refine lv_iadd hx hb dX12_makes_36 ?_
  obtain ⟨s_4, e_4, hf⟩ := lt_inv hf
  refine pt_X12_378_m hx hb hta hown hK hC e_4 dX12_makes_37 (fun H locs hC => ?_)
  refine lv_aload_n hx hb dX12_makes_40 rfl (lv_at hl 0 rfl) ?_
  refine gt_X12_378_m hx hb hta hown hK hC dX12_makes_41 ?_
  refine lv_iconst (v := 1) hx hb dX12_makes_44 (by decide) ?_
  refine lv_isub hx hb dX12_makes_45 ?_
  exact hret _ _ _ _ _ _ (rv_inv hf).1 (congrArg (WM y o) (rv_inv hf).2) rfl dX12_makes_46 hC

set_option maxHeartbeats 8000000 in
set_option maxRecDepth 100000 in
theorem r_X12_freshX {D : va_G} {y : Nat → ClassId} {o : Nat → Nat} {ad av : Nat → Nat} {x1 : Int32} {σ : Sto} {σ2 : Sto} {v : Int32} (hf : f_X12_freshX x1 σ = some (v, σ2)) (l : Launch) (sz : Nat) : Met l yX12_freshX (Cond.code yX12_freshX cX12_freshX 2 (some .int) :: ALW) { frames := 1, cells := 0, slots := 0, locals := 23 } (va_Pc [.ref (o 0), .int x1] (PZ D y ad av (WM y o σ) sz)) (QZi D (WM y o σ) v (WM y o σ2) sz) 0 0 (va_A (WM y o σ) sz) := by
  refine met_i (by decide) (Nat.le_of_ble_eq_true rfl) ?_
  intro p e R s m args below meth c Q A ls hx hb hml hta hown hRc hRs hRf hRl hN hK hV hA hret hC hl
  have hl : lv_has ls 2 [(0, .ref (o 0)), (1, .int x1)] := hl
  unfold f_X12_freshX at hf
  refine lv_aload_n hx hb dX12_freshX_0 rfl (lv_at hl 0 rfl) ?_
  refine lv_iconst (v := 2) hx hb dX12_freshX_1 (by decide) ?_
  refine lv_aload_n hx hb dX12_freshX_2 rfl (lv_at hl 0 rfl) ?_
  refine gt_X12_410_m hx hb hta hown hK hC dX12_freshX_3 ?_
  refine lv_iload_n hx hb dX12_freshX_6 rfl (lv_at hl 1 rfl) ?_
  obtain ⟨s_1, hc_1, hf⟩ := cals_inv hf
  refine cc_Vv (r_X12_states (D := D) (y := y) (o := o) (ad := ad) (av := av) hc_1 l) hx hb hml hta hown hK hN hV hA hC hRc hRs (by omega) (by omega) wq_1191 (q := 0) (ci := 12) rfl rfl wq_1192 wq_1193 wq_1012 wq_1187 hd_X12_states (As := [.int 2, .int (σ.1 48 0), .int x1]) (rest := []) rfl rfl hl.1 rfl dX12_freshX_7 (fun H locs hC => ?_)
  refine lv_aload_n hx hb dX12_freshX_10 rfl (lv_at hl 0 rfl) ?_
  refine lv_dup hx hb dX12_freshX_11 rfl ?_
  refine gt_X12_410_m hx hb hta hown hK hC dX12_freshX_12 ?_
  refine lv_iconst (v := 1) hx hb dX12_freshX_15 (by decide) ?_
  refine lv_iadd hx hb dX12_freshX_16 ?_
  obtain ⟨s_2, e_2, hf⟩ := lt_inv hf
  refine pt_X12_410_m hx hb hta hown hK hC e_2 dX12_freshX_17 (fun H locs hC => ?_)
  refine lv_aload_n hx hb dX12_freshX_20 rfl (lv_at hl 0 rfl) ?_
  refine lv_iconst (v := 3) hx hb dX12_freshX_21 (by decide) ?_
  refine lv_aload_n hx hb dX12_freshX_22 rfl (lv_at hl 0 rfl) ?_
  refine gt_X12_410_m hx hb hta hown hK hC dX12_freshX_23 ?_
  refine lv_iconst (v := 1) hx hb dX12_freshX_26 (by decide) ?_
  refine lv_isub hx hb dX12_freshX_27 ?_
  refine lv_iconst (v := 0) hx hb dX12_freshX_28 (by decide) ?_
  obtain ⟨v_3, s_3, hc_3, hf⟩ := calv_inv hf
  refine cc_Vi (r_X12_makes (D := D) (y := y) (o := o) (ad := ad) (av := av) hc_3 l) hx hb hml hta hown hK hN hV hA hC hRc hRs (by omega) (by omega) wq_1194 (q := 0) (ci := 12) rfl rfl wq_1195 wq_1196 wq_1012 wq_1164 hd_X12_makes (As := [.int 3, .int ((s_2.1 48 0) - 1), .int 0]) (rest := []) rfl rfl hl.1 rfl dX12_freshX_29 (fun H locs hC => ?_)
  exact hret _ _ _ _ _ _ (rv_inv hf).1 (congrArg (WM y o) (rv_inv hf).2) rfl dX12_freshX_32 hC

set_option maxHeartbeats 8000000 in
set_option maxRecDepth 100000 in
theorem rg_X12_with {D : va_G} {y : Nat → ClassId} {o : Nat → Nat} {ad av : Nat → Nat} : ∀ d : Nat, (∀ {x1 : Int32} {x2 : Int32} {x3 : Int32} {σ : Sto} {σ2 : Sto} {v : Int32}, f_X12_with d x1 x2 x3 σ = some (v, σ2) → ∀ (l : Launch) (sz : Nat), Met l yX12_with (Cond.code yX12_with cX12_with 5 (some .int) :: ALW) { frames := d + 1, cells := 0, slots := 0, locals := d * 24 + 23 } (va_Pc [.ref (o 0), .int x1, .int x2, .int x3] (PZ D y ad av (WM y o σ) sz)) (QZi D (WM y o σ) v (WM y o σ2) sz) 0 0 (va_A (WM y o σ) sz)) := by
  intro d
  induction d with
  | zero => exact fun hc => by have hc : (none : Option (Int32 × Sto)) = some _ := hc; cases hc
  | succ d ih =>
    have h_X12_with := @ih
    intro x1 x2 x3 σ σ2 v hf l sz
    have hf : b_X12_with (f_X12_with d) x1 x2 x3 σ = some (v, σ2) := hf
    refine met_i (by decide) (Nat.le_of_ble_eq_true rfl) ?_
    intro p e R s m args below meth c Q A ls hx hb hml hta hown hRc hRs hRf hRl hN hK hV hA hret hC hl
    have hl : lv_has ls 5 [(0, .ref (o 0)), (1, .int x1), (2, .int x2), (3, .int x3)] := hl
    unfold b_X12_with at hf
    refine lv_aload_n hx hb dX12_with_0 rfl (lv_at hl 0 rfl) ?_
    refine lv_iload_n hx hb dX12_with_1 rfl (lv_at hl 1 rfl) ?_
    obtain ⟨v_1, hc_1, hf⟩ := calp_inv hf
    refine cc_Vi (r_X12_isOne (D := D) (y := y) (o := o) (ad := ad) (av := av) hc_1 l) hx hb hml hta hown hK hN hV hA hC hRc hRs (by omega) (by omega) wq_1174 (q := 0) (ci := 12) rfl rfl wq_1175 wq_1176 wq_1012 wq_1171 hd_X12_isOne (As := [.int x1]) (rest := []) rfl rfl hl.1 rfl dX12_with_2 (fun H locs hC => ?_)
    refine lv_if_eq (tgt := 32) hx hb dX12_with_5 (by decide) (fun c_2 => ?_) (fun c_2 => ?_)
    · have hf := it_t c_2 hf
      refine lv_aload_n hx hb dX12_with_32 rfl (lv_at hl 0 rfl) ?_
      refine lv_iload_n hx hb dX12_with_33 rfl (lv_at hl 1 rfl) ?_
      obtain ⟨v_3, hc_3, hf⟩ := calp_inv hf
      refine cc_Vi (r_X12_isBoth (D := D) (y := y) (o := o) (ad := ad) (av := av) hc_3 l) hx hb hml hta hown hK hN hV hA hC hRc hRs (by omega) (by omega) wq_1180 (q := 0) (ci := 12) rfl rfl wq_1181 wq_1182 wq_1012 wq_1172 hd_X12_isBoth (As := [.int x1]) (rest := []) rfl rfl hl.1 rfl dX12_with_34 (fun H locs hC => ?_)
      refine lv_if_eq (tgt := 79) hx hb dX12_with_37 (by decide) (fun c_4 => ?_) (fun c_4 => ?_)
      · have hf := it_t c_4 hf
        refine lv_aload_n hx hb dX12_with_79 rfl (lv_at hl 0 rfl) ?_
        refine gt_X12_88_m hx hb hta hown hK hC dX12_with_80 ?_
        refine lv_iload_n hx hb dX12_with_83 rfl (lv_at hl 1 rfl) ?_
        obtain ⟨hi_5, hf⟩ := ix_inv hf
        obtain ⟨v_5, e_5, hf⟩ := lt_inv hf
        refine al_M_26 hx hb hK hC hi_5 e_5 dX12_with_84 ?_
        refine lv_iconst (v := 2) hx hb dX12_with_85 (by decide) ?_
        obtain ⟨k_109, hk_109, hf⟩ := jn_inv0 hf
        have hj_109 : ∀  (H : Heap) (locs : List Loc) (ls : Array Slot), k_109 = some (v, σ2) → CZ D A s H locs (WM y o σ) → lv_has ls 5 [(1, .int x1)] → W p l e R s m args below meth c H locs 0 0 Q (F0 m 109 ls []) := by
          intro H locs ls hf hC hl
          have hf := hk_109 hf
          refine lv_iload_n hx hb dX12_with_109 rfl (lv_at hl 0 rfl) ?_
          exact hret _ _ _ _ _ _ (rv_inv hf).1 (congrArg (WM y o) (rv_inv hf).2) rfl dX12_with_110 hC
        refine lv_icmp_ne (tgt := 109) hx hb dX12_with_86 (by decide) (fun c_7 => ?_) (fun c_7 => ?_)
        · have hf := it_f c_7 hf
          exact hj_109 _ _ _ hf hC (lv_sub hl [1] rfl)
        · have hf := it_t c_7 hf
          refine lv_aload_n hx hb dX12_with_89 rfl (lv_at hl 0 rfl) ?_
          refine gt_X12_91_m hx hb hta hown hK hC dX12_with_90 ?_
          refine lv_iload_n hx hb dX12_with_93 rfl (lv_at hl 1 rfl) ?_
          obtain ⟨hi_8, hf⟩ := ix_inv hf
          obtain ⟨v_8, e_8, hf⟩ := lt_inv hf
          refine al_M_27 hx hb hK hC hi_8 e_8 dX12_with_94 ?_
          refine lv_iload_n hx hb dX12_with_95 rfl (lv_at hl 2 rfl) ?_
          refine lv_icmp_ne (tgt := 109) hx hb dX12_with_96 (by decide) (fun c_9 => ?_) (fun c_9 => ?_)
          · have hf := it_f c_9 hf
            exact hj_109 _ _ _ hf hC (lv_sub hl [1] rfl)
          · have hf := it_t c_9 hf
            refine lv_aload_n hx hb dX12_with_99 rfl (lv_at hl 0 rfl) ?_
            refine lv_iconst (v := 3) hx hb dX12_with_100 (by decide) ?_
            refine lv_iload_n hx hb dX12_with_101 rfl (lv_at hl 3 rfl) ?_
            refine lv_iconst (v := 0) hx hb dX12_with_102 (by decide) ?_
            obtain ⟨v_10, s_10, hc_10, hf⟩ := calv_inv hf
            refine cc_Vi (r_X12_makes (D := D) (y := y) (o := o) (ad := ad) (av := av) hc_10 l) hx hb hml hta hown hK hN hV hA hC hRc hRs (by omega) (by omega) wq_1194 (q := 0) (ci := 12) rfl rfl wq_1195 wq_1196 wq_1012 wq_1164 hd_X12_makes (As := [.int 3, .int x3, .int 0]) (rest := []) rfl rfl hl.1 rfl dX12_with_103 (fun H locs hC => ?_)
            refine lv_goto (tgt := 110) hx hb dX12_with_106 (by decide) ?_
            exact hret _ _ _ _ _ _ (rv_inv hf).1 (congrArg (WM y o) (rv_inv hf).2) rfl dX12_with_110 hC
      · have hf := it_f c_4 hf
        refine lv_aload_n hx hb dX12_with_40 rfl (lv_at hl 0 rfl) ?_
        refine lv_aload_n hx hb dX12_with_41 rfl (lv_at hl 0 rfl) ?_
        refine gt_X12_91_m hx hb hta hown hK hC dX12_with_42 ?_
        refine lv_iload_n hx hb dX12_with_45 rfl (lv_at hl 1 rfl) ?_
        obtain ⟨hi_11, hf⟩ := ix_inv hf
        obtain ⟨v_11, e_11, hf⟩ := lt_inv hf
        refine al_M_27 hx hb hK hC hi_11 e_11 dX12_with_46 ?_
        refine lv_iload_n hx hb dX12_with_47 rfl (lv_at hl 2 rfl) ?_
        refine lv_iload_n hx hb dX12_with_48 rfl (lv_at hl 3 rfl) ?_
        obtain ⟨v_12, s_12, hc_12, hf⟩ := calv_inv hf
        refine cc_Vi (h_X12_with hc_12 l) hx hb hml hta hown hK hN hV hA hC hRc hRs (by omega) (by omega) wq_1231 (q := 0) (ci := 12) rfl rfl wq_1232 wq_1233 wq_1012 wq_1230 hd_X12_with (As := [.int v_11, .int x2, .int x3]) (rest := []) rfl rfl hl.1 rfl dX12_with_49 (fun H locs hC => ?_)
        refine lv_istore (lv' := [(4, .int v_12), (0, .ref (o 0)), (1, .int x1), (2, .int x2), (3, .int x3)]) hx hb dX12_with_52 hl (by decide) rfl (fun ls hl => ?_)
        refine lv_aload_n hx hb dX12_with_54 rfl (lv_at hl 1 rfl) ?_
        refine lv_aload_n hx hb dX12_with_55 rfl (lv_at hl 1 rfl) ?_
        refine gt_X12_88_m hx hb hta hown hK hC dX12_with_56 ?_
        refine lv_iload_n hx hb dX12_with_59 rfl (lv_at hl 2 rfl) ?_
        obtain ⟨hi_13, hf⟩ := ix_inv hf
        obtain ⟨v_13, e_13, hf⟩ := lt_inv hf
        refine al_M_26 hx hb hK hC hi_13 e_13 dX12_with_60 ?_
        refine lv_iload hx hb dX12_with_61 (lv_at hl 0 rfl) ?_
        refine lv_aload_n hx hb dX12_with_63 rfl (lv_at hl 1 rfl) ?_
        refine lv_aload_n hx hb dX12_with_64 rfl (lv_at hl 1 rfl) ?_
        refine gt_X12_94_m hx hb hta hown hK hC dX12_with_65 ?_
        refine lv_iload_n hx hb dX12_with_68 rfl (lv_at hl 2 rfl) ?_
        obtain ⟨hi_14, hf⟩ := ix_inv hf
        obtain ⟨v_14, e_14, hf⟩ := lt_inv hf
        refine al_M_28 hx hb hK hC hi_14 e_14 dX12_with_69 ?_
        refine lv_iload_n hx hb dX12_with_70 rfl (lv_at hl 3 rfl) ?_
        refine lv_iload_n hx hb dX12_with_71 rfl (lv_at hl 4 rfl) ?_
        obtain ⟨v_15, s_15, hc_15, hf⟩ := calv_inv hf
        refine cc_Vi (h_X12_with hc_15 l) hx hb hml hta hown hK hN hV hA hC hRc hRs (by omega) (by omega) wq_1231 (q := 0) (ci := 12) rfl rfl wq_1232 wq_1233 wq_1012 wq_1230 hd_X12_with (As := [.int v_14, .int x2, .int x3]) (rest := [.int v_12, .int v_13, .ref (o 0)]) rfl rfl hl.1 rfl dX12_with_72 (fun H locs hC => ?_)
        obtain ⟨v_16, s_16, hc_16, hf⟩ := calv_inv hf
        refine cc_Vi (r_X12_makes (D := D) (y := y) (o := o) (ad := ad) (av := av) hc_16 l) hx hb hml hta hown hK hN hV hA hC hRc hRs (by omega) (by omega) wq_1194 (q := 0) (ci := 12) rfl rfl wq_1195 wq_1196 wq_1012 wq_1164 hd_X12_makes (As := [.int v_13, .int v_12, .int v_15]) (rest := []) rfl rfl hl.1 rfl dX12_with_75 (fun H locs hC => ?_)
        exact hret _ _ _ _ _ _ (rv_inv hf).1 (congrArg (WM y o) (rv_inv hf).2) rfl dX12_with_78 hC
    · have hf := it_f c_2 hf
      refine lv_aload_n hx hb dX12_with_8 rfl (lv_at hl 0 rfl) ?_
      refine lv_aload_n hx hb dX12_with_9 rfl (lv_at hl 0 rfl) ?_
      refine gt_X12_88_m hx hb hta hown hK hC dX12_with_10 ?_
      refine lv_iload_n hx hb dX12_with_13 rfl (lv_at hl 1 rfl) ?_
      obtain ⟨hi_17, hf⟩ := ix_inv hf
      obtain ⟨v_17, e_17, hf⟩ := lt_inv hf
      refine al_M_26 hx hb hK hC hi_17 e_17 dX12_with_14 ?_
      refine lv_aload_n hx hb dX12_with_15 rfl (lv_at hl 0 rfl) ?_
      refine lv_aload_n hx hb dX12_with_16 rfl (lv_at hl 0 rfl) ?_
      refine gt_X12_91_m hx hb hta hown hK hC dX12_with_17 ?_
      refine lv_iload_n hx hb dX12_with_20 rfl (lv_at hl 1 rfl) ?_
      obtain ⟨hi_18, hf⟩ := ix_inv hf
      obtain ⟨v_18, e_18, hf⟩ := lt_inv hf
      refine al_M_27 hx hb hK hC hi_18 e_18 dX12_with_21 ?_
      refine lv_iload_n hx hb dX12_with_22 rfl (lv_at hl 2 rfl) ?_
      refine lv_iload_n hx hb dX12_with_23 rfl (lv_at hl 3 rfl) ?_
      obtain ⟨v_19, s_19, hc_19, hf⟩ := calv_inv hf
      refine cc_Vi (h_X12_with hc_19 l) hx hb hml hta hown hK hN hV hA hC hRc hRs (by omega) (by omega) wq_1231 (q := 0) (ci := 12) rfl rfl wq_1232 wq_1233 wq_1012 wq_1230 hd_X12_with (As := [.int v_18, .int x2, .int x3]) (rest := [.int v_17, .ref (o 0)]) rfl rfl hl.1 rfl dX12_with_24 (fun H locs hC => ?_)
      refine lv_iconst (v := 0) hx hb dX12_with_27 (by decide) ?_
      obtain ⟨v_20, s_20, hc_20, hf⟩ := calv_inv hf
      refine cc_Vi (r_X12_makes (D := D) (y := y) (o := o) (ad := ad) (av := av) hc_20 l) hx hb hml hta hown hK hN hV hA hC hRc hRs (by omega) (by omega) wq_1194 (q := 0) (ci := 12) rfl rfl wq_1195 wq_1196 wq_1012 wq_1164 hd_X12_makes (As := [.int v_17, .int v_19, .int 0]) (rest := []) rfl rfl hl.1 rfl dX12_with_28 (fun H locs hC => ?_)
      exact hret _ _ _ _ _ _ (rv_inv hf).1 (congrArg (WM y o) (rv_inv hf).2) rfl dX12_with_31 hC
theorem r_X12_with (d : Nat) {D : va_G} {y : Nat → ClassId} {o : Nat → Nat} {ad av : Nat → Nat} {x1 : Int32} {x2 : Int32} {x3 : Int32} {σ : Sto} {σ2 : Sto} {v : Int32} (hf : f_X12_with d x1 x2 x3 σ = some (v, σ2)) (l : Launch) (sz : Nat) : Met l yX12_with (Cond.code yX12_with cX12_with 5 (some .int) :: ALW) { frames := d + 1, cells := 0, slots := 0, locals := d * 24 + 23 } (va_Pc [.ref (o 0), .int x1, .int x2, .int x3] (PZ D y ad av (WM y o σ) sz)) (QZi D (WM y o σ) v (WM y o σ2) sz) 0 0 (va_A (WM y o σ) sz) := (rg_X12_with d) hf l sz

set_option maxHeartbeats 8000000 in
set_option maxRecDepth 100000 in
theorem rg_X12_hasName {D : va_G} {y : Nat → ClassId} {o : Nat → Nat} {ad av : Nat → Nat} : ∀ d : Nat, (∀ {x1 : Int32} {x2 : Int32} {x3 : Int32} {σ : Sto} {v : Int32}, f_X12_hasName d x1 x2 x3 σ = some v → ∀ (l : Launch) (sz : Nat), Met l yX12_hasName (Cond.code yX12_hasName cX12_hasName 4 (some .boolean) :: ALW) { frames := d + 1, cells := 0, slots := 0, locals := d * 23 + 21 } (va_Pc [.ref (o 0), .int x1, .int x2, .int x3] (PZ D y ad av (WM y o σ) sz)) (QZi D (WM y o σ) v (WM y o σ) sz) 0 0 (va_A (WM y o σ) sz)) := by
  intro d
  induction d with
  | zero => exact fun hc => by have hc : (none : Option (Int32)) = some _ := hc; cases hc
  | succ d ih =>
    have h_X12_hasName := @ih
    intro x1 x2 x3 σ v hf l sz
    have hf : b_X12_hasName (f_X12_hasName d) x1 x2 x3 σ = some v := hf
    refine met_i (by decide) (Nat.le_of_ble_eq_true rfl) ?_
    intro p e R s m args below meth c Q A ls hx hb hml hta hown hRc hRs hRf hRl hN hK hV hA hret hC hl
    have hl : lv_has ls 4 [(0, .ref (o 0)), (1, .int x1), (2, .int x2), (3, .int x3)] := hl
    unfold b_X12_hasName at hf
    refine lv_aload_n hx hb dX12_hasName_0 rfl (lv_at hl 0 rfl) ?_
    refine lv_iload_n hx hb dX12_hasName_1 rfl (lv_at hl 1 rfl) ?_
    obtain ⟨v_1, hc_1, hf⟩ := calp_inv hf
    refine cc_Vi (r_X12_isOne (D := D) (y := y) (o := o) (ad := ad) (av := av) hc_1 l) hx hb hml hta hown hK hN hV hA hC hRc hRs (by omega) (by omega) wq_1174 (q := 0) (ci := 12) rfl rfl wq_1175 wq_1176 wq_1012 wq_1171 hd_X12_isOne (As := [.int x1]) (rest := []) rfl rfl hl.1 rfl dX12_hasName_2 (fun H locs hC => ?_)
    refine lv_if_eq (tgt := 21) hx hb dX12_hasName_5 (by decide) (fun c_2 => ?_) (fun c_2 => ?_)
    · have hf := it_t c_2 hf
      refine lv_aload_n hx hb dX12_hasName_21 rfl (lv_at hl 0 rfl) ?_
      refine lv_iload_n hx hb dX12_hasName_22 rfl (lv_at hl 1 rfl) ?_
      obtain ⟨v_3, hc_3, hf⟩ := calp_inv hf
      refine cc_Vi (r_X12_isBoth (D := D) (y := y) (o := o) (ad := ad) (av := av) hc_3 l) hx hb hml hta hown hK hN hV hA hC hRc hRs (by omega) (by omega) wq_1180 (q := 0) (ci := 12) rfl rfl wq_1181 wq_1182 wq_1012 wq_1172 hd_X12_isBoth (As := [.int x1]) (rest := []) rfl rfl hl.1 rfl dX12_hasName_23 (fun H locs hC => ?_)
      refine lv_if_eq (tgt := 65) hx hb dX12_hasName_26 (by decide) (fun c_4 => ?_) (fun c_4 => ?_)
      · have hf := it_t c_4 hf
        refine lv_aload_n hx hb dX12_hasName_65 rfl (lv_at hl 0 rfl) ?_
        refine gt_X12_88_m hx hb hta hown hK hC dX12_hasName_66 ?_
        refine lv_iload_n hx hb dX12_hasName_69 rfl (lv_at hl 1 rfl) ?_
        obtain ⟨hi_5, hf⟩ := ix_inv hf
        obtain ⟨v_5, e_5, hf⟩ := lt_inv hf
        refine al_M_26 hx hb hK hC hi_5 e_5 dX12_hasName_70 ?_
        refine lv_iload_n hx hb dX12_hasName_71 rfl (lv_at hl 2 rfl) ?_
        obtain ⟨k_89, hk_89, hf⟩ := jn_inv0 hf
        have hj_89 : ∀  (H : Heap) (locs : List Loc) (ls : Array Slot), k_89 = some v → CZ D A s H locs (WM y o σ) → lv_has ls 4 [] → W p l e R s m args below meth c H locs 0 0 Q (F0 m 89 ls []) := by
          intro H locs ls hf hC hl
          have hf := hk_89 hf
          refine lv_iconst (v := 0) hx hb dX12_hasName_89 (by decide) ?_
          exact hret _ _ _ _ _ _ (Option.some.inj hf) rfl rfl dX12_hasName_90 hC
        refine lv_icmp_ne (tgt := 89) hx hb dX12_hasName_72 (by decide) (fun c_7 => ?_) (fun c_7 => ?_)
        · have hf := it_f c_7 hf
          exact hj_89 _ _ _ hf hC (lv_sub hl [] rfl)
        · have hf := it_t c_7 hf
          refine lv_aload_n hx hb dX12_hasName_75 rfl (lv_at hl 0 rfl) ?_
          refine gt_X12_91_m hx hb hta hown hK hC dX12_hasName_76 ?_
          refine lv_iload_n hx hb dX12_hasName_79 rfl (lv_at hl 1 rfl) ?_
          obtain ⟨hi_8, hf⟩ := ix_inv hf
          obtain ⟨v_8, e_8, hf⟩ := lt_inv hf
          refine al_M_27 hx hb hK hC hi_8 e_8 dX12_hasName_80 ?_
          refine lv_iload_n hx hb dX12_hasName_81 rfl (lv_at hl 3 rfl) ?_
          refine lv_icmp_ne (tgt := 89) hx hb dX12_hasName_82 (by decide) (fun c_9 => ?_) (fun c_9 => ?_)
          · have hf := it_f c_9 hf
            exact hj_89 _ _ _ hf hC (lv_sub hl [] rfl)
          · have hf := it_t c_9 hf
            refine lv_iconst (v := 1) hx hb dX12_hasName_85 (by decide) ?_
            refine lv_goto (tgt := 90) hx hb dX12_hasName_86 (by decide) ?_
            exact hret _ _ _ _ _ _ (Option.some.inj hf) rfl rfl dX12_hasName_90 hC
      · have hf := it_f c_4 hf
        refine lv_aload_n hx hb dX12_hasName_29 rfl (lv_at hl 0 rfl) ?_
        refine lv_aload_n hx hb dX12_hasName_30 rfl (lv_at hl 0 rfl) ?_
        refine gt_X12_91_m hx hb hta hown hK hC dX12_hasName_31 ?_
        refine lv_iload_n hx hb dX12_hasName_34 rfl (lv_at hl 1 rfl) ?_
        obtain ⟨hi_10, hf⟩ := ix_inv hf
        obtain ⟨v_10, e_10, hf⟩ := lt_inv hf
        refine al_M_27 hx hb hK hC hi_10 e_10 dX12_hasName_35 ?_
        refine lv_iload_n hx hb dX12_hasName_36 rfl (lv_at hl 2 rfl) ?_
        refine lv_iload_n hx hb dX12_hasName_37 rfl (lv_at hl 3 rfl) ?_
        obtain ⟨v_11, hc_11, hf⟩ := calp_inv hf
        refine cc_Vi (h_X12_hasName hc_11 l) hx hb hml hta hown hK hN hV hA hC hRc hRs (by omega) (by omega) wq_1184 (q := 0) (ci := 12) rfl rfl wq_1185 wq_1186 wq_1012 wq_1183 hd_X12_hasName (As := [.int v_10, .int x2, .int x3]) (rest := []) rfl rfl hl.1 rfl dX12_hasName_38 (fun H locs hC => ?_)
        obtain ⟨k_59, hk_59, hf⟩ := jn_inv0 hf
        have hj_59 : ∀  (H : Heap) (locs : List Loc) (ls : Array Slot), k_59 = some v → CZ D A s H locs (WM y o σ) → lv_has ls 4 [] → W p l e R s m args below meth c H locs 0 0 Q (F0 m 59 ls []) := by
          intro H locs ls hf hC hl
          have hf := hk_59 hf
          refine lv_iconst (v := 1) hx hb dX12_hasName_59 (by decide) ?_
          refine lv_goto (tgt := 64) hx hb dX12_hasName_60 (by decide) ?_
          exact hret _ _ _ _ _ _ (Option.some.inj hf) rfl rfl dX12_hasName_64 hC
        refine lv_if_ne (tgt := 59) hx hb dX12_hasName_41 (by decide) (fun c_13 => ?_) (fun c_13 => ?_)
        · have hf := it_f c_13 hf
          exact hj_59 _ _ _ hf hC (lv_sub hl [] rfl)
        · have hf := it_t c_13 hf
          refine lv_aload_n hx hb dX12_hasName_44 rfl (lv_at hl 0 rfl) ?_
          refine lv_aload_n hx hb dX12_hasName_45 rfl (lv_at hl 0 rfl) ?_
          refine gt_X12_94_m hx hb hta hown hK hC dX12_hasName_46 ?_
          refine lv_iload_n hx hb dX12_hasName_49 rfl (lv_at hl 1 rfl) ?_
          obtain ⟨hi_14, hf⟩ := ix_inv hf
          obtain ⟨v_14, e_14, hf⟩ := lt_inv hf
          refine al_M_28 hx hb hK hC hi_14 e_14 dX12_hasName_50 ?_
          refine lv_iload_n hx hb dX12_hasName_51 rfl (lv_at hl 2 rfl) ?_
          refine lv_iload_n hx hb dX12_hasName_52 rfl (lv_at hl 3 rfl) ?_
          obtain ⟨v_15, hc_15, hf⟩ := calp_inv hf
          refine cc_Vi (h_X12_hasName hc_15 l) hx hb hml hta hown hK hN hV hA hC hRc hRs (by omega) (by omega) wq_1184 (q := 0) (ci := 12) rfl rfl wq_1185 wq_1186 wq_1012 wq_1183 hd_X12_hasName (As := [.int v_14, .int x2, .int x3]) (rest := []) rfl rfl hl.1 rfl dX12_hasName_53 (fun H locs hC => ?_)
          refine lv_if_eq (tgt := 63) hx hb dX12_hasName_56 (by decide) (fun c_16 => ?_) (fun c_16 => ?_)
          · have hf := it_t c_16 hf
            refine lv_iconst (v := 0) hx hb dX12_hasName_63 (by decide) ?_
            exact hret _ _ _ _ _ _ (Option.some.inj hf) rfl rfl dX12_hasName_64 hC
          · have hf := it_f c_16 hf
            exact hj_59 _ _ _ hf hC (lv_sub hl [] rfl)
    · have hf := it_f c_2 hf
      refine lv_aload_n hx hb dX12_hasName_8 rfl (lv_at hl 0 rfl) ?_
      refine lv_aload_n hx hb dX12_hasName_9 rfl (lv_at hl 0 rfl) ?_
      refine gt_X12_91_m hx hb hta hown hK hC dX12_hasName_10 ?_
      refine lv_iload_n hx hb dX12_hasName_13 rfl (lv_at hl 1 rfl) ?_
      obtain ⟨hi_17, hf⟩ := ix_inv hf
      obtain ⟨v_17, e_17, hf⟩ := lt_inv hf
      refine al_M_27 hx hb hK hC hi_17 e_17 dX12_hasName_14 ?_
      refine lv_iload_n hx hb dX12_hasName_15 rfl (lv_at hl 2 rfl) ?_
      refine lv_iload_n hx hb dX12_hasName_16 rfl (lv_at hl 3 rfl) ?_
      obtain ⟨v_18, hc_18, hf⟩ := calp_inv hf
      refine cc_Vi (h_X12_hasName hc_18 l) hx hb hml hta hown hK hN hV hA hC hRc hRs (by omega) (by omega) wq_1184 (q := 0) (ci := 12) rfl rfl wq_1185 wq_1186 wq_1012 wq_1183 hd_X12_hasName (As := [.int v_17, .int x2, .int x3]) (rest := []) rfl rfl hl.1 rfl dX12_hasName_17 (fun H locs hC => ?_)
      obtain ⟨hb_19, hf⟩ := bz_inv hf
      exact hret _ _ _ _ _ _ (Option.some.inj hf) rfl (bz_nar hb_19) dX12_hasName_20 hC
theorem r_X12_hasName (d : Nat) {D : va_G} {y : Nat → ClassId} {o : Nat → Nat} {ad av : Nat → Nat} {x1 : Int32} {x2 : Int32} {x3 : Int32} {σ : Sto} {v : Int32} (hf : f_X12_hasName d x1 x2 x3 σ = some v) (l : Launch) (sz : Nat) : Met l yX12_hasName (Cond.code yX12_hasName cX12_hasName 4 (some .boolean) :: ALW) { frames := d + 1, cells := 0, slots := 0, locals := d * 23 + 21 } (va_Pc [.ref (o 0), .int x1, .int x2, .int x3] (PZ D y ad av (WM y o σ) sz)) (QZi D (WM y o σ) v (WM y o σ) sz) 0 0 (va_A (WM y o σ) sz) := (rg_X12_hasName d) hf l sz

set_option maxHeartbeats 8000000 in
set_option maxRecDepth 100000 in
theorem r_X12_endsBlock {D : va_G} {y : Nat → ClassId} {o : Nat → Nat} {ad av : Nat → Nat} {x1 : Int32} {σ : Sto} {σ2 : Sto} (hf : f_X12_endsBlock x1 σ = some σ2) (l : Launch) (sz : Nat) : Met l yX12_endsBlock (Cond.code yX12_endsBlock cX12_endsBlock 7 none :: ALW) { frames := 252, cells := 0, slots := 0, locals := 6047 } (va_Pc [.ref (o 0), .int x1] (PZ D y ad av (WM y o σ) sz)) (QZv D (WM y o σ) (WM y o σ2) sz) 0 0 (va_A (WM y o σ) sz) := by
  refine met_v (by decide) (Nat.le_of_ble_eq_true rfl) ?_
  intro p e R s m args below meth c Q A ls hx hb hml hta hown hRc hRs hRf hRl hN hK hV hA hret hC hl
  have hl : lv_has ls 7 [(0, .ref (o 0)), (1, .int x1)] := hl
  unfold f_X12_endsBlock at hf
  refine lv_iconst (v := 0) hx hb dX12_endsBlock_0 (by decide) ?_
  refine lv_istore_n (lv' := [(2, .int 0), (0, .ref (o 0)), (1, .int x1)]) hx hb dX12_endsBlock_1 rfl hl (by decide) rfl (fun ls hl => ?_)
  refine itr_inv2 (P := fun (x2_1 : Int32) (s_1 : Sto) => ∀ (H : Heap) (locs : List Loc) (ls : Array Slot), CZ D A s H locs (WM y o s_1) → lv_has ls 7 [(0, .ref (o 0)), (1, .int x1), (2, .int x2_1)] → W p l e R s m args below meth c H locs 0 0 Q (F0 m 2 ls [])) hf ?_ _ _ _ hC (lv_sub hl [1, 2, 0] rfl)
  intro a_2 x2_1 s_1 ha_2 hf H locs ls hC hl
  refine lv_iload_n hx hb dX12_endsBlock_2 rfl (lv_at hl 2 rfl) ?_
  refine lv_aload_n hx hb dX12_endsBlock_3 rfl (lv_at hl 0 rfl) ?_
  refine gt_X12_419_m hx hb hta hown hK hC dX12_endsBlock_4 ?_
  refine lv_icmp_ge (tgt := 231) hx hb dX12_endsBlock_7 (by decide) (fun c_2 => ?_) (fun c_2 => ?_)
  · have hf := it_t c_2 hf
    refine lv_aload_n hx hb dX12_endsBlock_231 rfl (lv_at hl 0 rfl) ?_
    refine gt_X12_109_m hx hb hta hown hK hC dX12_endsBlock_232 ?_
    refine lv_iload_n hx hb dX12_endsBlock_235 rfl (lv_at hl 1 rfl) ?_
    obtain ⟨hi_3, hf⟩ := ix_inv hf
    obtain ⟨v_3, e_3, hf⟩ := lt_inv hf
    refine al_M_33 hx hb hK hC hi_3 e_3 dX12_endsBlock_236 ?_
    refine lv_iconst (v := (-1)) hx hb dX12_endsBlock_237 (by decide) ?_
    refine lv_icmp_eq (tgt := 270) hx hb dX12_endsBlock_238 (by decide) (fun c_4 => ?_) (fun c_4 => ?_)
    · have hf := it_t c_4 hf
      exact hret _ _ _ _ _ (congrArg (WM y o) (Option.some.inj hf)) dX12_endsBlock_270 hC
    · have hf := it_f c_4 hf
      refine lv_aload_n hx hb dX12_endsBlock_241 rfl (lv_at hl 0 rfl) ?_
      refine lv_aload_n hx hb dX12_endsBlock_242 rfl (lv_at hl 0 rfl) ?_
      refine gt_X12_109_m hx hb hta hown hK hC dX12_endsBlock_243 ?_
      refine lv_iload_n hx hb dX12_endsBlock_246 rfl (lv_at hl 1 rfl) ?_
      obtain ⟨hi_5, hf⟩ := ix_inv hf
      obtain ⟨v_5, e_5, hf⟩ := lt_inv hf
      refine al_M_33 hx hb hK hC hi_5 e_5 dX12_endsBlock_247 ?_
      obtain ⟨v_6, hc_6, hf⟩ := calp_inv hf
      refine cc_Vi (r_X12_hasEffects 250 (D := D) (y := y) (o := o) (ad := ad) (av := av) hc_6 l) hx hb hml hta hown hK hN hV hA hC hRc hRs (by omega) (by omega) wq_1177 (q := 0) (ci := 12) rfl rfl wq_1178 wq_1179 wq_1012 wq_1173 hd_X12_hasEffects (As := [.int v_5]) (rest := []) rfl rfl hl.1 rfl dX12_endsBlock_248 (fun H locs hC => ?_)
      refine lv_if_eq (tgt := 270) hx hb dX12_endsBlock_251 (by decide) (fun c_7 => ?_) (fun c_7 => ?_)
      · have hf := it_t c_7 hf
        exact hret _ _ _ _ _ (congrArg (WM y o) (Option.some.inj hf)) dX12_endsBlock_270 hC
      · have hf := it_f c_7 hf
        refine lv_aload_n hx hb dX12_endsBlock_254 rfl (lv_at hl 0 rfl) ?_
        refine gt_X12_109_m hx hb hta hown hK hC dX12_endsBlock_255 ?_
        refine lv_iload_n hx hb dX12_endsBlock_258 rfl (lv_at hl 1 rfl) ?_
        refine lv_aload_n hx hb dX12_endsBlock_259 rfl (lv_at hl 0 rfl) ?_
        refine lv_aload_n hx hb dX12_endsBlock_260 rfl (lv_at hl 0 rfl) ?_
        refine gt_X12_109_m hx hb hta hown hK hC dX12_endsBlock_261 ?_
        refine lv_iload_n hx hb dX12_endsBlock_264 rfl (lv_at hl 1 rfl) ?_
        obtain ⟨hi_8, hf⟩ := ix_inv hf
        obtain ⟨v_8, e_8, hf⟩ := lt_inv hf
        refine al_M_33 hx hb hK hC hi_8 e_8 dX12_endsBlock_265 ?_
        obtain ⟨v_9, s_9, hc_9, hf⟩ := calv_inv hf
        refine cc_Vi (r_X12_freshX (D := D) (y := y) (o := o) (ad := ad) (av := av) hc_9 l) hx hb hml hta hown hK hN hV hA hC hRc hRs (by omega) (by omega) wq_1197 (q := 0) (ci := 12) rfl rfl wq_1198 wq_1199 wq_1012 wq_1189 hd_X12_freshX (As := [.int v_8]) (rest := [.int x1, .ref (o 33)]) rfl rfl hl.1 rfl dX12_endsBlock_266 (fun H locs hC => ?_)
        obtain ⟨hi_10, hf⟩ := ix_inv hf
        obtain ⟨s_10, e_10, hf⟩ := lt_inv hf
        refine as_M_33 hx hb hK hC hi_10 e_10 dX12_endsBlock_269 (fun H locs hC => ?_)
        exact hret _ _ _ _ _ (congrArg (WM y o) (Option.some.inj hf)) dX12_endsBlock_270 hC
  · have hf := it_f c_2 hf
    refine lv_aload_n hx hb dX12_endsBlock_10 rfl (lv_at hl 0 rfl) ?_
    refine gt_X12_88_m hx hb hta hown hK hC dX12_endsBlock_11 ?_
    refine lv_aload_n hx hb dX12_endsBlock_14 rfl (lv_at hl 0 rfl) ?_
    refine gt_X12_112_m hx hb hta hown hK hC dX12_endsBlock_15 ?_
    refine lv_iload_n hx hb dX12_endsBlock_18 rfl (lv_at hl 2 rfl) ?_
    obtain ⟨hi_11, hf⟩ := ix_inv hf
    obtain ⟨v_11, e_11, hf⟩ := lt_inv hf
    refine al_M_34 hx hb hK hC hi_11 e_11 dX12_endsBlock_19 ?_
    obtain ⟨hi_12, hf⟩ := ix_inv hf
    obtain ⟨v_12, e_12, hf⟩ := lt_inv hf
    refine al_M_26 hx hb hK hC hi_12 e_12 dX12_endsBlock_20 ?_
    refine lv_iconst (v := 2) hx hb dX12_endsBlock_21 (by decide) ?_
    obtain ⟨k_225, hk_225, hf⟩ := jn_inv1 hf
    have hj_225 : ∀ (s_13 : Sto) (H : Heap) (locs : List Loc) (ls : Array Slot), k_225 s_13 = some σ2 → CZ D A s H locs (WM y o s_13) → lv_has ls 7 [(0, .ref (o 0)), (1, .int x1), (2, .int x2_1)] → W p l e R s m args below meth c H locs 0 0 Q (F0 m 225 ls []) := by
      intro s_13 H locs ls hf hC hl
      have hf := hk_225 _ hf
      obtain ⟨x2_14, e_14, hf⟩ := lt_inv hf
      refine lv_iinc (v := x2_14) (lv' := [(2, .int x2_14), (0, .ref (o 0)), (1, .int x1)]) hx hb dX12_endsBlock_225 hl (k := 2) rfl e_14.symm (by decide) rfl (fun ls hl => ?_)
      refine lv_goto (tgt := 2) hx hb dX12_endsBlock_228 (by decide) ?_
      exact ha_2 _ _ hf _ _ _ hC (lv_sub hl [1, 2, 0] rfl)
    obtain ⟨k_43, hk_43, hf⟩ := jn_inv0 hf
    have hj_43 : ∀  (H : Heap) (locs : List Loc) (ls : Array Slot), k_43 = some σ2 → CZ D A s H locs (WM y o s_1) → lv_has ls 7 [(0, .ref (o 0)), (1, .int x1), (2, .int x2_1)] → W p l e R s m args below meth c H locs 0 0 Q (F0 m 43 ls []) := by
      intro H locs ls hf hC hl
      have hf := hk_43 hf
      refine lv_aload_n hx hb dX12_endsBlock_43 rfl (lv_at hl 0 rfl) ?_
      refine gt_X12_109_m hx hb hta hown hK hC dX12_endsBlock_44 ?_
      refine lv_iload_n hx hb dX12_endsBlock_47 rfl (lv_at hl 1 rfl) ?_
      obtain ⟨hi_16, hf⟩ := ix_inv hf
      obtain ⟨v_16, e_16, hf⟩ := lt_inv hf
      refine al_M_33 hx hb hK hC hi_16 e_16 dX12_endsBlock_48 ?_
      refine lv_iconst (v := (-1)) hx hb dX12_endsBlock_49 (by decide) ?_
      obtain ⟨k_73, hk_73, hf⟩ := jn_inv1 hf
      have hj_73 : ∀ (t0_17 : Int32) (H : Heap) (locs : List Loc) (ls : Array Slot), k_73 t0_17 = some σ2 → CZ D A s H locs (WM y o s_1) → lv_has ls 7 [(0, .ref (o 0)), (1, .int x1), (2, .int x2_1)] → W p l e R s m args below meth c H locs 0 0 Q (F0 m 73 ls [.int t0_17]) := by
        intro t0_17 H locs ls hf hC hl
        have hf := hk_73 _ hf
        refine lv_istore_n (lv' := [(3, .int t0_17), (0, .ref (o 0)), (1, .int x1), (2, .int x2_1)]) hx hb dX12_endsBlock_73 rfl hl (by decide) rfl (fun ls hl => ?_)
        refine lv_iload_n hx hb dX12_endsBlock_74 rfl (lv_at hl 3 rfl) ?_
        refine lv_iconst (v := 1) hx hb dX12_endsBlock_75 (by decide) ?_
        refine lv_iadd hx hb dX12_endsBlock_76 ?_
        obtain ⟨x4_18, e_18, hf⟩ := lt_inv hf
        refine nmi e_18 ?_
        refine lv_istore (lv' := [(4, .int x4_18), (3, .int t0_17), (0, .ref (o 0)), (1, .int x1), (2, .int x2_1)]) hx hb dX12_endsBlock_77 hl (by decide) rfl (fun ls hl => ?_)
        refine itr_inv2 (P := fun (x3_19 : Int32) (x4_19 : Int32) => ∀ (H : Heap) (locs : List Loc) (ls : Array Slot), CZ D A s H locs (WM y o s_1) → lv_has ls 7 [(0, .ref (o 0)), (1, .int x1), (2, .int x2_1), (3, .int x3_19), (4, .int x4_19)] → W p l e R s m args below meth c H locs 0 0 Q (F0 m 79 ls [])) hf ?_ _ _ _ hC (lv_sub hl [2, 3, 4, 1, 0] rfl)
        intro a_79 x3_19 x4_19 ha_79 hf H locs ls hC hl
        refine lv_iload hx hb dX12_endsBlock_79 (lv_at hl 4 rfl) ?_
        refine lv_aload_n hx hb dX12_endsBlock_81 rfl (lv_at hl 0 rfl) ?_
        refine gt_X12_419_m hx hb hta hown hK hC dX12_endsBlock_82 ?_
        refine lv_icmp_ge (tgt := 120) hx hb dX12_endsBlock_85 (by decide) (fun c_20 => ?_) (fun c_20 => ?_)
        · have hf := it_t c_20 hf
          refine lv_iload_n hx hb dX12_endsBlock_120 rfl (lv_at hl 3 rfl) ?_
          obtain ⟨k_213, hk_213, hf⟩ := jn_inv1 hf
          have hj_213 : ∀ (s_21 : Sto) (H : Heap) (locs : List Loc) (ls : Array Slot), k_213 s_21 = some σ2 → CZ D A s H locs (WM y o s_21) → lv_has ls 7 [(0, .ref (o 0)), (1, .int x1), (2, .int x2_1)] → W p l e R s m args below meth c H locs 0 0 Q (F0 m 213 ls []) := by
            intro s_21 H locs ls hf hC hl
            have hf := hk_213 _ hf
            refine lv_aload_n hx hb dX12_endsBlock_213 rfl (lv_at hl 0 rfl) ?_
            refine lv_iconst (v := 1) hx hb dX12_endsBlock_214 (by decide) ?_
            refine lv_iload_n hx hb dX12_endsBlock_215 rfl (lv_at hl 2 rfl) ?_
            refine lv_aload_n hx hb dX12_endsBlock_216 rfl (lv_at hl 0 rfl) ?_
            refine gt_X12_112_m hx hb hta hown hK hC dX12_endsBlock_217 ?_
            refine lv_iload_n hx hb dX12_endsBlock_220 rfl (lv_at hl 2 rfl) ?_
            obtain ⟨hi_22, hf⟩ := ix_inv hf
            obtain ⟨v_22, e_22, hf⟩ := lt_inv hf
            refine al_M_34 hx hb hK hC hi_22 e_22 dX12_endsBlock_221 ?_
            obtain ⟨s_23, hc_23, hf⟩ := cals_inv hf
            refine cc_Vv (r_X12_states (D := D) (y := y) (o := o) (ad := ad) (av := av) hc_23 l) hx hb hml hta hown hK hN hV hA hC hRc hRs (by omega) (by omega) wq_1191 (q := 0) (ci := 12) rfl rfl wq_1192 wq_1193 wq_1012 wq_1187 hd_X12_states (As := [.int 1, .int x2_1, .int v_22]) (rest := []) rfl rfl hl.1 rfl dX12_endsBlock_222 (fun H locs hC => ?_)
            exact hj_225 _ _ _ _ hf hC hl
          refine lv_if_eq (tgt := 213) hx hb dX12_endsBlock_121 (by decide) (fun c_24 => ?_) (fun c_24 => ?_)
          · have hf := it_t c_24 hf
            exact hj_213 _ _ _ _ hf hC (lv_sub hl [0, 1, 2] rfl)
          · have hf := it_f c_24 hf
            refine lv_aload_n hx hb dX12_endsBlock_124 rfl (lv_at hl 0 rfl) ?_
            refine gt_X12_410_m hx hb hta hown hK hC dX12_endsBlock_125 ?_
            obtain ⟨x4_25, e_25, hf⟩ := lt_inv hf
            refine nmi e_25 ?_
            refine lv_istore (lv' := [(4, .int x4_25), (0, .ref (o 0)), (1, .int x1), (2, .int x2_1), (3, .int x3_19)]) hx hb dX12_endsBlock_128 hl (by decide) rfl (fun ls hl => ?_)
            refine lv_aload_n hx hb dX12_endsBlock_130 rfl (lv_at hl 1 rfl) ?_
            refine lv_aload_n hx hb dX12_endsBlock_131 rfl (lv_at hl 1 rfl) ?_
            refine lv_iconst (v := 2) hx hb dX12_endsBlock_132 (by decide) ?_
            refine lv_iload_n hx hb dX12_endsBlock_133 rfl (lv_at hl 3 rfl) ?_
            refine lv_iconst (v := 0) hx hb dX12_endsBlock_134 (by decide) ?_
            obtain ⟨v_26, s_26, hc_26, hf⟩ := calv_inv hf
            refine cc_Vi (r_X12_makes (D := D) (y := y) (o := o) (ad := ad) (av := av) hc_26 l) hx hb hml hta hown hK hN hV hA hC hRc hRs (by omega) (by omega) wq_1194 (q := 0) (ci := 12) rfl rfl wq_1195 wq_1196 wq_1012 wq_1164 hd_X12_makes (As := [.int 2, .int x2_1, .int 0]) (rest := [.ref (o 0)]) rfl rfl hl.1 rfl dX12_endsBlock_135 (fun H locs hC => ?_)
            obtain ⟨v_27, s_27, hc_27, hf⟩ := calv_inv hf
            refine cc_Vi (r_X12_freshX (D := D) (y := y) (o := o) (ad := ad) (av := av) hc_27 l) hx hb hml hta hown hK hN hV hA hC hRc hRs (by omega) (by omega) wq_1197 (q := 0) (ci := 12) rfl rfl wq_1198 wq_1199 wq_1012 wq_1189 hd_X12_freshX (As := [.int v_26]) (rest := []) rfl rfl hl.1 rfl dX12_endsBlock_138 (fun H locs hC => ?_)
            refine lv_istore (lv' := [(5, .int v_27), (4, .int x4_25), (0, .ref (o 0)), (1, .int x1), (2, .int x2_1), (3, .int x3_19)]) hx hb dX12_endsBlock_141 hl (by decide) rfl (fun ls hl => ?_)
            refine lv_iload_n hx hb dX12_endsBlock_143 rfl (lv_at hl 4 rfl) ?_
            refine lv_iconst (v := 1) hx hb dX12_endsBlock_144 (by decide) ?_
            refine lv_iadd hx hb dX12_endsBlock_145 ?_
            obtain ⟨x6_28, e_28, hf⟩ := lt_inv hf
            refine nmi e_28 ?_
            refine lv_istore (lv' := [(6, .int x6_28), (5, .int v_27), (4, .int x4_25), (0, .ref (o 0)), (1, .int x1), (2, .int x2_1), (3, .int x3_19)]) hx hb dX12_endsBlock_146 hl (by decide) rfl (fun ls hl => ?_)
            refine itr_inv2 (P := fun (x6_29 : Int32) (s_29 : Sto) => ∀ (H : Heap) (locs : List Loc) (ls : Array Slot), CZ D A s H locs (WM y o s_29) → lv_has ls 7 [(0, .ref (o 0)), (1, .int x1), (2, .int x2_1), (4, .int x4_25), (6, .int x6_29)] → W p l e R s m args below meth c H locs 0 0 Q (F0 m 148 ls [])) hf ?_ _ _ _ hC (lv_sub hl [3, 4, 5, 2, 0] rfl)
            intro a_148 x6_29 s_29 ha_148 hf H locs ls hC hl
            refine lv_iload hx hb dX12_endsBlock_148 (lv_at hl 4 rfl) ?_
            refine lv_aload_n hx hb dX12_endsBlock_150 rfl (lv_at hl 0 rfl) ?_
            refine gt_X12_419_m hx hb hta hown hK hC dX12_endsBlock_151 ?_
            refine lv_icmp_ge (tgt := 184) hx hb dX12_endsBlock_154 (by decide) (fun c_30 => ?_) (fun c_30 => ?_)
            · have hf := it_t c_30 hf
              refine lv_aload_n hx hb dX12_endsBlock_184 rfl (lv_at hl 0 rfl) ?_
              refine gt_X12_109_m hx hb hta hown hK hC dX12_endsBlock_185 ?_
              refine lv_iload_n hx hb dX12_endsBlock_188 rfl (lv_at hl 1 rfl) ?_
              obtain ⟨hi_31, hf⟩ := ix_inv hf
              obtain ⟨v_31, e_31, hf⟩ := lt_inv hf
              refine al_M_33 hx hb hK hC hi_31 e_31 dX12_endsBlock_189 ?_
              refine lv_iconst (v := (-1)) hx hb dX12_endsBlock_190 (by decide) ?_
              refine lv_icmp_eq (tgt := 213) hx hb dX12_endsBlock_191 (by decide) (fun c_32 => ?_) (fun c_32 => ?_)
              · have hf := it_t c_32 hf
                exact hj_213 _ _ _ _ hf hC (lv_sub hl [0, 1, 2] rfl)
              · have hf := it_f c_32 hf
                refine lv_aload_n hx hb dX12_endsBlock_194 rfl (lv_at hl 0 rfl) ?_
                refine gt_X12_109_m hx hb hta hown hK hC dX12_endsBlock_195 ?_
                refine lv_iload_n hx hb dX12_endsBlock_198 rfl (lv_at hl 1 rfl) ?_
                refine lv_aload_n hx hb dX12_endsBlock_199 rfl (lv_at hl 0 rfl) ?_
                refine lv_aload_n hx hb dX12_endsBlock_200 rfl (lv_at hl 0 rfl) ?_
                refine gt_X12_109_m hx hb hta hown hK hC dX12_endsBlock_201 ?_
                refine lv_iload_n hx hb dX12_endsBlock_204 rfl (lv_at hl 1 rfl) ?_
                obtain ⟨hi_33, hf⟩ := ix_inv hf
                obtain ⟨v_33, e_33, hf⟩ := lt_inv hf
                refine al_M_33 hx hb hK hC hi_33 e_33 dX12_endsBlock_205 ?_
                refine lv_iload_n hx hb dX12_endsBlock_206 rfl (lv_at hl 2 rfl) ?_
                refine lv_iload hx hb dX12_endsBlock_207 (lv_at hl 3 rfl) ?_
                obtain ⟨v_34, s_34, hc_34, hf⟩ := calv_inv hf
                refine cc_Vi (r_X12_with 250 (D := D) (y := y) (o := o) (ad := ad) (av := av) hc_34 l) hx hb hml hta hown hK hN hV hA hC hRc hRs (by omega) (by omega) wq_1231 (q := 0) (ci := 12) rfl rfl wq_1232 wq_1233 wq_1012 wq_1230 hd_X12_with (As := [.int v_33, .int x2_1, .int x4_25]) (rest := [.int x1, .ref (o 33)]) rfl rfl hl.1 rfl dX12_endsBlock_209 (fun H locs hC => ?_)
                obtain ⟨hi_35, hf⟩ := ix_inv hf
                obtain ⟨s_35, e_35, hf⟩ := lt_inv hf
                refine as_M_33 hx hb hK hC hi_35 e_35 dX12_endsBlock_212 (fun H locs hC => ?_)
                exact hj_213 _ _ _ _ hf hC (lv_sub hl [0, 1, 2] rfl)
            · have hf := it_f c_30 hf
              refine lv_aload_n hx hb dX12_endsBlock_157 rfl (lv_at hl 0 rfl) ?_
              refine gt_X12_112_m hx hb hta hown hK hC dX12_endsBlock_158 ?_
              refine lv_iload hx hb dX12_endsBlock_161 (lv_at hl 4 rfl) ?_
              refine lv_aload_n hx hb dX12_endsBlock_163 rfl (lv_at hl 0 rfl) ?_
              refine lv_aload_n hx hb dX12_endsBlock_164 rfl (lv_at hl 0 rfl) ?_
              refine gt_X12_112_m hx hb hta hown hK hC dX12_endsBlock_165 ?_
              refine lv_iload hx hb dX12_endsBlock_168 (lv_at hl 4 rfl) ?_
              obtain ⟨hi_36, hf⟩ := ix_inv hf
              obtain ⟨v_36, e_36, hf⟩ := lt_inv hf
              refine al_M_34 hx hb hK hC hi_36 e_36 dX12_endsBlock_170 ?_
              refine lv_iload_n hx hb dX12_endsBlock_171 rfl (lv_at hl 2 rfl) ?_
              refine lv_iload hx hb dX12_endsBlock_172 (lv_at hl 3 rfl) ?_
              obtain ⟨v_37, s_37, hc_37, hf⟩ := calv_inv hf
              refine cc_Vi (r_X12_with 250 (D := D) (y := y) (o := o) (ad := ad) (av := av) hc_37 l) hx hb hml hta hown hK hN hV hA hC hRc hRs (by omega) (by omega) wq_1231 (q := 0) (ci := 12) rfl rfl wq_1232 wq_1233 wq_1012 wq_1230 hd_X12_with (As := [.int v_36, .int x2_1, .int x4_25]) (rest := [.int x6_29, .ref (o 34)]) rfl rfl hl.1 rfl dX12_endsBlock_174 (fun H locs hC => ?_)
              obtain ⟨hi_38, hf⟩ := ix_inv hf
              obtain ⟨s_38, e_38, hf⟩ := lt_inv hf
              refine as_M_34 hx hb hK hC hi_38 e_38 dX12_endsBlock_177 (fun H locs hC => ?_)
              obtain ⟨x6_39, e_39, hf⟩ := lt_inv hf
              refine lv_iinc (v := x6_39) (lv' := [(6, .int x6_39), (0, .ref (o 0)), (1, .int x1), (2, .int x2_1), (4, .int x4_25)]) hx hb dX12_endsBlock_178 hl (k := 4) rfl e_39.symm (by decide) rfl (fun ls hl => ?_)
              refine lv_goto (tgt := 148) hx hb dX12_endsBlock_181 (by decide) ?_
              exact ha_148 _ _ hf _ _ _ hC (lv_sub hl [1, 2, 3, 4, 0] rfl)
        · have hf := it_f c_20 hf
          refine lv_iload_n hx hb dX12_endsBlock_88 rfl (lv_at hl 3 rfl) ?_
          obtain ⟨k_113, hk_113, hf⟩ := jn_inv1 hf
          have hj_113 : ∀ (t0_40 : Int32) (H : Heap) (locs : List Loc) (ls : Array Slot), k_113 t0_40 = some σ2 → CZ D A s H locs (WM y o s_1) → lv_has ls 7 [(0, .ref (o 0)), (1, .int x1), (2, .int x2_1), (4, .int x4_19)] → W p l e R s m args below meth c H locs 0 0 Q (F0 m 113 ls [.int t0_40]) := by
            intro t0_40 H locs ls hf hC hl
            have hf := hk_113 _ hf
            refine lv_istore_n (lv' := [(3, .int t0_40), (0, .ref (o 0)), (1, .int x1), (2, .int x2_1), (4, .int x4_19)]) hx hb dX12_endsBlock_113 rfl hl (by decide) rfl (fun ls hl => ?_)
            obtain ⟨x4_41, e_41, hf⟩ := lt_inv hf
            refine lv_iinc (v := x4_41) (lv' := [(4, .int x4_41), (3, .int t0_40), (0, .ref (o 0)), (1, .int x1), (2, .int x2_1)]) hx hb dX12_endsBlock_114 hl (k := 4) rfl e_41.symm (by decide) rfl (fun ls hl => ?_)
            refine lv_goto (tgt := 79) hx hb dX12_endsBlock_117 (by decide) ?_
            exact ha_79 _ _ hf _ _ _ hC (lv_sub hl [2, 3, 4, 1, 0] rfl)
          obtain ⟨k_108, hk_108, hf⟩ := jn_inv0 hf
          have hj_108 : ∀  (H : Heap) (locs : List Loc) (ls : Array Slot), k_108 = some σ2 → CZ D A s H locs (WM y o s_1) → lv_has ls 7 [(0, .ref (o 0)), (1, .int x1), (2, .int x2_1), (4, .int x4_19)] → W p l e R s m args below meth c H locs 0 0 Q (F0 m 108 ls []) := by
            intro H locs ls hf hC hl
            have hf := hk_108 hf
            refine lv_iconst (v := 1) hx hb dX12_endsBlock_108 (by decide) ?_
            refine lv_goto (tgt := 113) hx hb dX12_endsBlock_109 (by decide) ?_
            exact hj_113 _ _ _ _ hf hC hl
          refine lv_if_ne (tgt := 108) hx hb dX12_endsBlock_89 (by decide) (fun c_43 => ?_) (fun c_43 => ?_)
          · have hf := it_f c_43 hf
            exact hj_108 _ _ _ hf hC (lv_sub hl [0, 1, 2, 4] rfl)
          · have hf := it_t c_43 hf
            refine lv_aload_n hx hb dX12_endsBlock_92 rfl (lv_at hl 0 rfl) ?_
            refine lv_aload_n hx hb dX12_endsBlock_93 rfl (lv_at hl 0 rfl) ?_
            refine gt_X12_112_m hx hb hta hown hK hC dX12_endsBlock_94 ?_
            refine lv_iload hx hb dX12_endsBlock_97 (lv_at hl 4 rfl) ?_
            obtain ⟨hi_44, hf⟩ := ix_inv hf
            obtain ⟨v_44, e_44, hf⟩ := lt_inv hf
            refine al_M_34 hx hb hK hC hi_44 e_44 dX12_endsBlock_99 ?_
            refine lv_iconst (v := 2) hx hb dX12_endsBlock_100 (by decide) ?_
            refine lv_iload_n hx hb dX12_endsBlock_101 rfl (lv_at hl 2 rfl) ?_
            obtain ⟨v_45, hc_45, hf⟩ := calp_inv hf
            refine cc_Vi (r_X12_hasName 250 (D := D) (y := y) (o := o) (ad := ad) (av := av) hc_45 l) hx hb hml hta hown hK hN hV hA hC hRc hRs (by omega) (by omega) wq_1184 (q := 0) (ci := 12) rfl rfl wq_1185 wq_1186 wq_1012 wq_1183 hd_X12_hasName (As := [.int v_44, .int 2, .int x2_1]) (rest := []) rfl rfl hl.1 rfl dX12_endsBlock_102 (fun H locs hC => ?_)
            refine lv_if_eq (tgt := 112) hx hb dX12_endsBlock_105 (by decide) (fun c_46 => ?_) (fun c_46 => ?_)
            · have hf := it_t c_46 hf
              refine lv_iconst (v := 0) hx hb dX12_endsBlock_112 (by decide) ?_
              exact hj_113 _ _ _ _ hf hC (lv_sub hl [0, 1, 2, 4] rfl)
            · have hf := it_f c_46 hf
              exact hj_108 _ _ _ hf hC (lv_sub hl [0, 1, 2, 4] rfl)
      obtain ⟨k_72, hk_72, hf⟩ := jn_inv0 hf
      have hj_72 : ∀  (H : Heap) (locs : List Loc) (ls : Array Slot), k_72 = some σ2 → CZ D A s H locs (WM y o s_1) → lv_has ls 7 [(0, .ref (o 0)), (1, .int x1), (2, .int x2_1)] → W p l e R s m args below meth c H locs 0 0 Q (F0 m 72 ls []) := by
        intro H locs ls hf hC hl
        have hf := hk_72 hf
        refine lv_iconst (v := 0) hx hb dX12_endsBlock_72 (by decide) ?_
        exact hj_73 _ _ _ _ hf hC hl
      refine lv_icmp_eq (tgt := 72) hx hb dX12_endsBlock_50 (by decide) (fun c_48 => ?_) (fun c_48 => ?_)
      · have hf := it_t c_48 hf
        exact hj_72 _ _ _ hf hC hl
      · have hf := it_f c_48 hf
        refine lv_aload_n hx hb dX12_endsBlock_53 rfl (lv_at hl 0 rfl) ?_
        refine lv_aload_n hx hb dX12_endsBlock_54 rfl (lv_at hl 0 rfl) ?_
        refine gt_X12_109_m hx hb hta hown hK hC dX12_endsBlock_55 ?_
        refine lv_iload_n hx hb dX12_endsBlock_58 rfl (lv_at hl 1 rfl) ?_
        obtain ⟨hi_49, hf⟩ := ix_inv hf
        obtain ⟨v_49, e_49, hf⟩ := lt_inv hf
        refine al_M_33 hx hb hK hC hi_49 e_49 dX12_endsBlock_59 ?_
        refine lv_iconst (v := 2) hx hb dX12_endsBlock_60 (by decide) ?_
        refine lv_iload_n hx hb dX12_endsBlock_61 rfl (lv_at hl 2 rfl) ?_
        obtain ⟨v_50, hc_50, hf⟩ := calp_inv hf
        refine cc_Vi (r_X12_hasName 250 (D := D) (y := y) (o := o) (ad := ad) (av := av) hc_50 l) hx hb hml hta hown hK hN hV hA hC hRc hRs (by omega) (by omega) wq_1184 (q := 0) (ci := 12) rfl rfl wq_1185 wq_1186 wq_1012 wq_1183 hd_X12_hasName (As := [.int v_49, .int 2, .int x2_1]) (rest := []) rfl rfl hl.1 rfl dX12_endsBlock_62 (fun H locs hC => ?_)
        refine lv_if_eq (tgt := 72) hx hb dX12_endsBlock_65 (by decide) (fun c_51 => ?_) (fun c_51 => ?_)
        · have hf := it_t c_51 hf
          exact hj_72 _ _ _ hf hC hl
        · have hf := it_f c_51 hf
          refine lv_iconst (v := 1) hx hb dX12_endsBlock_68 (by decide) ?_
          refine lv_goto (tgt := 73) hx hb dX12_endsBlock_69 (by decide) ?_
          exact hj_73 _ _ _ _ hf hC hl
    refine lv_icmp_ne (tgt := 43) hx hb dX12_endsBlock_22 (by decide) (fun c_52 => ?_) (fun c_52 => ?_)
    · have hf := it_f c_52 hf
      exact hj_43 _ _ _ hf hC hl
    · have hf := it_t c_52 hf
      refine lv_aload_n hx hb dX12_endsBlock_25 rfl (lv_at hl 0 rfl) ?_
      refine gt_X12_91_m hx hb hta hown hK hC dX12_endsBlock_26 ?_
      refine lv_aload_n hx hb dX12_endsBlock_29 rfl (lv_at hl 0 rfl) ?_
      refine gt_X12_112_m hx hb hta hown hK hC dX12_endsBlock_30 ?_
      refine lv_iload_n hx hb dX12_endsBlock_33 rfl (lv_at hl 2 rfl) ?_
      obtain ⟨hi_53, hf⟩ := ix_inv hf
      obtain ⟨v_53, e_53, hf⟩ := lt_inv hf
      refine al_M_34 hx hb hK hC hi_53 e_53 dX12_endsBlock_34 ?_
      obtain ⟨hi_54, hf⟩ := ix_inv hf
      obtain ⟨v_54, e_54, hf⟩ := lt_inv hf
      refine al_M_27 hx hb hK hC hi_54 e_54 dX12_endsBlock_35 ?_
      refine lv_iload_n hx hb dX12_endsBlock_36 rfl (lv_at hl 2 rfl) ?_
      refine lv_icmp_ne (tgt := 43) hx hb dX12_endsBlock_37 (by decide) (fun c_55 => ?_) (fun c_55 => ?_)
      · have hf := it_f c_55 hf
        exact hj_43 _ _ _ hf hC hl
      · have hf := it_t c_55 hf
        refine lv_goto (tgt := 225) hx hb dX12_endsBlock_40 (by decide) ?_
        exact hj_225 _ _ _ _ hf hC hl

set_option maxHeartbeats 8000000 in
set_option maxRecDepth 100000 in
theorem r_X12_pops_ {D : va_G} {y : Nat → ClassId} {o : Nat → Nat} {ad av : Nat → Nat} {σ : Sto} {σ2 : Sto} {v : Int32} (hf : f_X12_pops_ σ = some (v, σ2)) (l : Launch) (sz : Nat) : Met l yX12_pops_ (Cond.code yX12_pops_ cX12_pops_ 1 (some .int) :: ALW) { frames := 0, cells := 0, slots := 0, locals := 0 } (va_Pc [.ref (o 0)] (PZ D y ad av (WM y o σ) sz)) (QZi D (WM y o σ) v (WM y o σ2) sz) 0 0 (va_A (WM y o σ) sz) := by
  refine met_i (by decide) (Nat.le_of_ble_eq_true rfl) ?_
  intro p e R s m args below meth c Q A ls hx hb hml hta hown hRc hRs hRf hRl hN hK hV hA hret hC hl
  have hl : lv_has ls 1 [(0, .ref (o 0))] := hl
  unfold f_X12_pops_ at hf
  refine lv_aload_n hx hb dX12_pops__0 rfl (lv_at hl 0 rfl) ?_
  refine lv_dup hx hb dX12_pops__1 rfl ?_
  refine gt_X12_419_m hx hb hta hown hK hC dX12_pops__2 ?_
  refine lv_iconst (v := 1) hx hb dX12_pops__5 (by decide) ?_
  refine lv_isub hx hb dX12_pops__6 ?_
  obtain ⟨s_1, e_1, hf⟩ := lt_inv hf
  refine pt_X12_419_m hx hb hta hown hK hC e_1 dX12_pops__7 (fun H locs hC => ?_)
  refine lv_aload_n hx hb dX12_pops__10 rfl (lv_at hl 0 rfl) ?_
  refine gt_X12_112_m hx hb hta hown hK hC dX12_pops__11 ?_
  refine lv_aload_n hx hb dX12_pops__14 rfl (lv_at hl 0 rfl) ?_
  refine gt_X12_419_m hx hb hta hown hK hC dX12_pops__15 ?_
  obtain ⟨hi_2, hf⟩ := ix_inv hf
  obtain ⟨v_2, e_2, hf⟩ := lt_inv hf
  refine al_M_34 hx hb hK hC hi_2 e_2 dX12_pops__18 ?_
  exact hret _ _ _ _ _ _ (rv_inv hf).1 (congrArg (WM y o) (rv_inv hf).2) rfl dX12_pops__19 hC

set_option maxHeartbeats 8000000 in
set_option maxRecDepth 100000 in
theorem r_X12_lays {D : va_G} {y : Nat → ClassId} {o : Nat → Nat} {ad av : Nat → Nat} {x1 : Int32} {σ : Sto} {σ2 : Sto} (hf : f_X12_lays x1 σ = some σ2) (l : Launch) (sz : Nat) : Met l yX12_lays (Cond.code yX12_lays cX12_lays 2 none :: ALW) { frames := 0, cells := 0, slots := 0, locals := 0 } (va_Pc [.ref (o 0), .int x1] (PZ D y ad av (WM y o σ) sz)) (QZv D (WM y o σ) (WM y o σ2) sz) 0 0 (va_A (WM y o σ) sz) := by
  refine met_v (by decide) (Nat.le_of_ble_eq_true rfl) ?_
  intro p e R s m args below meth c Q A ls hx hb hml hta hown hRc hRs hRf hRl hN hK hV hA hret hC hl
  have hl : lv_has ls 2 [(0, .ref (o 0)), (1, .int x1)] := hl
  unfold f_X12_lays at hf
  refine lv_aload_n hx hb dX12_lays_0 rfl (lv_at hl 0 rfl) ?_
  refine gt_X12_112_m hx hb hta hown hK hC dX12_lays_1 ?_
  refine lv_aload_n hx hb dX12_lays_4 rfl (lv_at hl 0 rfl) ?_
  refine gt_X12_419_m hx hb hta hown hK hC dX12_lays_5 ?_
  refine lv_iload_n hx hb dX12_lays_8 rfl (lv_at hl 1 rfl) ?_
  obtain ⟨hi_1, hf⟩ := ix_inv hf
  obtain ⟨s_1, e_1, hf⟩ := lt_inv hf
  refine as_M_34 hx hb hK hC hi_1 e_1 dX12_lays_9 (fun H locs hC => ?_)
  refine lv_aload_n hx hb dX12_lays_10 rfl (lv_at hl 0 rfl) ?_
  refine lv_dup hx hb dX12_lays_11 rfl ?_
  refine gt_X12_419_m hx hb hta hown hK hC dX12_lays_12 ?_
  refine lv_iconst (v := 1) hx hb dX12_lays_15 (by decide) ?_
  refine lv_iadd hx hb dX12_lays_16 ?_
  obtain ⟨s_2, e_2, hf⟩ := lt_inv hf
  refine pt_X12_419_m hx hb hta hown hK hC e_2 dX12_lays_17 (fun H locs hC => ?_)
  exact hret _ _ _ _ _ (congrArg (WM y o) (Option.some.inj hf)) dX12_lays_20 hC

set_option maxHeartbeats 8000000 in
set_option maxRecDepth 100000 in
theorem r_X12_isName {D : va_G} {y : Nat → ClassId} {o : Nat → Nat} {ad av : Nat → Nat} {x1 : Int32} {σ : Sto} {v : Int32} (hf : f_X12_isName x1 σ = some v) (l : Launch) (sz : Nat) : Met l yX12_isName (Cond.code yX12_isName cX12_isName 2 (some .boolean) :: ALW) { frames := 0, cells := 0, slots := 0, locals := 0 } (va_Pc [.ref (o 0), .int x1] (PZ D y ad av (WM y o σ) sz)) (QZi D (WM y o σ) v (WM y o σ) sz) 0 0 (va_A (WM y o σ) sz) := by
  refine met_i (by decide) (Nat.le_of_ble_eq_true rfl) ?_
  intro p e R s m args below meth c Q A ls hx hb hml hta hown hRc hRs hRf hRl hN hK hV hA hret hC hl
  have hl : lv_has ls 2 [(0, .ref (o 0)), (1, .int x1)] := hl
  unfold f_X12_isName at hf
  refine lv_aload_n hx hb dX12_isName_0 rfl (lv_at hl 0 rfl) ?_
  refine gt_X12_88_m hx hb hta hown hK hC dX12_isName_1 ?_
  refine lv_iload_n hx hb dX12_isName_4 rfl (lv_at hl 1 rfl) ?_
  obtain ⟨hi_1, hf⟩ := ix_inv hf
  obtain ⟨v_1, e_1, hf⟩ := lt_inv hf
  refine al_M_26 hx hb hK hC hi_1 e_1 dX12_isName_5 ?_
  refine lv_iconst (v := 1) hx hb dX12_isName_6 (by decide) ?_
  obtain ⟨k_30, hk_30, hf⟩ := jn_inv0 hf
  have hj_30 : ∀  (H : Heap) (locs : List Loc) (ls : Array Slot), k_30 = some v → CZ D A s H locs (WM y o σ) → lv_has ls 2 [] → W p l e R s m args below meth c H locs 0 0 Q (F0 m 30 ls []) := by
    intro H locs ls hf hC hl
    have hf := hk_30 hf
    refine lv_iconst (v := 1) hx hb dX12_isName_30 (by decide) ?_
    refine lv_goto (tgt := 35) hx hb dX12_isName_31 (by decide) ?_
    exact hret _ _ _ _ _ _ (Option.some.inj hf) rfl rfl dX12_isName_35 hC
  refine lv_icmp_eq (tgt := 30) hx hb dX12_isName_7 (by decide) (fun c_3 => ?_) (fun c_3 => ?_)
  · have hf := it_t c_3 hf
    exact hj_30 _ _ _ hf hC (lv_sub hl [] rfl)
  · have hf := it_f c_3 hf
    refine lv_aload_n hx hb dX12_isName_10 rfl (lv_at hl 0 rfl) ?_
    refine gt_X12_88_m hx hb hta hown hK hC dX12_isName_11 ?_
    refine lv_iload_n hx hb dX12_isName_14 rfl (lv_at hl 1 rfl) ?_
    obtain ⟨hi_4, hf⟩ := ix_inv hf
    obtain ⟨v_4, e_4, hf⟩ := lt_inv hf
    refine al_M_26 hx hb hK hC hi_4 e_4 dX12_isName_15 ?_
    refine lv_iconst (v := 2) hx hb dX12_isName_16 (by decide) ?_
    refine lv_icmp_eq (tgt := 30) hx hb dX12_isName_17 (by decide) (fun c_5 => ?_) (fun c_5 => ?_)
    · have hf := it_t c_5 hf
      exact hj_30 _ _ _ hf hC (lv_sub hl [] rfl)
    · have hf := it_f c_5 hf
      refine lv_aload_n hx hb dX12_isName_20 rfl (lv_at hl 0 rfl) ?_
      refine gt_X12_88_m hx hb hta hown hK hC dX12_isName_21 ?_
      refine lv_iload_n hx hb dX12_isName_24 rfl (lv_at hl 1 rfl) ?_
      obtain ⟨hi_6, hf⟩ := ix_inv hf
      obtain ⟨v_6, e_6, hf⟩ := lt_inv hf
      refine al_M_26 hx hb hK hC hi_6 e_6 dX12_isName_25 ?_
      refine lv_iconst (v := 3) hx hb dX12_isName_26 (by decide) ?_
      refine lv_icmp_ne (tgt := 34) hx hb dX12_isName_27 (by decide) (fun c_7 => ?_) (fun c_7 => ?_)
      · have hf := it_f c_7 hf
        refine lv_iconst (v := 0) hx hb dX12_isName_34 (by decide) ?_
        exact hret _ _ _ _ _ _ (Option.some.inj hf) rfl rfl dX12_isName_35 hC
      · have hf := it_t c_7 hf
        exact hj_30 _ _ _ hf hC (lv_sub hl [] rfl)

set_option maxHeartbeats 8000000 in
set_option maxRecDepth 100000 in
theorem r_X12_settles {D : va_G} {y : Nat → ClassId} {o : Nat → Nat} {ad av : Nat → Nat} {x1 : Int32} {x2 : Int32} {σ : Sto} {σ2 : Sto} (hf : f_X12_settles x1 x2 σ = some σ2) (l : Launch) (sz : Nat) : Met l yX12_settles (Cond.code yX12_settles cX12_settles 4 none :: ALW) { frames := 252, cells := 0, slots := 0, locals := 5794 } (va_Pc [.ref (o 0), .int x1, .int x2] (PZ D y ad av (WM y o σ) sz)) (QZv D (WM y o σ) (WM y o σ2) sz) 0 0 (va_A (WM y o σ) sz) := by
  refine met_v (by decide) (Nat.le_of_ble_eq_true rfl) ?_
  intro p e R s m args below meth c Q A ls hx hb hml hta hown hRc hRs hRf hRl hN hK hV hA hret hC hl
  have hl : lv_has ls 4 [(0, .ref (o 0)), (1, .int x1), (2, .int x2)] := hl
  unfold f_X12_settles at hf
  refine lv_iconst (v := 0) hx hb dX12_settles_0 (by decide) ?_
  refine lv_istore_n (lv' := [(3, .int 0), (0, .ref (o 0)), (1, .int x1), (2, .int x2)]) hx hb dX12_settles_1 rfl hl (by decide) rfl (fun ls hl => ?_)
  refine itr_inv2 (P := fun (x3_1 : Int32) (s_1 : Sto) => ∀ (H : Heap) (locs : List Loc) (ls : Array Slot), CZ D A s H locs (WM y o s_1) → lv_has ls 4 [(0, .ref (o 0)), (1, .int x1), (2, .int x2), (3, .int x3_1)] → W p l e R s m args below meth c H locs 0 0 Q (F0 m 2 ls [])) hf ?_ _ _ _ hC (lv_sub hl [1, 2, 3, 0] rfl)
  intro a_2 x3_1 s_1 ha_2 hf H locs ls hC hl
  refine lv_iload_n hx hb dX12_settles_2 rfl (lv_at hl 3 rfl) ?_
  refine lv_iload_n hx hb dX12_settles_3 rfl (lv_at hl 1 rfl) ?_
  refine lv_icmp_ge (tgt := 62) hx hb dX12_settles_4 (by decide) (fun c_2 => ?_) (fun c_2 => ?_)
  · have hf := it_t c_2 hf
    exact hret _ _ _ _ _ (congrArg (WM y o) (Option.some.inj hf)) dX12_settles_62 hC
  · have hf := it_f c_2 hf
    refine lv_aload_n hx hb dX12_settles_7 rfl (lv_at hl 0 rfl) ?_
    refine lv_aload_n hx hb dX12_settles_8 rfl (lv_at hl 0 rfl) ?_
    refine gt_X12_112_m hx hb hta hown hK hC dX12_settles_9 ?_
    refine lv_iload_n hx hb dX12_settles_12 rfl (lv_at hl 3 rfl) ?_
    obtain ⟨hi_3, hf⟩ := ix_inv hf
    obtain ⟨v_3, e_3, hf⟩ := lt_inv hf
    refine al_M_34 hx hb hK hC hi_3 e_3 dX12_settles_13 ?_
    obtain ⟨v_4, hc_4, hf⟩ := calp_inv hf
    refine cc_Vi (r_X12_hasEffects 250 (D := D) (y := y) (o := o) (ad := ad) (av := av) hc_4 l) hx hb hml hta hown hK hN hV hA hC hRc hRs (by omega) (by omega) wq_1177 (q := 0) (ci := 12) rfl rfl wq_1178 wq_1179 wq_1012 wq_1173 hd_X12_hasEffects (As := [.int v_3]) (rest := []) rfl rfl hl.1 rfl dX12_settles_14 (fun H locs hC => ?_)
    obtain ⟨k_56, hk_56, hf⟩ := jn_inv1 hf
    have hj_56 : ∀ (s_5 : Sto) (H : Heap) (locs : List Loc) (ls : Array Slot), k_56 s_5 = some σ2 → CZ D A s H locs (WM y o s_5) → lv_has ls 4 [(0, .ref (o 0)), (1, .int x1), (2, .int x2), (3, .int x3_1)] → W p l e R s m args below meth c H locs 0 0 Q (F0 m 56 ls []) := by
      intro s_5 H locs ls hf hC hl
      have hf := hk_56 _ hf
      obtain ⟨x3_6, e_6, hf⟩ := lt_inv hf
      refine lv_iinc (v := x3_6) (lv' := [(3, .int x3_6), (0, .ref (o 0)), (1, .int x1), (2, .int x2)]) hx hb dX12_settles_56 hl (k := 3) rfl e_6.symm (by decide) rfl (fun ls hl => ?_)
      refine lv_goto (tgt := 2) hx hb dX12_settles_59 (by decide) ?_
      exact ha_2 _ _ hf _ _ _ hC (lv_sub hl [1, 2, 3, 0] rfl)
    obtain ⟨k_40, hk_40, hf⟩ := jn_inv0 hf
    have hj_40 : ∀  (H : Heap) (locs : List Loc) (ls : Array Slot), k_40 = some σ2 → CZ D A s H locs (WM y o s_1) → lv_has ls 4 [(0, .ref (o 0)), (1, .int x1), (2, .int x2), (3, .int x3_1)] → W p l e R s m args below meth c H locs 0 0 Q (F0 m 40 ls []) := by
      intro H locs ls hf hC hl
      have hf := hk_40 hf
      refine lv_aload_n hx hb dX12_settles_40 rfl (lv_at hl 0 rfl) ?_
      refine gt_X12_112_m hx hb hta hown hK hC dX12_settles_41 ?_
      refine lv_iload_n hx hb dX12_settles_44 rfl (lv_at hl 3 rfl) ?_
      refine lv_aload_n hx hb dX12_settles_45 rfl (lv_at hl 0 rfl) ?_
      refine lv_aload_n hx hb dX12_settles_46 rfl (lv_at hl 0 rfl) ?_
      refine gt_X12_112_m hx hb hta hown hK hC dX12_settles_47 ?_
      refine lv_iload_n hx hb dX12_settles_50 rfl (lv_at hl 3 rfl) ?_
      obtain ⟨hi_8, hf⟩ := ix_inv hf
      obtain ⟨v_8, e_8, hf⟩ := lt_inv hf
      refine al_M_34 hx hb hK hC hi_8 e_8 dX12_settles_51 ?_
      obtain ⟨v_9, s_9, hc_9, hf⟩ := calv_inv hf
      refine cc_Vi (r_X12_freshX (D := D) (y := y) (o := o) (ad := ad) (av := av) hc_9 l) hx hb hml hta hown hK hN hV hA hC hRc hRs (by omega) (by omega) wq_1197 (q := 0) (ci := 12) rfl rfl wq_1198 wq_1199 wq_1012 wq_1189 hd_X12_freshX (As := [.int v_8]) (rest := [.int x3_1, .ref (o 34)]) rfl rfl hl.1 rfl dX12_settles_52 (fun H locs hC => ?_)
      obtain ⟨hi_10, hf⟩ := ix_inv hf
      obtain ⟨s_10, e_10, hf⟩ := lt_inv hf
      refine as_M_34 hx hb hK hC hi_10 e_10 dX12_settles_55 (fun H locs hC => ?_)
      exact hj_56 _ _ _ _ hf hC hl
    refine lv_if_ne (tgt := 40) hx hb dX12_settles_17 (by decide) (fun c_11 => ?_) (fun c_11 => ?_)
    · have hf := it_f c_11 hf
      exact hj_40 _ _ _ hf hC hl
    · have hf := it_t c_11 hf
      refine lv_iload_n hx hb dX12_settles_20 rfl (lv_at hl 2 rfl) ?_
      refine lv_iconst (v := (-1)) hx hb dX12_settles_21 (by decide) ?_
      refine lv_icmp_eq (tgt := 56) hx hb dX12_settles_22 (by decide) (fun c_12 => ?_) (fun c_12 => ?_)
      · have hf := it_t c_12 hf
        exact hj_56 _ _ _ _ hf hC hl
      · have hf := it_f c_12 hf
        refine lv_aload_n hx hb dX12_settles_25 rfl (lv_at hl 0 rfl) ?_
        refine lv_aload_n hx hb dX12_settles_26 rfl (lv_at hl 0 rfl) ?_
        refine gt_X12_112_m hx hb hta hown hK hC dX12_settles_27 ?_
        refine lv_iload_n hx hb dX12_settles_30 rfl (lv_at hl 3 rfl) ?_
        obtain ⟨hi_13, hf⟩ := ix_inv hf
        obtain ⟨v_13, e_13, hf⟩ := lt_inv hf
        refine al_M_34 hx hb hK hC hi_13 e_13 dX12_settles_31 ?_
        refine lv_iconst (v := 1) hx hb dX12_settles_32 (by decide) ?_
        refine lv_iload_n hx hb dX12_settles_33 rfl (lv_at hl 2 rfl) ?_
        obtain ⟨v_14, hc_14, hf⟩ := calp_inv hf
        refine cc_Vi (r_X12_hasName 250 (D := D) (y := y) (o := o) (ad := ad) (av := av) hc_14 l) hx hb hml hta hown hK hN hV hA hC hRc hRs (by omega) (by omega) wq_1184 (q := 0) (ci := 12) rfl rfl wq_1185 wq_1186 wq_1012 wq_1183 hd_X12_hasName (As := [.int v_13, .int 1, .int x2]) (rest := []) rfl rfl hl.1 rfl dX12_settles_34 (fun H locs hC => ?_)
        refine lv_if_eq (tgt := 56) hx hb dX12_settles_37 (by decide) (fun c_15 => ?_) (fun c_15 => ?_)
        · have hf := it_t c_15 hf
          exact hj_56 _ _ _ _ hf hC hl
        · have hf := it_f c_15 hf
          exact hj_40 _ _ _ hf hC hl

set_option maxHeartbeats 8000000 in
set_option maxRecDepth 100000 in
theorem r_X12_doubles {D : va_G} {y : Nat → ClassId} {o : Nat → Nat} {ad av : Nat → Nat} {σ : Sto} {σ2 : Sto} (hf : f_X12_doubles σ = some σ2) (l : Launch) (sz : Nat) : Met l yX12_doubles (Cond.code yX12_doubles cX12_doubles 2 none :: ALW) { frames := 253, cells := 0, slots := 0, locals := 5817 } (va_Pc [.ref (o 0)] (PZ D y ad av (WM y o σ) sz)) (QZv D (WM y o σ) (WM y o σ2) sz) 0 0 (va_A (WM y o σ) sz) := by
  refine met_v (by decide) (Nat.le_of_ble_eq_true rfl) ?_
  intro p e R s m args below meth c Q A ls hx hb hml hta hown hRc hRs hRf hRl hN hK hV hA hret hC hl
  have hl : lv_has ls 2 [(0, .ref (o 0))] := hl
  unfold f_X12_doubles at hf
  refine lv_aload_n hx hb dX12_doubles_0 rfl (lv_at hl 0 rfl) ?_
  obtain ⟨v_1, s_1, hc_1, hf⟩ := calv_inv hf
  refine cc_Vi (r_X12_pops_ (D := D) (y := y) (o := o) (ad := ad) (av := av) hc_1 l) hx hb hml hta hown hK hN hV hA hC hRc hRs (by omega) (by omega) wq_1201 (q := 0) (ci := 12) rfl rfl wq_1202 wq_1203 wq_1012 wq_1169 hd_X12_pops_ (As := []) (rest := []) rfl rfl hl.1 rfl dX12_doubles_1 (fun H locs hC => ?_)
  refine lv_istore_n (lv' := [(1, .int v_1), (0, .ref (o 0))]) hx hb dX12_doubles_4 rfl hl (by decide) rfl (fun ls hl => ?_)
  refine lv_aload_n hx hb dX12_doubles_5 rfl (lv_at hl 1 rfl) ?_
  refine gt_X12_88_m hx hb hta hown hK hC dX12_doubles_6 ?_
  refine lv_iload_n hx hb dX12_doubles_9 rfl (lv_at hl 0 rfl) ?_
  obtain ⟨hi_2, hf⟩ := ix_inv hf
  obtain ⟨v_2, e_2, hf⟩ := lt_inv hf
  refine al_M_26 hx hb hK hC hi_2 e_2 dX12_doubles_10 ?_
  obtain ⟨k_37, hk_37, hf⟩ := jn_inv2 hf
  have hj_37 : ∀ (x1_3 : Int32) (s_3 : Sto) (H : Heap) (locs : List Loc) (ls : Array Slot), k_37 x1_3 s_3 = some σ2 → CZ D A s H locs (WM y o s_3) → lv_has ls 2 [(0, .ref (o 0)), (1, .int x1_3)] → W p l e R s m args below meth c H locs 0 0 Q (F0 m 37 ls []) := by
    intro x1_3 s_3 H locs ls hf hC hl
    have hf := hk_37 _ _ hf
    refine lv_aload_n hx hb dX12_doubles_37 rfl (lv_at hl 0 rfl) ?_
    refine lv_iload_n hx hb dX12_doubles_38 rfl (lv_at hl 1 rfl) ?_
    obtain ⟨s_4, hc_4, hf⟩ := cals_inv hf
    refine cc_Vv (r_X12_lays (D := D) (y := y) (o := o) (ad := ad) (av := av) hc_4 l) hx hb hml hta hown hK hN hV hA hC hRc hRs (by omega) (by omega) wq_1210 (q := 0) (ci := 12) rfl rfl wq_1211 wq_1212 wq_1012 wq_1166 hd_X12_lays (As := [.int x1_3]) (rest := []) rfl rfl hl.1 rfl dX12_doubles_39 (fun H locs hC => ?_)
    refine lv_aload_n hx hb dX12_doubles_42 rfl (lv_at hl 0 rfl) ?_
    refine lv_iload_n hx hb dX12_doubles_43 rfl (lv_at hl 1 rfl) ?_
    obtain ⟨s_5, hc_5, hf⟩ := cals_inv hf
    refine cc_Vv (r_X12_lays (D := D) (y := y) (o := o) (ad := ad) (av := av) hc_5 l) hx hb hml hta hown hK hN hV hA hC hRc hRs (by omega) (by omega) wq_1210 (q := 0) (ci := 12) rfl rfl wq_1211 wq_1212 wq_1012 wq_1166 hd_X12_lays (As := [.int x1_3]) (rest := []) rfl rfl hl.1 rfl dX12_doubles_44 (fun H locs hC => ?_)
    exact hret _ _ _ _ _ (congrArg (WM y o) (Option.some.inj hf)) dX12_doubles_47 hC
  refine lv_if_eq (tgt := 37) hx hb dX12_doubles_11 (by decide) (fun c_6 => ?_) (fun c_6 => ?_)
  · have hf := it_t c_6 hf
    exact hj_37 _ _ _ _ _ hf hC (lv_sub hl [1, 0] rfl)
  · have hf := it_f c_6 hf
    refine lv_aload_n hx hb dX12_doubles_14 rfl (lv_at hl 1 rfl) ?_
    refine lv_iload_n hx hb dX12_doubles_15 rfl (lv_at hl 0 rfl) ?_
    obtain ⟨v_7, hc_7, hf⟩ := calp_inv hf
    refine cc_Vi (r_X12_isName (D := D) (y := y) (o := o) (ad := ad) (av := av) hc_7 l) hx hb hml hta hown hK hN hV hA hC hRc hRs (by omega) (by omega) wq_1204 (q := 0) (ci := 12) rfl rfl wq_1205 wq_1206 wq_1012 wq_1170 hd_X12_isName (As := [.int v_1]) (rest := []) rfl rfl hl.1 rfl dX12_doubles_16 (fun H locs hC => ?_)
    refine lv_if_ne (tgt := 37) hx hb dX12_doubles_19 (by decide) (fun c_8 => ?_) (fun c_8 => ?_)
    · have hf := it_f c_8 hf
      exact hj_37 _ _ _ _ _ hf hC (lv_sub hl [1, 0] rfl)
    · have hf := it_t c_8 hf
      refine lv_aload_n hx hb dX12_doubles_22 rfl (lv_at hl 1 rfl) ?_
      refine lv_aload_n hx hb dX12_doubles_23 rfl (lv_at hl 1 rfl) ?_
      refine gt_X12_419_m hx hb hta hown hK hC dX12_doubles_24 ?_
      refine lv_iconst (v := (-1)) hx hb dX12_doubles_27 (by decide) ?_
      obtain ⟨s_9, hc_9, hf⟩ := cals_inv hf
      refine cc_Vv (r_X12_settles (D := D) (y := y) (o := o) (ad := ad) (av := av) hc_9 l) hx hb hml hta hown hK hN hV hA hC hRc hRs (by omega) (by omega) wq_1207 (q := 0) (ci := 12) rfl rfl wq_1208 wq_1209 wq_1012 wq_1200 hd_X12_settles (As := [.int (s_1.1 50 0), .int (-1)]) (rest := []) rfl rfl hl.1 rfl dX12_doubles_28 (fun H locs hC => ?_)
      refine lv_aload_n hx hb dX12_doubles_31 rfl (lv_at hl 1 rfl) ?_
      refine lv_iload_n hx hb dX12_doubles_32 rfl (lv_at hl 0 rfl) ?_
      obtain ⟨v_10, s_10, hc_10, hf⟩ := calv_inv hf
      refine cc_Vi (r_X12_freshX (D := D) (y := y) (o := o) (ad := ad) (av := av) hc_10 l) hx hb hml hta hown hK hN hV hA hC hRc hRs (by omega) (by omega) wq_1197 (q := 0) (ci := 12) rfl rfl wq_1198 wq_1199 wq_1012 wq_1189 hd_X12_freshX (As := [.int v_1]) (rest := []) rfl rfl hl.1 rfl dX12_doubles_33 (fun H locs hC => ?_)
      refine lv_istore_n (lv' := [(1, .int v_10), (0, .ref (o 0))]) hx hb dX12_doubles_36 rfl hl (by decide) rfl (fun ls hl => ?_)
      exact hj_37 _ _ _ _ _ hf hC (lv_sub hl [1, 0] rfl)

set_option maxHeartbeats 8000000 in
set_option maxRecDepth 100000 in
theorem r_X12_alone {D : va_G} {y : Nat → ClassId} {o : Nat → Nat} {ad av : Nat → Nat} {x1 : Int32} {σ : Sto} {σ2 : Sto} (hf : f_X12_alone x1 σ = some σ2) (l : Launch) (sz : Nat) : Met l yX12_alone (Cond.code yX12_alone cX12_alone 2 none :: ALW) { frames := 253, cells := 0, slots := 0, locals := 5817 } (va_Pc [.ref (o 0), .int x1] (PZ D y ad av (WM y o σ) sz)) (QZv D (WM y o σ) (WM y o σ2) sz) 0 0 (va_A (WM y o σ) sz) := by
  refine met_v (by decide) (Nat.le_of_ble_eq_true rfl) ?_
  intro p e R s m args below meth c Q A ls hx hb hml hta hown hRc hRs hRf hRl hN hK hV hA hret hC hl
  have hl : lv_has ls 2 [(0, .ref (o 0)), (1, .int x1)] := hl
  unfold f_X12_alone at hf
  refine lv_aload_n hx hb dX12_alone_0 rfl (lv_at hl 0 rfl) ?_
  refine lv_iload_n hx hb dX12_alone_1 rfl (lv_at hl 1 rfl) ?_
  obtain ⟨v_1, hc_1, hf⟩ := calp_inv hf
  refine cc_Vi (r_X12_hasEffects 250 (D := D) (y := y) (o := o) (ad := ad) (av := av) hc_1 l) hx hb hml hta hown hK hN hV hA hC hRc hRs (by omega) (by omega) wq_1177 (q := 0) (ci := 12) rfl rfl wq_1178 wq_1179 wq_1012 wq_1173 hd_X12_hasEffects (As := [.int x1]) (rest := []) rfl rfl hl.1 rfl dX12_alone_2 (fun H locs hC => ?_)
  refine lv_if_ne (tgt := 9) hx hb dX12_alone_5 (by decide) (fun c_2 => ?_) (fun c_2 => ?_)
  · have hf := it_f c_2 hf
    refine lv_aload_n hx hb dX12_alone_9 rfl (lv_at hl 0 rfl) ?_
    refine lv_aload_n hx hb dX12_alone_10 rfl (lv_at hl 0 rfl) ?_
    refine gt_X12_419_m hx hb hta hown hK hC dX12_alone_11 ?_
    refine lv_iconst (v := (-1)) hx hb dX12_alone_14 (by decide) ?_
    obtain ⟨s_3, hc_3, hf⟩ := cals_inv hf
    refine cc_Vv (r_X12_settles (D := D) (y := y) (o := o) (ad := ad) (av := av) hc_3 l) hx hb hml hta hown hK hN hV hA hC hRc hRs (by omega) (by omega) wq_1207 (q := 0) (ci := 12) rfl rfl wq_1208 wq_1209 wq_1012 wq_1200 hd_X12_settles (As := [.int (σ.1 50 0), .int (-1)]) (rest := []) rfl rfl hl.1 rfl dX12_alone_15 (fun H locs hC => ?_)
    refine lv_aload_n hx hb dX12_alone_18 rfl (lv_at hl 0 rfl) ?_
    refine lv_iconst (v := 4) hx hb dX12_alone_19 (by decide) ?_
    refine lv_iconst (v := (-1)) hx hb dX12_alone_20 (by decide) ?_
    refine lv_iload_n hx hb dX12_alone_21 rfl (lv_at hl 1 rfl) ?_
    obtain ⟨s_4, hc_4, hf⟩ := cals_inv hf
    refine cc_Vv (r_X12_states (D := D) (y := y) (o := o) (ad := ad) (av := av) hc_4 l) hx hb hml hta hown hK hN hV hA hC hRc hRs (by omega) (by omega) wq_1191 (q := 0) (ci := 12) rfl rfl wq_1192 wq_1193 wq_1012 wq_1187 hd_X12_states (As := [.int 4, .int (-1), .int x1]) (rest := []) rfl rfl hl.1 rfl dX12_alone_22 (fun H locs hC => ?_)
    exact hret _ _ _ _ _ (congrArg (WM y o) (Option.some.inj hf)) dX12_alone_25 hC
  · have hf := it_t c_2 hf
    exact hret _ _ _ _ _ (congrArg (WM y o) (Option.some.inj hf)) dX12_alone_8 hC

set_option maxHeartbeats 8000000 in
set_option maxRecDepth 100000 in
theorem r_X12_changes {D : va_G} {y : Nat → ClassId} {o : Nat → Nat} {ad av : Nat → Nat} {σ : Sto} {σ2 : Sto} (hf : f_X12_changes σ = some σ2) (l : Launch) (sz : Nat) : Met l yX12_changes (Cond.code yX12_changes cX12_changes 3 none :: ALW) { frames := 253, cells := 0, slots := 0, locals := 5817 } (va_Pc [.ref (o 0)] (PZ D y ad av (WM y o σ) sz)) (QZv D (WM y o σ) (WM y o σ2) sz) 0 0 (va_A (WM y o σ) sz) := by
  refine met_v (by decide) (Nat.le_of_ble_eq_true rfl) ?_
  intro p e R s m args below meth c Q A ls hx hb hml hta hown hRc hRs hRf hRl hN hK hV hA hret hC hl
  have hl : lv_has ls 3 [(0, .ref (o 0))] := hl
  unfold f_X12_changes at hf
  refine lv_aload_n hx hb dX12_changes_0 rfl (lv_at hl 0 rfl) ?_
  refine lv_aload_n hx hb dX12_changes_1 rfl (lv_at hl 0 rfl) ?_
  refine gt_X12_112_m hx hb hta hown hK hC dX12_changes_2 ?_
  refine lv_aload_n hx hb dX12_changes_5 rfl (lv_at hl 0 rfl) ?_
  refine gt_X12_419_m hx hb hta hown hK hC dX12_changes_6 ?_
  refine lv_iconst (v := 1) hx hb dX12_changes_9 (by decide) ?_
  refine lv_isub hx hb dX12_changes_10 ?_
  obtain ⟨hi_1, hf⟩ := ix_inv hf
  obtain ⟨v_1, e_1, hf⟩ := lt_inv hf
  refine al_M_34 hx hb hK hC hi_1 e_1 dX12_changes_11 ?_
  obtain ⟨v_2, hc_2, hf⟩ := calp_inv hf
  refine cc_Vi (r_X12_hasEffects 250 (D := D) (y := y) (o := o) (ad := ad) (av := av) hc_2 l) hx hb hml hta hown hK hN hV hA hC hRc hRs (by omega) (by omega) wq_1177 (q := 0) (ci := 12) rfl rfl wq_1178 wq_1179 wq_1012 wq_1173 hd_X12_hasEffects (As := [.int v_1]) (rest := []) rfl rfl hl.1 rfl dX12_changes_12 (fun H locs hC => ?_)
  obtain ⟨k_47, hk_47, hf⟩ := jn_inv1 hf
  have hj_47 : ∀ (s_3 : Sto) (H : Heap) (locs : List Loc) (ls : Array Slot), k_47 s_3 = some σ2 → CZ D A s H locs (WM y o s_3) → lv_has ls 3 [(0, .ref (o 0))] → W p l e R s m args below meth c H locs 0 0 Q (F0 m 47 ls []) := by
    intro s_3 H locs ls hf hC hl
    have hf := hk_47 _ hf
    refine lv_aload_n hx hb dX12_changes_47 rfl (lv_at hl 0 rfl) ?_
    obtain ⟨v_4, s_4, hc_4, hf⟩ := calv_inv hf
    refine cc_Vi (r_X12_pops_ (D := D) (y := y) (o := o) (ad := ad) (av := av) hc_4 l) hx hb hml hta hown hK hN hV hA hC hRc hRs (by omega) (by omega) wq_1201 (q := 0) (ci := 12) rfl rfl wq_1202 wq_1203 wq_1012 wq_1169 hd_X12_pops_ (As := []) (rest := []) rfl rfl hl.1 rfl dX12_changes_48 (fun H locs hC => ?_)
    refine lv_istore_n (lv' := [(1, .int v_4), (0, .ref (o 0))]) hx hb dX12_changes_51 rfl hl (by decide) rfl (fun ls hl => ?_)
    refine lv_aload_n hx hb dX12_changes_52 rfl (lv_at hl 1 rfl) ?_
    obtain ⟨v_5, s_5, hc_5, hf⟩ := calv_inv hf
    refine cc_Vi (r_X12_pops_ (D := D) (y := y) (o := o) (ad := ad) (av := av) hc_5 l) hx hb hml hta hown hK hN hV hA hC hRc hRs (by omega) (by omega) wq_1201 (q := 0) (ci := 12) rfl rfl wq_1202 wq_1203 wq_1012 wq_1169 hd_X12_pops_ (As := []) (rest := []) rfl rfl hl.1 rfl dX12_changes_53 (fun H locs hC => ?_)
    refine lv_istore_n (lv' := [(2, .int v_5), (1, .int v_4), (0, .ref (o 0))]) hx hb dX12_changes_56 rfl hl (by decide) rfl (fun ls hl => ?_)
    refine lv_aload_n hx hb dX12_changes_57 rfl (lv_at hl 2 rfl) ?_
    refine lv_iload_n hx hb dX12_changes_58 rfl (lv_at hl 1 rfl) ?_
    obtain ⟨s_6, hc_6, hf⟩ := cals_inv hf
    refine cc_Vv (r_X12_lays (D := D) (y := y) (o := o) (ad := ad) (av := av) hc_6 l) hx hb hml hta hown hK hN hV hA hC hRc hRs (by omega) (by omega) wq_1210 (q := 0) (ci := 12) rfl rfl wq_1211 wq_1212 wq_1012 wq_1166 hd_X12_lays (As := [.int v_4]) (rest := []) rfl rfl hl.1 rfl dX12_changes_59 (fun H locs hC => ?_)
    refine lv_aload_n hx hb dX12_changes_62 rfl (lv_at hl 2 rfl) ?_
    refine lv_iload_n hx hb dX12_changes_63 rfl (lv_at hl 0 rfl) ?_
    obtain ⟨s_7, hc_7, hf⟩ := cals_inv hf
    refine cc_Vv (r_X12_lays (D := D) (y := y) (o := o) (ad := ad) (av := av) hc_7 l) hx hb hml hta hown hK hN hV hA hC hRc hRs (by omega) (by omega) wq_1210 (q := 0) (ci := 12) rfl rfl wq_1211 wq_1212 wq_1012 wq_1166 hd_X12_lays (As := [.int v_5]) (rest := []) rfl rfl hl.1 rfl dX12_changes_64 (fun H locs hC => ?_)
    exact hret _ _ _ _ _ (congrArg (WM y o) (Option.some.inj hf)) dX12_changes_67 hC
  refine lv_if_eq (tgt := 47) hx hb dX12_changes_15 (by decide) (fun c_8 => ?_) (fun c_8 => ?_)
  · have hf := it_t c_8 hf
    exact hj_47 _ _ _ _ hf hC hl
  · have hf := it_f c_8 hf
    refine lv_aload_n hx hb dX12_changes_18 rfl (lv_at hl 0 rfl) ?_
    refine lv_aload_n hx hb dX12_changes_19 rfl (lv_at hl 0 rfl) ?_
    refine gt_X12_112_m hx hb hta hown hK hC dX12_changes_20 ?_
    refine lv_aload_n hx hb dX12_changes_23 rfl (lv_at hl 0 rfl) ?_
    refine gt_X12_419_m hx hb hta hown hK hC dX12_changes_24 ?_
    refine lv_iconst (v := 2) hx hb dX12_changes_27 (by decide) ?_
    refine lv_isub hx hb dX12_changes_28 ?_
    obtain ⟨hi_9, hf⟩ := ix_inv hf
    obtain ⟨v_9, e_9, hf⟩ := lt_inv hf
    refine al_M_34 hx hb hK hC hi_9 e_9 dX12_changes_29 ?_
    obtain ⟨v_10, hc_10, hf⟩ := calp_inv hf
    refine cc_Vi (r_X12_hasEffects 250 (D := D) (y := y) (o := o) (ad := ad) (av := av) hc_10 l) hx hb hml hta hown hK hN hV hA hC hRc hRs (by omega) (by omega) wq_1177 (q := 0) (ci := 12) rfl rfl wq_1178 wq_1179 wq_1012 wq_1173 hd_X12_hasEffects (As := [.int v_9]) (rest := []) rfl rfl hl.1 rfl dX12_changes_30 (fun H locs hC => ?_)
    refine lv_if_eq (tgt := 47) hx hb dX12_changes_33 (by decide) (fun c_11 => ?_) (fun c_11 => ?_)
    · have hf := it_t c_11 hf
      exact hj_47 _ _ _ _ hf hC hl
    · have hf := it_f c_11 hf
      refine lv_aload_n hx hb dX12_changes_36 rfl (lv_at hl 0 rfl) ?_
      refine lv_aload_n hx hb dX12_changes_37 rfl (lv_at hl 0 rfl) ?_
      refine gt_X12_419_m hx hb hta hown hK hC dX12_changes_38 ?_
      refine lv_iconst (v := 1) hx hb dX12_changes_41 (by decide) ?_
      refine lv_isub hx hb dX12_changes_42 ?_
      refine lv_iconst (v := (-1)) hx hb dX12_changes_43 (by decide) ?_
      obtain ⟨s_12, hc_12, hf⟩ := cals_inv hf
      refine cc_Vv (r_X12_settles (D := D) (y := y) (o := o) (ad := ad) (av := av) hc_12 l) hx hb hml hta hown hK hN hV hA hC hRc hRs (by omega) (by omega) wq_1207 (q := 0) (ci := 12) rfl rfl wq_1208 wq_1209 wq_1012 wq_1200 hd_X12_settles (As := [.int ((σ.1 50 0) - 1), .int (-1)]) (rest := []) rfl rfl hl.1 rfl dX12_changes_44 (fun H locs hC => ?_)
      exact hj_47 _ _ _ _ hf hC hl

set_option maxHeartbeats 8000000 in
set_option maxRecDepth 100000 in
theorem r_X12_isOneOf_s108 {D : va_G} {y : Nat → ClassId} {ad av : Nat → Nat} {w : va_W} {x1 : Int32} {v : Int32} (hf : f_X12_isOneOf_s108 x1 = some v) (l : Launch) (sz : Nat) : Met l yX12_isOneOf (Cond.code yX12_isOneOf cX12_isOneOf 3 (some .boolean) :: ALW) { frames := 8, cells := 0, slots := 0, locals := 200 } (va_Pc [.int x1, .ref (ad 108)] (PZ D y ad av (w) sz)) (QZi D (w) v (w) sz) 0 0 (va_A (w) sz) := by
  refine met_i (by decide) (Nat.le_of_ble_eq_true rfl) ?_
  intro p e R s m args below meth c Q A ls hx hb hml hta hown hRc hRs hRf hRl hN hK hV hA hret hC hl
  have hl : lv_has ls 3 [(0, .int x1), (1, .ref (ad 108))] := hl
  unfold f_X12_isOneOf_s108 at hf
  refine lv_iconst (v := 0) hx hb dX12_isOneOf_0 (by decide) ?_
  refine lv_istore_n (lv' := [(2, .int 0), (0, .int x1), (1, .ref (ad 108))]) hx hb dX12_isOneOf_1 rfl hl (by decide) rfl (fun ls hl => ?_)
  refine itr_inv1 (P := fun (x2_1 : Int32) => ∀ (H : Heap) (locs : List Loc) (ls : Array Slot), CZ D A s H locs w → lv_has ls 3 [(0, .int x1), (1, .ref (ad 108)), (2, .int x2_1)] → W p l e R s m args below meth c H locs 0 0 Q (F0 m 2 ls [])) hf ?_ _ _ _ hC (lv_sub hl [1, 2, 0] rfl)
  intro a_2 x2_1 ha_2 hf H locs ls hC hl
  refine lv_iload_n hx hb dX12_isOneOf_2 rfl (lv_at hl 2 rfl) ?_
  refine lv_aload_n hx hb dX12_isOneOf_3 rfl (lv_at hl 1 rfl) ?_
  refine cc_length hx hb hml hta hown hK hN hV hA hC hRc hRs (by omega) (by omega) wq_1039 (i := 108) (n := 7) (by decide) (by decide) (by decide) hl.1 rfl dX12_isOneOf_4 (fun H locs hC => ?_)
  refine lv_icmp_ge (tgt := 27) hx hb dX12_isOneOf_7 (by decide) (fun c_2 => ?_) (fun c_2 => ?_)
  · have hf := it_t c_2 hf
    refine lv_iconst (v := 0) hx hb dX12_isOneOf_27 (by decide) ?_
    exact hret _ _ _ _ _ _ (Option.some.inj hf) rfl rfl dX12_isOneOf_28 hC
  · have hf := it_f c_2 hf
    refine lv_aload_n hx hb dX12_isOneOf_10 rfl (lv_at hl 1 rfl) ?_
    refine lv_iload_n hx hb dX12_isOneOf_11 rfl (lv_at hl 2 rfl) ?_
    obtain ⟨hi_3, hf⟩ := ix_inv hf
    obtain ⟨v_3, e_3, hf⟩ := lt_inv hf
    refine cc_charAt hx hb hml hta hown hK hN hV hA hC hRc hRs (by omega) (by omega) wq_1040 (i := 108) (n := 7) (by decide) (by decide) (by decide) hi_3 e_3 hl.1 rfl dX12_isOneOf_12 (fun H locs hC => ?_)
    refine lv_iload_n hx hb dX12_isOneOf_15 rfl (lv_at hl 0 rfl) ?_
    refine lv_icmp_ne (tgt := 21) hx hb dX12_isOneOf_16 (by decide) (fun c_4 => ?_) (fun c_4 => ?_)
    · have hf := it_f c_4 hf
      obtain ⟨x2_5, e_5, hf⟩ := lt_inv hf
      refine lv_iinc (v := x2_5) (lv' := [(2, .int x2_5), (0, .int x1), (1, .ref (ad 108))]) hx hb dX12_isOneOf_21 hl (k := 2) rfl e_5.symm (by decide) rfl (fun ls hl => ?_)
      refine lv_goto (tgt := 2) hx hb dX12_isOneOf_24 (by decide) ?_
      exact ha_2 _ hf _ _ _ hC (lv_sub hl [1, 2, 0] rfl)
    · have hf := it_t c_4 hf
      refine lv_iconst (v := 1) hx hb dX12_isOneOf_19 (by decide) ?_
      exact hret _ _ _ _ _ _ (Option.some.inj hf) rfl rfl dX12_isOneOf_20 hC

set_option maxHeartbeats 8000000 in
set_option maxRecDepth 100000 in
theorem r_X12_tells {D : va_G} {y : Nat → ClassId} {o : Nat → Nat} {ad av : Nat → Nat} {x1 : Int32} {x2 : Int32} {σ : Sto} {σ2 : Sto} (hf : f_X12_tells x1 x2 σ = some σ2) (l : Launch) (sz : Nat) : Met l yX12_tells (Cond.code yX12_tells cX12_tells 4 none :: ALW) { frames := 253, cells := 0, slots := 0, locals := 5817 } (va_Pc [.ref (o 0), .int x1, .int x2] (PZ D y ad av (WM y o σ) sz)) (QZv D (WM y o σ) (WM y o σ2) sz) 0 0 (va_A (WM y o σ) sz) := by
  refine met_v (by decide) (Nat.le_of_ble_eq_true rfl) ?_
  intro p e R s m args below meth c Q A ls hx hb hml hta hown hRc hRs hRf hRl hN hK hV hA hret hC hl
  have hl : lv_has ls 4 [(0, .ref (o 0)), (1, .int x1), (2, .int x2)] := hl
  unfold f_X12_tells at hf
  refine lv_iload_n hx hb dX12_tells_0 rfl (lv_at hl 1 rfl) ?_
  refine lv_bipush (v := 115) hx hb dX12_tells_1 (by decide) ?_
  obtain ⟨k_26, hk_26, hf⟩ := jn_inv2 hf
  have hj_26 : ∀ (t0_1 : Int32) (s_1 : Sto) (H : Heap) (locs : List Loc) (ls : Array Slot), k_26 t0_1 s_1 = some σ2 → CZ D A s H locs (WM y o s_1) → lv_has ls 4 [(0, .ref (o 0)), (1, .int x1), (2, .int x2)] → W p l e R s m args below meth c H locs 0 0 Q (F0 m 26 ls [.int t0_1]) := by
    intro t0_1 s_1 H locs ls hf hC hl
    have hf := hk_26 _ _ hf
    refine lv_istore_n (lv' := [(3, .int t0_1), (0, .ref (o 0)), (1, .int x1), (2, .int x2)]) hx hb dX12_tells_26 rfl hl (by decide) rfl (fun ls hl => ?_)
    refine lv_iload_n hx hb dX12_tells_27 rfl (lv_at hl 0 rfl) ?_
    refine lv_iconst (v := (-1)) hx hb dX12_tells_28 (by decide) ?_
    obtain ⟨k_39, hk_39, hf⟩ := jn_inv0 hf
    have hj_39 : ∀  (H : Heap) (locs : List Loc) (ls : Array Slot), k_39 = some σ2 → CZ D A s H locs (WM y o s_1) → lv_has ls 4 [(0, .ref (o 0)), (1, .int x1), (2, .int x2), (3, .int t0_1)] → W p l e R s m args below meth c H locs 0 0 Q (F0 m 39 ls []) := by
      intro H locs ls hf hC hl
      have hf := hk_39 hf
      refine lv_aload_n hx hb dX12_tells_39 rfl (lv_at hl 0 rfl) ?_
      refine lv_aload_n hx hb dX12_tells_40 rfl (lv_at hl 0 rfl) ?_
      refine gt_X12_419_m hx hb hta hown hK hC dX12_tells_41 ?_
      refine lv_iload_n hx hb dX12_tells_44 rfl (lv_at hl 1 rfl) ?_
      refine lv_bipush (v := 115) hx hb dX12_tells_45 (by decide) ?_
      obtain ⟨k_55, hk_55, hf⟩ := jn_inv1 hf
      have hj_55 : ∀ (t0_3 : Int32) (H : Heap) (locs : List Loc) (ls : Array Slot), k_55 t0_3 = some σ2 → CZ D A s H locs (WM y o s_1) → lv_has ls 4 [(0, .ref (o 0)), (1, .int x1), (2, .int x2), (3, .int t0_1)] → W p l e R s m args below meth c H locs 0 0 Q (F0 m 55 ls [.int t0_3, .int (s_1.1 50 0), .ref (o 0)]) := by
        intro t0_3 H locs ls hf hC hl
        have hf := hk_55 _ hf
        obtain ⟨s_4, hc_4, hf⟩ := cals_inv hf
        refine cc_Vv (r_X12_settles (D := D) (y := y) (o := o) (ad := ad) (av := av) hc_4 l) hx hb hml hta hown hK hN hV hA hC hRc hRs (by omega) (by omega) wq_1207 (q := 0) (ci := 12) rfl rfl wq_1208 wq_1209 wq_1012 wq_1200 hd_X12_settles (As := [.int (s_1.1 50 0), .int t0_3]) (rest := []) rfl rfl hl.1 rfl dX12_tells_55 (fun H locs hC => ?_)
        refine lv_aload_n hx hb dX12_tells_58 rfl (lv_at hl 0 rfl) ?_
        refine lv_iload_n hx hb dX12_tells_59 rfl (lv_at hl 1 rfl) ?_
        refine lv_bipush (v := 115) hx hb dX12_tells_60 (by decide) ?_
        obtain ⟨k_91, hk_91, hf⟩ := jn_inv1 hf
        have hj_91 : ∀ (t0_5 : Int32) (H : Heap) (locs : List Loc) (ls : Array Slot), k_91 t0_5 = some σ2 → CZ D A s H locs (WM y o s_4) → lv_has ls 4 [(1, .int x1), (2, .int x2), (3, .int t0_1)] → W p l e R s m args below meth c H locs 0 0 Q (F0 m 91 ls [.int t0_5, .ref (o 0)]) := by
          intro t0_5 H locs ls hf hC hl
          have hf := hk_91 _ hf
          refine lv_iload_n hx hb dX12_tells_91 rfl (lv_at hl 0 rfl) ?_
          refine lv_bipush (v := 115) hx hb dX12_tells_92 (by decide) ?_
          obtain ⟨k_102, hk_102, hf⟩ := jn_inv1 hf
          have hj_102 : ∀ (t0_6 : Int32) (H : Heap) (locs : List Loc) (ls : Array Slot), k_102 t0_6 = some σ2 → CZ D A s H locs (WM y o s_4) → lv_has ls 4 [(3, .int t0_1)] → W p l e R s m args below meth c H locs 0 0 Q (F0 m 102 ls [.int t0_6, .int t0_5, .ref (o 0)]) := by
            intro t0_6 H locs ls hf hC hl
            have hf := hk_102 _ hf
            refine lv_iload_n hx hb dX12_tells_102 rfl (lv_at hl 0 rfl) ?_
            obtain ⟨s_7, hc_7, hf⟩ := cals_inv hf
            refine cc_Vv (r_X12_states (D := D) (y := y) (o := o) (ad := ad) (av := av) hc_7 l) hx hb hml hta hown hK hN hV hA hC hRc hRs (by omega) (by omega) wq_1191 (q := 0) (ci := 12) rfl rfl wq_1192 wq_1193 wq_1012 wq_1187 hd_X12_states (As := [.int t0_5, .int t0_6, .int t0_1]) (rest := []) rfl rfl hl.1 rfl dX12_tells_103 (fun H locs hC => ?_)
            exact hret _ _ _ _ _ (congrArg (WM y o) (Option.some.inj hf)) dX12_tells_106 hC
          refine lv_icmp_ne (tgt := 101) hx hb dX12_tells_94 (by decide) (fun c_8 => ?_) (fun c_8 => ?_)
          · have hf := it_f c_8 hf
            refine lv_iconst (v := (-1)) hx hb dX12_tells_101 (by decide) ?_
            exact hj_102 _ _ _ _ hf hC (lv_sub hl [2] rfl)
          · have hf := it_t c_8 hf
            refine lv_iload_n hx hb dX12_tells_97 rfl (lv_at hl 1 rfl) ?_
            refine lv_goto (tgt := 102) hx hb dX12_tells_98 (by decide) ?_
            exact hj_102 _ _ _ _ hf hC (lv_sub hl [2] rfl)
        refine lv_icmp_ne (tgt := 69) hx hb dX12_tells_62 (by decide) (fun c_9 => ?_) (fun c_9 => ?_)
        · have hf := it_f c_9 hf
          refine lv_iload_n hx hb dX12_tells_69 rfl (lv_at hl 1 rfl) ?_
          refine lv_bipush (v := 111) hx hb dX12_tells_70 (by decide) ?_
          refine lv_icmp_ne (tgt := 79) hx hb dX12_tells_72 (by decide) (fun c_10 => ?_) (fun c_10 => ?_)
          · have hf := it_f c_10 hf
            refine lv_iload_n hx hb dX12_tells_79 rfl (lv_at hl 1 rfl) ?_
            refine lv_bipush (v := 116) hx hb dX12_tells_80 (by decide) ?_
            refine lv_icmp_ne (tgt := 89) hx hb dX12_tells_82 (by decide) (fun c_11 => ?_) (fun c_11 => ?_)
            · have hf := it_f c_11 hf
              refine lv_bipush (v := 6) hx hb dX12_tells_89 (by decide) ?_
              exact hj_91 _ _ _ _ hf hC (lv_sub hl [1, 2, 3] rfl)
            · have hf := it_t c_11 hf
              refine lv_iconst (v := 5) hx hb dX12_tells_85 (by decide) ?_
              refine lv_goto (tgt := 91) hx hb dX12_tells_86 (by decide) ?_
              exact hj_91 _ _ _ _ hf hC (lv_sub hl [1, 2, 3] rfl)
          · have hf := it_t c_10 hf
            refine lv_iconst (v := 3) hx hb dX12_tells_75 (by decide) ?_
            refine lv_goto (tgt := 91) hx hb dX12_tells_76 (by decide) ?_
            exact hj_91 _ _ _ _ hf hC (lv_sub hl [1, 2, 3] rfl)
        · have hf := it_t c_9 hf
          refine lv_iconst (v := 0) hx hb dX12_tells_65 (by decide) ?_
          refine lv_goto (tgt := 91) hx hb dX12_tells_66 (by decide) ?_
          exact hj_91 _ _ _ _ hf hC (lv_sub hl [1, 2, 3] rfl)
      refine lv_icmp_ne (tgt := 54) hx hb dX12_tells_47 (by decide) (fun c_12 => ?_) (fun c_12 => ?_)
      · have hf := it_f c_12 hf
        refine lv_iconst (v := (-1)) hx hb dX12_tells_54 (by decide) ?_
        exact hj_55 _ _ _ _ hf hC hl
      · have hf := it_t c_12 hf
        refine lv_iload_n hx hb dX12_tells_50 rfl (lv_at hl 2 rfl) ?_
        refine lv_goto (tgt := 55) hx hb dX12_tells_51 (by decide) ?_
        exact hj_55 _ _ _ _ hf hC hl
    refine lv_icmp_ne (tgt := 39) hx hb dX12_tells_29 (by decide) (fun c_13 => ?_) (fun c_13 => ?_)
    · have hf := it_f c_13 hf
      exact hj_39 _ _ _ hf hC (lv_sub hl [1, 2, 3, 0] rfl)
    · have hf := it_t c_13 hf
      refine lv_iload_n hx hb dX12_tells_32 rfl (lv_at hl 2 rfl) ?_
      refine lv_bipush (v := 114) hx hb dX12_tells_33 (by decide) ?_
      refine lv_icmp_eq (tgt := 39) hx hb dX12_tells_35 (by decide) (fun c_14 => ?_) (fun c_14 => ?_)
      · have hf := it_t c_14 hf
        exact hj_39 _ _ _ hf hC (lv_sub hl [1, 2, 3, 0] rfl)
      · have hf := it_f c_14 hf
        exact hret _ _ _ _ _ (congrArg (WM y o) (Option.some.inj hf)) dX12_tells_38 hC
  obtain ⟨k_18, hk_18, hf⟩ := jn_inv0 hf
  have hj_18 : ∀  (H : Heap) (locs : List Loc) (ls : Array Slot), k_18 = some σ2 → CZ D A s H locs (WM y o σ) → lv_has ls 4 [(0, .ref (o 0)), (1, .int x1), (2, .int x2)] → W p l e R s m args below meth c H locs 0 0 Q (F0 m 18 ls []) := by
    intro H locs ls hf hC hl
    have hf := hk_18 hf
    refine lv_aload_n hx hb dX12_tells_18 rfl (lv_at hl 0 rfl) ?_
    obtain ⟨v_16, s_16, hc_16, hf⟩ := calv_inv hf
    refine cc_Vi (r_X12_pops_ (D := D) (y := y) (o := o) (ad := ad) (av := av) hc_16 l) hx hb hml hta hown hK hN hV hA hC hRc hRs (by omega) (by omega) wq_1201 (q := 0) (ci := 12) rfl rfl wq_1202 wq_1203 wq_1012 wq_1169 hd_X12_pops_ (As := []) (rest := []) rfl rfl hl.1 rfl dX12_tells_19 (fun H locs hC => ?_)
    refine lv_goto (tgt := 26) hx hb dX12_tells_22 (by decide) ?_
    exact hj_26 _ _ _ _ _ hf hC hl
  refine lv_icmp_eq (tgt := 18) hx hb dX12_tells_3 (by decide) (fun c_17 => ?_) (fun c_17 => ?_)
  · have hf := it_t c_17 hf
    exact hj_18 _ _ _ hf hC hl
  · have hf := it_f c_17 hf
    refine lv_iload_n hx hb dX12_tells_6 rfl (lv_at hl 1 rfl) ?_
    refine lv_bipush (v := 111) hx hb dX12_tells_7 (by decide) ?_
    refine lv_icmp_eq (tgt := 18) hx hb dX12_tells_9 (by decide) (fun c_18 => ?_) (fun c_18 => ?_)
    · have hf := it_t c_18 hf
      exact hj_18 _ _ _ hf hC hl
    · have hf := it_f c_18 hf
      refine lv_iload_n hx hb dX12_tells_12 rfl (lv_at hl 1 rfl) ?_
      refine lv_bipush (v := 116) hx hb dX12_tells_13 (by decide) ?_
      refine lv_icmp_ne (tgt := 25) hx hb dX12_tells_15 (by decide) (fun c_19 => ?_) (fun c_19 => ?_)
      · have hf := it_f c_19 hf
        refine lv_iconst (v := (-1)) hx hb dX12_tells_25 (by decide) ?_
        exact hj_26 _ _ _ _ _ hf hC hl
      · have hf := it_t c_19 hf
        exact hj_18 _ _ _ hf hC hl

set_option maxHeartbeats 8000000 in
set_option maxRecDepth 100000 in
theorem r_X12_lifts {D : va_G} {y : Nat → ClassId} {o : Nat → Nat} {ad av : Nat → Nat} {x1 : Int32} {x2 : Int32} {σ : Sto} {σ2 : Sto} (hf : f_X12_lifts x1 x2 σ = some σ2) (l : Launch) (sz : Nat) : Met l yX12_lifts (Cond.code yX12_lifts cX12_lifts 4 none :: ALW) { frames := 254, cells := 0, slots := 0, locals := 5840 } (va_Pc [.ref (o 0), .int x1, .int x2] (PZ D y ad av (WM y o σ) sz)) (QZv D (WM y o σ) (WM y o σ2) sz) 0 0 (va_A (WM y o σ) sz) := by
  refine met_v (by decide) (Nat.le_of_ble_eq_true rfl) ?_
  intro p e R s m args below meth c Q A ls hx hb hml hta hown hRc hRs hRf hRl hN hK hV hA hret hC hl
  have hl : lv_has ls 4 [(0, .ref (o 0)), (1, .int x1), (2, .int x2)] := hl
  unfold f_X12_lifts at hf
  refine lv_iload_n hx hb dX12_lifts_0 rfl (lv_at hl 1 rfl) ?_
  by_cases h_1_0 : x1.toInt = 33
  · have hf := it_t h_1_0 hf
    refine lv_lookup (off := 111) (tgt := 112) hx hb dX12_lifts_1 (by decide) (by (rw [h_1_0]; decide)) (by decide) ?_
    refine lv_aload_n hx hb dX12_lifts_112 rfl (lv_at hl 0 rfl) ?_
    refine lv_aload_n hx hb dX12_lifts_113 rfl (lv_at hl 0 rfl) ?_
    refine lv_iconst (v := 5) hx hb dX12_lifts_114 (by decide) ?_
    refine lv_aload_n hx hb dX12_lifts_115 rfl (lv_at hl 0 rfl) ?_
    obtain ⟨v_2, s_2, hc_2, hf⟩ := calv_inv hf
    refine cc_Vi (r_X12_pops_ (D := D) (y := y) (o := o) (ad := ad) (av := av) hc_2 l) hx hb hml hta hown hK hN hV hA hC hRc hRs (by omega) (by omega) wq_1201 (q := 0) (ci := 12) rfl rfl wq_1202 wq_1203 wq_1012 wq_1169 hd_X12_pops_ (As := []) (rest := [.int 5, .ref (o 0), .ref (o 0)]) rfl rfl hl.1 rfl dX12_lifts_116 (fun H locs hC => ?_)
    refine lv_iconst (v := 0) hx hb dX12_lifts_119 (by decide) ?_
    obtain ⟨v_3, s_3, hc_3, hf⟩ := calv_inv hf
    refine cc_Vi (r_X12_makes (D := D) (y := y) (o := o) (ad := ad) (av := av) hc_3 l) hx hb hml hta hown hK hN hV hA hC hRc hRs (by omega) (by omega) wq_1194 (q := 0) (ci := 12) rfl rfl wq_1195 wq_1196 wq_1012 wq_1164 hd_X12_makes (As := [.int 5, .int v_2, .int 0]) (rest := [.ref (o 0)]) rfl rfl hl.1 rfl dX12_lifts_120 (fun H locs hC => ?_)
    obtain ⟨s_4, hc_4, hf⟩ := cals_inv hf
    refine cc_Vv (r_X12_lays (D := D) (y := y) (o := o) (ad := ad) (av := av) hc_4 l) hx hb hml hta hown hK hN hV hA hC hRc hRs (by omega) (by omega) wq_1210 (q := 0) (ci := 12) rfl rfl wq_1211 wq_1212 wq_1012 wq_1166 hd_X12_lays (As := [.int v_3]) (rest := []) rfl rfl hl.1 rfl dX12_lifts_123 (fun H locs hC => ?_)
    exact hret _ _ _ _ _ (congrArg (WM y o) (Option.some.inj hf)) dX12_lifts_126 hC
  have hf := it_f h_1_0 hf
  by_cases h_1_1 : x1.toInt = 100
  · have hf := it_t h_1_1 hf
    refine lv_lookup (off := 142) (tgt := 143) hx hb dX12_lifts_1 (by decide) (by (rw [h_1_1]; decide)) (by decide) ?_
    refine lv_aload_n hx hb dX12_lifts_143 rfl (lv_at hl 0 rfl) ?_
    obtain ⟨s_5, hc_5, hf⟩ := cals_inv hf
    refine cc_Vv (r_X12_doubles (D := D) (y := y) (o := o) (ad := ad) (av := av) hc_5 l) hx hb hml hta hown hK hN hV hA hC hRc hRs (by omega) (by omega) wq_1217 (q := 0) (ci := 12) rfl rfl wq_1218 wq_1219 wq_1012 wq_1213 hd_X12_doubles (As := []) (rest := []) rfl rfl hl.1 rfl dX12_lifts_144 (fun H locs hC => ?_)
    exact hret _ _ _ _ _ (congrArg (WM y o) (Option.some.inj hf)) dX12_lifts_147 hC
  have hf := it_f h_1_1 hf
  by_cases h_1_2 : x1.toInt = 105
  · have hf := it_t h_1_2 hf
    refine lv_lookup (off := 99) (tgt := 100) hx hb dX12_lifts_1 (by decide) (by (rw [h_1_2]; decide)) (by decide) ?_
    refine lv_aload_n hx hb dX12_lifts_100 rfl (lv_at hl 0 rfl) ?_
    refine lv_aload_n hx hb dX12_lifts_101 rfl (lv_at hl 0 rfl) ?_
    refine lv_iconst (v := 4) hx hb dX12_lifts_102 (by decide) ?_
    refine lv_iconst (v := 0) hx hb dX12_lifts_103 (by decide) ?_
    refine lv_iconst (v := 0) hx hb dX12_lifts_104 (by decide) ?_
    obtain ⟨v_6, s_6, hc_6, hf⟩ := calv_inv hf
    refine cc_Vi (r_X12_makes (D := D) (y := y) (o := o) (ad := ad) (av := av) hc_6 l) hx hb hml hta hown hK hN hV hA hC hRc hRs (by omega) (by omega) wq_1194 (q := 0) (ci := 12) rfl rfl wq_1195 wq_1196 wq_1012 wq_1164 hd_X12_makes (As := [.int 4, .int 0, .int 0]) (rest := [.ref (o 0)]) rfl rfl hl.1 rfl dX12_lifts_105 (fun H locs hC => ?_)
    obtain ⟨s_7, hc_7, hf⟩ := cals_inv hf
    refine cc_Vv (r_X12_lays (D := D) (y := y) (o := o) (ad := ad) (av := av) hc_7 l) hx hb hml hta hown hK hN hV hA hC hRc hRs (by omega) (by omega) wq_1210 (q := 0) (ci := 12) rfl rfl wq_1211 wq_1212 wq_1012 wq_1166 hd_X12_lays (As := [.int v_6]) (rest := []) rfl rfl hl.1 rfl dX12_lifts_108 (fun H locs hC => ?_)
    exact hret _ _ _ _ _ (congrArg (WM y o) (Option.some.inj hf)) dX12_lifts_111 hC
  have hf := it_f h_1_2 hf
  by_cases h_1_3 : x1.toInt = 107
  · have hf := it_t h_1_3 hf
    refine lv_lookup (off := 75) (tgt := 76) hx hb dX12_lifts_1 (by decide) (by (rw [h_1_3]; decide)) (by decide) ?_
    refine lv_aload_n hx hb dX12_lifts_76 rfl (lv_at hl 0 rfl) ?_
    refine lv_aload_n hx hb dX12_lifts_77 rfl (lv_at hl 0 rfl) ?_
    refine lv_iconst (v := 0) hx hb dX12_lifts_78 (by decide) ?_
    refine lv_iload_n hx hb dX12_lifts_79 rfl (lv_at hl 2 rfl) ?_
    refine lv_iconst (v := 0) hx hb dX12_lifts_80 (by decide) ?_
    obtain ⟨v_8, s_8, hc_8, hf⟩ := calv_inv hf
    refine cc_Vi (r_X12_makes (D := D) (y := y) (o := o) (ad := ad) (av := av) hc_8 l) hx hb hml hta hown hK hN hV hA hC hRc hRs (by omega) (by omega) wq_1194 (q := 0) (ci := 12) rfl rfl wq_1195 wq_1196 wq_1012 wq_1164 hd_X12_makes (As := [.int 0, .int x2, .int 0]) (rest := [.ref (o 0)]) rfl rfl hl.1 rfl dX12_lifts_81 (fun H locs hC => ?_)
    obtain ⟨s_9, hc_9, hf⟩ := cals_inv hf
    refine cc_Vv (r_X12_lays (D := D) (y := y) (o := o) (ad := ad) (av := av) hc_9 l) hx hb hml hta hown hK hN hV hA hC hRc hRs (by omega) (by omega) wq_1210 (q := 0) (ci := 12) rfl rfl wq_1211 wq_1212 wq_1012 wq_1166 hd_X12_lays (As := [.int v_8]) (rest := []) rfl rfl hl.1 rfl dX12_lifts_84 (fun H locs hC => ?_)
    exact hret _ _ _ _ _ (congrArg (WM y o) (Option.some.inj hf)) dX12_lifts_87 hC
  have hf := it_f h_1_3 hf
  by_cases h_1_4 : x1.toInt = 108
  · have hf := it_t h_1_4 hf
    refine lv_lookup (off := 87) (tgt := 88) hx hb dX12_lifts_1 (by decide) (by (rw [h_1_4]; decide)) (by decide) ?_
    refine lv_aload_n hx hb dX12_lifts_88 rfl (lv_at hl 0 rfl) ?_
    refine lv_aload_n hx hb dX12_lifts_89 rfl (lv_at hl 0 rfl) ?_
    refine lv_iconst (v := 1) hx hb dX12_lifts_90 (by decide) ?_
    refine lv_iload_n hx hb dX12_lifts_91 rfl (lv_at hl 2 rfl) ?_
    refine lv_iconst (v := 0) hx hb dX12_lifts_92 (by decide) ?_
    obtain ⟨v_10, s_10, hc_10, hf⟩ := calv_inv hf
    refine cc_Vi (r_X12_makes (D := D) (y := y) (o := o) (ad := ad) (av := av) hc_10 l) hx hb hml hta hown hK hN hV hA hC hRc hRs (by omega) (by omega) wq_1194 (q := 0) (ci := 12) rfl rfl wq_1195 wq_1196 wq_1012 wq_1164 hd_X12_makes (As := [.int 1, .int x2, .int 0]) (rest := [.ref (o 0)]) rfl rfl hl.1 rfl dX12_lifts_93 (fun H locs hC => ?_)
    obtain ⟨s_11, hc_11, hf⟩ := cals_inv hf
    refine cc_Vv (r_X12_lays (D := D) (y := y) (o := o) (ad := ad) (av := av) hc_11 l) hx hb hml hta hown hK hN hV hA hC hRc hRs (by omega) (by omega) wq_1210 (q := 0) (ci := 12) rfl rfl wq_1211 wq_1212 wq_1012 wq_1166 hd_X12_lays (As := [.int v_10]) (rest := []) rfl rfl hl.1 rfl dX12_lifts_96 (fun H locs hC => ?_)
    exact hret _ _ _ _ _ (congrArg (WM y o) (Option.some.inj hf)) dX12_lifts_99 hC
  have hf := it_f h_1_4 hf
  by_cases h_1_5 : x1.toInt = 110
  · have hf := it_t h_1_5 hf
    refine lv_lookup (off := 126) (tgt := 127) hx hb dX12_lifts_1 (by decide) (by (rw [h_1_5]; decide)) (by decide) ?_
    refine lv_aload_n hx hb dX12_lifts_127 rfl (lv_at hl 0 rfl) ?_
    refine lv_aload_n hx hb dX12_lifts_128 rfl (lv_at hl 0 rfl) ?_
    refine lv_bipush (v := 6) hx hb dX12_lifts_129 (by decide) ?_
    refine lv_aload_n hx hb dX12_lifts_131 rfl (lv_at hl 0 rfl) ?_
    obtain ⟨v_12, s_12, hc_12, hf⟩ := calv_inv hf
    refine cc_Vi (r_X12_pops_ (D := D) (y := y) (o := o) (ad := ad) (av := av) hc_12 l) hx hb hml hta hown hK hN hV hA hC hRc hRs (by omega) (by omega) wq_1201 (q := 0) (ci := 12) rfl rfl wq_1202 wq_1203 wq_1012 wq_1169 hd_X12_pops_ (As := []) (rest := [.int 6, .ref (o 0), .ref (o 0)]) rfl rfl hl.1 rfl dX12_lifts_132 (fun H locs hC => ?_)
    refine lv_iconst (v := 0) hx hb dX12_lifts_135 (by decide) ?_
    obtain ⟨v_13, s_13, hc_13, hf⟩ := calv_inv hf
    refine cc_Vi (r_X12_makes (D := D) (y := y) (o := o) (ad := ad) (av := av) hc_13 l) hx hb hml hta hown hK hN hV hA hC hRc hRs (by omega) (by omega) wq_1194 (q := 0) (ci := 12) rfl rfl wq_1195 wq_1196 wq_1012 wq_1164 hd_X12_makes (As := [.int 6, .int v_12, .int 0]) (rest := [.ref (o 0)]) rfl rfl hl.1 rfl dX12_lifts_136 (fun H locs hC => ?_)
    obtain ⟨s_14, hc_14, hf⟩ := cals_inv hf
    refine cc_Vv (r_X12_lays (D := D) (y := y) (o := o) (ad := ad) (av := av) hc_14 l) hx hb hml hta hown hK hN hV hA hC hRc hRs (by omega) (by omega) wq_1210 (q := 0) (ci := 12) rfl rfl wq_1211 wq_1212 wq_1012 wq_1166 hd_X12_lays (As := [.int v_13]) (rest := []) rfl rfl hl.1 rfl dX12_lifts_139 (fun H locs hC => ?_)
    exact hret _ _ _ _ _ (congrArg (WM y o) (Option.some.inj hf)) dX12_lifts_142 hC
  have hf := it_f h_1_5 hf
  by_cases h_1_6 : x1.toInt = 112
  · have hf := it_t h_1_6 hf
    refine lv_lookup (off := 152) (tgt := 153) hx hb dX12_lifts_1 (by decide) (by (rw [h_1_6]; decide)) (by decide) ?_
    refine lv_aload_n hx hb dX12_lifts_153 rfl (lv_at hl 0 rfl) ?_
    refine lv_aload_n hx hb dX12_lifts_154 rfl (lv_at hl 0 rfl) ?_
    obtain ⟨v_15, s_15, hc_15, hf⟩ := calv_inv hf
    refine cc_Vi (r_X12_pops_ (D := D) (y := y) (o := o) (ad := ad) (av := av) hc_15 l) hx hb hml hta hown hK hN hV hA hC hRc hRs (by omega) (by omega) wq_1201 (q := 0) (ci := 12) rfl rfl wq_1202 wq_1203 wq_1012 wq_1169 hd_X12_pops_ (As := []) (rest := [.ref (o 0)]) rfl rfl hl.1 rfl dX12_lifts_155 (fun H locs hC => ?_)
    obtain ⟨s_16, hc_16, hf⟩ := cals_inv hf
    refine cc_Vv (r_X12_alone (D := D) (y := y) (o := o) (ad := ad) (av := av) hc_16 l) hx hb hml hta hown hK hN hV hA hC hRc hRs (by omega) (by omega) wq_1223 (q := 0) (ci := 12) rfl rfl wq_1224 wq_1225 wq_1012 wq_1215 hd_X12_alone (As := [.int v_15]) (rest := []) rfl rfl hl.1 rfl dX12_lifts_158 (fun H locs hC => ?_)
    exact hret _ _ _ _ _ (congrArg (WM y o) (Option.some.inj hf)) dX12_lifts_161 hC
  have hf := it_f h_1_6 hf
  by_cases h_1_7 : x1.toInt = 119
  · have hf := it_t h_1_7 hf
    refine lv_lookup (off := 147) (tgt := 148) hx hb dX12_lifts_1 (by decide) (by (rw [h_1_7]; decide)) (by decide) ?_
    refine lv_aload_n hx hb dX12_lifts_148 rfl (lv_at hl 0 rfl) ?_
    obtain ⟨s_17, hc_17, hf⟩ := cals_inv hf
    refine cc_Vv (r_X12_changes (D := D) (y := y) (o := o) (ad := ad) (av := av) hc_17 l) hx hb hml hta hown hK hN hV hA hC hRc hRs (by omega) (by omega) wq_1220 (q := 0) (ci := 12) rfl rfl wq_1221 wq_1222 wq_1012 wq_1214 hd_X12_changes (As := []) (rest := []) rfl rfl hl.1 rfl dX12_lifts_149 (fun H locs hC => ?_)
    exact hret _ _ _ _ _ (congrArg (WM y o) (Option.some.inj hf)) dX12_lifts_152 hC
  have hf := it_f h_1_7 hf
  refine lv_lookup (off := 161) (tgt := 162) hx hb dX12_lifts_1 (by decide) (lk_none (by intro a ha; simp only [List.mem_cons, List.not_mem_nil, or_false] at ha; rcases ha with rfl | rfl | rfl | rfl | rfl | rfl | rfl | rfl <;> (simp only; omega))) (by decide) ?_
  refine lv_iload_n hx hb dX12_lifts_162 rfl (lv_at hl 1 rfl) ?_
  refine va_ldcSw hx hb hown (ss_Rm hV 8 rfl) dX12_lifts_163 ?_
  obtain ⟨v_18, hc_18, hf⟩ := calp_inv hf
  refine cc_Si (r_X12_isOneOf_s108 (D := D) (y := y) (w := WM y o σ) (ad := ad) (av := av) hc_18 l) hx hb hml hta hown hK hN hV hA hC hRc hRs (by omega) (by omega) wq_1042 wq_1043 wq_1012 wq_1041 hd_X12_isOneOf (As := [.int x1, .ref (ad 108)]) (rest := []) rfl rfl hl.1 rfl dX12_lifts_166 (fun H locs hC => ?_)
  refine lv_if_eq (tgt := 194) hx hb dX12_lifts_169 (by decide) (fun c_19 => ?_) (fun c_19 => ?_)
  · have hf := it_t c_19 hf
    refine lv_aload_n hx hb dX12_lifts_194 rfl (lv_at hl 0 rfl) ?_
    refine lv_iload_n hx hb dX12_lifts_195 rfl (lv_at hl 1 rfl) ?_
    refine lv_iload_n hx hb dX12_lifts_196 rfl (lv_at hl 2 rfl) ?_
    obtain ⟨s_20, hc_20, hf⟩ := cals_inv hf
    refine cc_Vv (r_X12_tells (D := D) (y := y) (o := o) (ad := ad) (av := av) hc_20 l) hx hb hml hta hown hK hN hV hA hC hRc hRs (by omega) (by omega) wq_1226 (q := 0) (ci := 12) rfl rfl wq_1227 wq_1228 wq_1012 wq_1216 hd_X12_tells (As := [.int x1, .int x2]) (rest := []) rfl rfl hl.1 rfl dX12_lifts_197 (fun H locs hC => ?_)
    exact hret _ _ _ _ _ (congrArg (WM y o) (Option.some.inj hf)) dX12_lifts_200 hC
  · have hf := it_f c_19 hf
    refine lv_aload_n hx hb dX12_lifts_172 rfl (lv_at hl 0 rfl) ?_
    obtain ⟨v_21, s_21, hc_21, hf⟩ := calv_inv hf
    refine cc_Vi (r_X12_pops_ (D := D) (y := y) (o := o) (ad := ad) (av := av) hc_21 l) hx hb hml hta hown hK hN hV hA hC hRc hRs (by omega) (by omega) wq_1201 (q := 0) (ci := 12) rfl rfl wq_1202 wq_1203 wq_1012 wq_1169 hd_X12_pops_ (As := []) (rest := []) rfl rfl hl.1 rfl dX12_lifts_173 (fun H locs hC => ?_)
    refine lv_istore_n (lv' := [(3, .int v_21), (0, .ref (o 0)), (1, .int x1), (2, .int x2)]) hx hb dX12_lifts_176 rfl hl (by decide) rfl (fun ls hl => ?_)
    refine lv_aload_n hx hb dX12_lifts_177 rfl (lv_at hl 1 rfl) ?_
    refine lv_aload_n hx hb dX12_lifts_178 rfl (lv_at hl 1 rfl) ?_
    refine lv_iload_n hx hb dX12_lifts_179 rfl (lv_at hl 2 rfl) ?_
    refine lv_aload_n hx hb dX12_lifts_180 rfl (lv_at hl 1 rfl) ?_
    obtain ⟨v_22, s_22, hc_22, hf⟩ := calv_inv hf
    refine cc_Vi (r_X12_pops_ (D := D) (y := y) (o := o) (ad := ad) (av := av) hc_22 l) hx hb hml hta hown hK hN hV hA hC hRc hRs (by omega) (by omega) wq_1201 (q := 0) (ci := 12) rfl rfl wq_1202 wq_1203 wq_1012 wq_1169 hd_X12_pops_ (As := []) (rest := [.int x1, .ref (o 0), .ref (o 0)]) rfl rfl hl.1 rfl dX12_lifts_181 (fun H locs hC => ?_)
    refine lv_iload_n hx hb dX12_lifts_184 rfl (lv_at hl 0 rfl) ?_
    obtain ⟨v_23, s_23, hc_23, hf⟩ := calv_inv hf
    refine cc_Vi (r_X12_makes (D := D) (y := y) (o := o) (ad := ad) (av := av) hc_23 l) hx hb hml hta hown hK hN hV hA hC hRc hRs (by omega) (by omega) wq_1194 (q := 0) (ci := 12) rfl rfl wq_1195 wq_1196 wq_1012 wq_1164 hd_X12_makes (As := [.int x1, .int v_22, .int v_21]) (rest := [.ref (o 0)]) rfl rfl hl.1 rfl dX12_lifts_185 (fun H locs hC => ?_)
    obtain ⟨s_24, hc_24, hf⟩ := cals_inv hf
    refine cc_Vv (r_X12_lays (D := D) (y := y) (o := o) (ad := ad) (av := av) hc_24 l) hx hb hml hta hown hK hN hV hA hC hRc hRs (by omega) (by omega) wq_1210 (q := 0) (ci := 12) rfl rfl wq_1211 wq_1212 wq_1012 wq_1166 hd_X12_lays (As := [.int v_23]) (rest := []) rfl rfl hl.1 rfl dX12_lifts_188 (fun H locs hC => ?_)
    refine lv_goto (tgt := 200) hx hb dX12_lifts_191 (by decide) ?_
    exact hret _ _ _ _ _ (congrArg (WM y o) (Option.some.inj hf)) dX12_lifts_200 hC

set_option maxHeartbeats 8000000 in
set_option maxRecDepth 100000 in
theorem r_X12_isForked {D : va_G} {y : Nat → ClassId} {o : Nat → Nat} {ad av : Nat → Nat} {x1 : Int32} {σ : Sto} {v : Int32} (hf : f_X12_isForked x1 σ = some v) (l : Launch) (sz : Nat) : Met l yX12_isForked (Cond.code yX12_isForked cX12_isForked 2 (some .boolean) :: ALW) { frames := 0, cells := 0, slots := 0, locals := 0 } (va_Pc [.ref (o 0), .int x1] (PZ D y ad av (WM y o σ) sz)) (QZi D (WM y o σ) v (WM y o σ) sz) 0 0 (va_A (WM y o σ) sz) := by
  refine met_i (by decide) (Nat.le_of_ble_eq_true rfl) ?_
  intro p e R s m args below meth c Q A ls hx hb hml hta hown hRc hRs hRf hRl hN hK hV hA hret hC hl
  have hl : lv_has ls 2 [(0, .ref (o 0)), (1, .int x1)] := hl
  unfold f_X12_isForked at hf
  refine lv_aload_n hx hb dX12_isForked_0 rfl (lv_at hl 0 rfl) ?_
  refine gt_X12_23_m hx hb hta hown hK hC dX12_isForked_1 ?_
  refine lv_aload_n hx hb dX12_isForked_4 rfl (lv_at hl 0 rfl) ?_
  refine gt_X12_50_m hx hb hta hown hK hC dX12_isForked_5 ?_
  refine lv_iload_n hx hb dX12_isForked_8 rfl (lv_at hl 1 rfl) ?_
  obtain ⟨hi_1, hf⟩ := ix_inv hf
  obtain ⟨v_1, e_1, hf⟩ := lt_inv hf
  refine al_M_14 hx hb hK hC hi_1 e_1 dX12_isForked_9 ?_
  obtain ⟨hi_2, hf⟩ := ix_inv hf
  obtain ⟨v_2, e_2, hf⟩ := lt_inv hf
  refine al_M_5 hx hb hK hC hi_2 e_2 dX12_isForked_10 ?_
  refine lv_bipush (v := 122) hx hb dX12_isForked_11 (by decide) ?_
  obtain ⟨k_52, hk_52, hf⟩ := jn_inv0 hf
  have hj_52 : ∀  (H : Heap) (locs : List Loc) (ls : Array Slot), k_52 = some v → CZ D A s H locs (WM y o σ) → lv_has ls 2 [] → W p l e R s m args below meth c H locs 0 0 Q (F0 m 52 ls []) := by
    intro H locs ls hf hC hl
    have hf := hk_52 hf
    refine lv_iconst (v := 0) hx hb dX12_isForked_52 (by decide) ?_
    exact hret _ _ _ _ _ _ (Option.some.inj hf) rfl rfl dX12_isForked_53 hC
  refine lv_icmp_ne (tgt := 52) hx hb dX12_isForked_13 (by decide) (fun c_4 => ?_) (fun c_4 => ?_)
  · have hf := it_f c_4 hf
    exact hj_52 _ _ _ hf hC (lv_sub hl [] rfl)
  · have hf := it_t c_4 hf
    refine lv_aload_n hx hb dX12_isForked_16 rfl (lv_at hl 0 rfl) ?_
    refine gt_X12_53_m hx hb hta hown hK hC dX12_isForked_17 ?_
    refine lv_aload_n hx hb dX12_isForked_20 rfl (lv_at hl 0 rfl) ?_
    refine gt_X12_50_m hx hb hta hown hK hC dX12_isForked_21 ?_
    refine lv_iload_n hx hb dX12_isForked_24 rfl (lv_at hl 1 rfl) ?_
    obtain ⟨hi_5, hf⟩ := ix_inv hf
    obtain ⟨v_5, e_5, hf⟩ := lt_inv hf
    refine al_M_14 hx hb hK hC hi_5 e_5 dX12_isForked_25 ?_
    refine lv_iconst (v := 1) hx hb dX12_isForked_26 (by decide) ?_
    refine lv_iadd hx hb dX12_isForked_27 ?_
    obtain ⟨hi_6, hf⟩ := ix_inv hf
    obtain ⟨v_6, e_6, hf⟩ := lt_inv hf
    refine al_M_15 hx hb hK hC hi_6 e_6 dX12_isForked_28 ?_
    refine lv_aload_n hx hb dX12_isForked_29 rfl (lv_at hl 0 rfl) ?_
    refine gt_X12_53_m hx hb hta hown hK hC dX12_isForked_30 ?_
    refine lv_aload_n hx hb dX12_isForked_33 rfl (lv_at hl 0 rfl) ?_
    refine gt_X12_26_m hx hb hta hown hK hC dX12_isForked_34 ?_
    refine lv_aload_n hx hb dX12_isForked_37 rfl (lv_at hl 0 rfl) ?_
    refine gt_X12_50_m hx hb hta hown hK hC dX12_isForked_38 ?_
    refine lv_iload_n hx hb dX12_isForked_41 rfl (lv_at hl 1 rfl) ?_
    obtain ⟨hi_7, hf⟩ := ix_inv hf
    obtain ⟨v_7, e_7, hf⟩ := lt_inv hf
    refine al_M_14 hx hb hK hC hi_7 e_7 dX12_isForked_42 ?_
    obtain ⟨hi_8, hf⟩ := ix_inv hf
    obtain ⟨v_8, e_8, hf⟩ := lt_inv hf
    refine al_M_6 hx hb hK hC hi_8 e_8 dX12_isForked_43 ?_
    obtain ⟨hi_9, hf⟩ := ix_inv hf
    obtain ⟨v_9, e_9, hf⟩ := lt_inv hf
    refine al_M_15 hx hb hK hC hi_9 e_9 dX12_isForked_44 ?_
    refine lv_icmp_eq (tgt := 52) hx hb dX12_isForked_45 (by decide) (fun c_10 => ?_) (fun c_10 => ?_)
    · have hf := it_t c_10 hf
      exact hj_52 _ _ _ hf hC (lv_sub hl [] rfl)
    · have hf := it_f c_10 hf
      refine lv_iconst (v := 1) hx hb dX12_isForked_48 (by decide) ?_
      refine lv_goto (tgt := 53) hx hb dX12_isForked_49 (by decide) ?_
      exact hret _ _ _ _ _ _ (Option.some.inj hf) rfl rfl dX12_isForked_53 hC

set_option maxHeartbeats 8000000 in
set_option maxRecDepth 100000 in
theorem r_X12_laysStatements {D : va_G} {y : Nat → ClassId} {o : Nat → Nat} {ad av : Nat → Nat} {σ : Sto} {σ2 : Sto} (hf : f_X12_laysStatements σ = some σ2) (l : Launch) (sz : Nat) : Met l yX12_laysStatements (Cond.code yX12_laysStatements cX12_laysStatements 3 none :: ALW) { frames := 255, cells := 0, slots := 0, locals := 6073 } (va_Pc [.ref (o 0)] (PZ D y ad av (WM y o σ) sz)) (QZv D (WM y o σ) (WM y o σ2) sz) 0 0 (va_A (WM y o σ) sz) := by
  refine met_v (by decide) (Nat.le_of_ble_eq_true rfl) ?_
  intro p e R s m args below meth c Q A ls hx hb hml hta hown hRc hRs hRf hRl hN hK hV hA hret hC hl
  have hl : lv_has ls 3 [(0, .ref (o 0))] := hl
  unfold f_X12_laysStatements at hf
  refine lv_aload_n hx hb dX12_laysStatements_0 rfl (lv_at hl 0 rfl) ?_
  refine lv_iconst (v := 0) hx hb dX12_laysStatements_1 (by decide) ?_
  obtain ⟨s_1, e_1, hf⟩ := lt_inv hf
  refine pt_X12_407_m hx hb hta hown hK hC e_1 dX12_laysStatements_2 (fun H locs hC => ?_)
  refine lv_aload_n hx hb dX12_laysStatements_5 rfl (lv_at hl 0 rfl) ?_
  refine lv_iconst (v := 0) hx hb dX12_laysStatements_6 (by decide) ?_
  obtain ⟨s_2, e_2, hf⟩ := lt_inv hf
  refine pt_X12_410_m hx hb hta hown hK hC e_2 dX12_laysStatements_7 (fun H locs hC => ?_)
  refine lv_aload_n hx hb dX12_laysStatements_10 rfl (lv_at hl 0 rfl) ?_
  refine lv_iconst (v := 0) hx hb dX12_laysStatements_11 (by decide) ?_
  obtain ⟨s_3, e_3, hf⟩ := lt_inv hf
  refine pt_X12_378_m hx hb hta hown hK hC e_3 dX12_laysStatements_12 (fun H locs hC => ?_)
  refine lv_aload_n hx hb dX12_laysStatements_15 rfl (lv_at hl 0 rfl) ?_
  refine lv_iconst (v := 0) hx hb dX12_laysStatements_16 (by decide) ?_
  obtain ⟨s_4, e_4, hf⟩ := lt_inv hf
  refine pt_X12_447_m hx hb hta hown hK hC e_4 dX12_laysStatements_17 (fun H locs hC => ?_)
  refine lv_iconst (v := 0) hx hb dX12_laysStatements_20 (by decide) ?_
  refine lv_istore_n (lv' := [(1, .int 0), (0, .ref (o 0))]) hx hb dX12_laysStatements_21 rfl hl (by decide) rfl (fun ls hl => ?_)
  refine itr_inv2 (P := fun (x1_5 : Int32) (s_5 : Sto) => ∀ (H : Heap) (locs : List Loc) (ls : Array Slot), CZ D A s H locs (WM y o s_5) → lv_has ls 3 [(0, .ref (o 0)), (1, .int x1_5)] → W p l e R s m args below meth c H locs 0 0 Q (F0 m 22 ls [])) hf ?_ _ _ _ hC (lv_sub hl [1, 0] rfl)
  intro a_22 x1_5 s_5 ha_22 hf H locs ls hC hl
  refine lv_iload_n hx hb dX12_laysStatements_22 rfl (lv_at hl 1 rfl) ?_
  refine lv_aload_n hx hb dX12_laysStatements_23 rfl (lv_at hl 0 rfl) ?_
  refine gt_X12_299_m hx hb hta hown hK hC dX12_laysStatements_24 ?_
  refine lv_icmp_ge (tgt := 237) hx hb dX12_laysStatements_27 (by decide) (fun c_6 => ?_) (fun c_6 => ?_)
  · have hf := it_t c_6 hf
    refine lv_aload_n hx hb dX12_laysStatements_237 rfl (lv_at hl 0 rfl) ?_
    refine gt_X12_106_m hx hb hta hown hK hC dX12_laysStatements_238 ?_
    refine lv_aload_n hx hb dX12_laysStatements_241 rfl (lv_at hl 0 rfl) ?_
    refine gt_X12_299_m hx hb hta hown hK hC dX12_laysStatements_242 ?_
    refine lv_aload_n hx hb dX12_laysStatements_245 rfl (lv_at hl 0 rfl) ?_
    refine gt_X12_407_m hx hb hta hown hK hC dX12_laysStatements_246 ?_
    obtain ⟨hi_7, hf⟩ := ix_inv hf
    obtain ⟨s_7, e_7, hf⟩ := lt_inv hf
    refine as_M_32 hx hb hK hC hi_7 e_7 dX12_laysStatements_249 (fun H locs hC => ?_)
    exact hret _ _ _ _ _ (congrArg (WM y o) (Option.some.inj hf)) dX12_laysStatements_250 hC
  · have hf := it_f c_6 hf
    refine lv_aload_n hx hb dX12_laysStatements_30 rfl (lv_at hl 0 rfl) ?_
    refine gt_X12_106_m hx hb hta hown hK hC dX12_laysStatements_31 ?_
    refine lv_iload_n hx hb dX12_laysStatements_34 rfl (lv_at hl 1 rfl) ?_
    refine lv_aload_n hx hb dX12_laysStatements_35 rfl (lv_at hl 0 rfl) ?_
    refine gt_X12_407_m hx hb hta hown hK hC dX12_laysStatements_36 ?_
    obtain ⟨hi_8, hf⟩ := ix_inv hf
    obtain ⟨s_8, e_8, hf⟩ := lt_inv hf
    refine as_M_32 hx hb hK hC hi_8 e_8 dX12_laysStatements_39 (fun H locs hC => ?_)
    refine lv_aload_n hx hb dX12_laysStatements_40 rfl (lv_at hl 0 rfl) ?_
    refine gt_X12_109_m hx hb hta hown hK hC dX12_laysStatements_41 ?_
    refine lv_iload_n hx hb dX12_laysStatements_44 rfl (lv_at hl 1 rfl) ?_
    refine lv_iconst (v := (-1)) hx hb dX12_laysStatements_45 (by decide) ?_
    obtain ⟨hi_9, hf⟩ := ix_inv hf
    obtain ⟨s_9, e_9, hf⟩ := lt_inv hf
    refine as_M_33 hx hb hK hC hi_9 e_9 dX12_laysStatements_46 (fun H locs hC => ?_)
    refine lv_aload_n hx hb dX12_laysStatements_47 rfl (lv_at hl 0 rfl) ?_
    refine lv_iconst (v := 0) hx hb dX12_laysStatements_48 (by decide) ?_
    obtain ⟨s_10, e_10, hf⟩ := lt_inv hf
    refine pt_X12_419_m hx hb hta hown hK hC e_10 dX12_laysStatements_49 (fun H locs hC => ?_)
    refine lv_iconst (v := 0) hx hb dX12_laysStatements_52 (by decide) ?_
    refine lv_istore_n (lv' := [(2, .int 0), (0, .ref (o 0)), (1, .int x1_5)]) hx hb dX12_laysStatements_53 rfl hl (by decide) rfl (fun ls hl => ?_)
    refine itr_inv2 (P := fun (x2_11 : Int32) (s_11 : Sto) => ∀ (H : Heap) (locs : List Loc) (ls : Array Slot), CZ D A s H locs (WM y o s_11) → lv_has ls 3 [(0, .ref (o 0)), (1, .int x1_5), (2, .int x2_11)] → W p l e R s m args below meth c H locs 0 0 Q (F0 m 54 ls [])) hf ?_ _ _ _ hC (lv_sub hl [1, 2, 0] rfl)
    intro a_54 x2_11 s_11 ha_54 hf H locs ls hC hl
    refine lv_iload_n hx hb dX12_laysStatements_54 rfl (lv_at hl 2 rfl) ?_
    refine lv_aload_n hx hb dX12_laysStatements_55 rfl (lv_at hl 0 rfl) ?_
    refine gt_X12_44_m hx hb hta hown hK hC dX12_laysStatements_56 ?_
    refine lv_aload_n hx hb dX12_laysStatements_59 rfl (lv_at hl 0 rfl) ?_
    refine gt_X12_47_m hx hb hta hown hK hC dX12_laysStatements_60 ?_
    refine lv_iload_n hx hb dX12_laysStatements_63 rfl (lv_at hl 1 rfl) ?_
    obtain ⟨hi_12, hf⟩ := ix_inv hf
    obtain ⟨v_12, e_12, hf⟩ := lt_inv hf
    refine al_M_13 hx hb hK hC hi_12 e_12 dX12_laysStatements_64 ?_
    obtain ⟨hi_13, hf⟩ := ix_inv hf
    obtain ⟨v_13, e_13, hf⟩ := lt_inv hf
    refine al_M_12 hx hb hK hC hi_13 e_13 dX12_laysStatements_65 ?_
    refine lv_icmp_ge (tgt := 86) hx hb dX12_laysStatements_66 (by decide) (fun c_14 => ?_) (fun c_14 => ?_)
    · have hf := it_t c_14 hf
      refine lv_aload_n hx hb dX12_laysStatements_86 rfl (lv_at hl 0 rfl) ?_
      refine lv_aload_n hx hb dX12_laysStatements_87 rfl (lv_at hl 0 rfl) ?_
      refine gt_X12_447_m hx hb hta hown hK hC dX12_laysStatements_88 ?_
      refine lv_aload_n hx hb dX12_laysStatements_91 rfl (lv_at hl 0 rfl) ?_
      refine gt_X12_419_m hx hb hta hown hK hC dX12_laysStatements_92 ?_
      obtain ⟨v_15, e_15, hf⟩ := lt_inv hf
      refine cc_max hx hb hml hta hown hRc hRs (by omega) (by omega) wq_1236 hl.1 rfl e_15 dX12_laysStatements_95 ?_
      obtain ⟨s_16, e_16, hf⟩ := lt_inv hf
      refine pt_X12_447_m hx hb hta hown hK hC e_16 dX12_laysStatements_98 (fun H locs hC => ?_)
      refine lv_aload_n hx hb dX12_laysStatements_101 rfl (lv_at hl 0 rfl) ?_
      refine gt_X12_47_m hx hb hta hown hK hC dX12_laysStatements_102 ?_
      refine lv_iload_n hx hb dX12_laysStatements_105 rfl (lv_at hl 1 rfl) ?_
      obtain ⟨hi_17, hf⟩ := ix_inv hf
      obtain ⟨v_17, e_17, hf⟩ := lt_inv hf
      refine al_M_13 hx hb hK hC hi_17 e_17 dX12_laysStatements_106 ?_
      refine lv_istore_n (lv' := [(2, .int v_17), (0, .ref (o 0)), (1, .int x1_5)]) hx hb dX12_laysStatements_107 rfl hl (by decide) rfl (fun ls hl => ?_)
      refine itr_inv2 (P := fun (x2_18 : Int32) (s_18 : Sto) => ∀ (H : Heap) (locs : List Loc) (ls : Array Slot), CZ D A s H locs (WM y o s_18) → lv_has ls 3 [(0, .ref (o 0)), (1, .int x1_5), (2, .int x2_18)] → W p l e R s m args below meth c H locs 0 0 Q (F0 m 108 ls [])) hf ?_ _ _ _ hC (lv_sub hl [1, 2, 0] rfl)
      intro a_108 x2_18 s_18 ha_108 hf H locs ls hC hl
      refine lv_iload_n hx hb dX12_laysStatements_108 rfl (lv_at hl 2 rfl) ?_
      refine lv_aload_n hx hb dX12_laysStatements_109 rfl (lv_at hl 0 rfl) ?_
      refine gt_X12_50_m hx hb hta hown hK hC dX12_laysStatements_110 ?_
      refine lv_iload_n hx hb dX12_laysStatements_113 rfl (lv_at hl 1 rfl) ?_
      obtain ⟨hi_19, hf⟩ := ix_inv hf
      obtain ⟨v_19, e_19, hf⟩ := lt_inv hf
      refine al_M_14 hx hb hK hC hi_19 e_19 dX12_laysStatements_114 ?_
      refine lv_icmp_gt (tgt := 188) hx hb dX12_laysStatements_115 (by decide) (fun c_20 => ?_) (fun c_20 => ?_)
      · have hf := it_t c_20 hf
        refine lv_aload_n hx hb dX12_laysStatements_188 rfl (lv_at hl 0 rfl) ?_
        refine gt_X12_23_m hx hb hta hown hK hC dX12_laysStatements_189 ?_
        refine lv_aload_n hx hb dX12_laysStatements_192 rfl (lv_at hl 0 rfl) ?_
        refine gt_X12_50_m hx hb hta hown hK hC dX12_laysStatements_193 ?_
        refine lv_iload_n hx hb dX12_laysStatements_196 rfl (lv_at hl 1 rfl) ?_
        obtain ⟨hi_21, hf⟩ := ix_inv hf
        obtain ⟨v_21, e_21, hf⟩ := lt_inv hf
        refine al_M_14 hx hb hK hC hi_21 e_21 dX12_laysStatements_197 ?_
        obtain ⟨hi_22, hf⟩ := ix_inv hf
        obtain ⟨v_22, e_22, hf⟩ := lt_inv hf
        refine al_M_5 hx hb hK hC hi_22 e_22 dX12_laysStatements_198 ?_
        refine va_ldcSw hx hb hown (ss_Rm hV 9 rfl) dX12_laysStatements_199 ?_
        obtain ⟨v_23, hc_23, hf⟩ := calp_inv hf
        refine cc_Si (r_X12_isOneOf_s109 (D := D) (y := y) (w := WM y o s_18) (ad := ad) (av := av) hc_23 l) hx hb hml hta hown hK hN hV hA hC hRc hRs (by omega) (by omega) wq_1042 wq_1043 wq_1012 wq_1041 hd_X12_isOneOf (As := [.int v_22, .ref (ad 109)]) (rest := []) rfl rfl hl.1 rfl dX12_laysStatements_202 (fun H locs hC => ?_)
        obtain ⟨k_231, hk_231, hf⟩ := jn_inv1 hf
        have hj_231 : ∀ (s_24 : Sto) (H : Heap) (locs : List Loc) (ls : Array Slot), k_231 s_24 = some σ2 → CZ D A s H locs (WM y o s_24) → lv_has ls 3 [(0, .ref (o 0)), (1, .int x1_5)] → W p l e R s m args below meth c H locs 0 0 Q (F0 m 231 ls []) := by
          intro s_24 H locs ls hf hC hl
          have hf := hk_231 _ hf
          obtain ⟨x1_25, e_25, hf⟩ := lt_inv hf
          refine lv_iinc (v := x1_25) (lv' := [(1, .int x1_25), (0, .ref (o 0))]) hx hb dX12_laysStatements_231 hl (k := 1) rfl e_25.symm (by decide) rfl (fun ls hl => ?_)
          refine lv_goto (tgt := 22) hx hb dX12_laysStatements_234 (by decide) ?_
          exact ha_22 _ _ hf _ _ _ hC (lv_sub hl [1, 0] rfl)
        refine lv_if_eq (tgt := 211) hx hb dX12_laysStatements_205 (by decide) (fun c_26 => ?_) (fun c_26 => ?_)
        · have hf := it_t c_26 hf
          refine lv_aload_n hx hb dX12_laysStatements_211 rfl (lv_at hl 0 rfl) ?_
          refine lv_aload_n hx hb dX12_laysStatements_212 rfl (lv_at hl 0 rfl) ?_
          refine gt_X12_447_m hx hb hta hown hK hC dX12_laysStatements_213 ?_
          refine lv_aload_n hx hb dX12_laysStatements_216 rfl (lv_at hl 0 rfl) ?_
          refine gt_X12_419_m hx hb hta hown hK hC dX12_laysStatements_217 ?_
          obtain ⟨v_27, e_27, hf⟩ := lt_inv hf
          refine cc_max hx hb hml hta hown hRc hRs (by omega) (by omega) wq_1236 hl.1 rfl e_27 dX12_laysStatements_220 ?_
          obtain ⟨s_28, e_28, hf⟩ := lt_inv hf
          refine pt_X12_447_m hx hb hta hown hK hC e_28 dX12_laysStatements_223 (fun H locs hC => ?_)
          refine lv_aload_n hx hb dX12_laysStatements_226 rfl (lv_at hl 0 rfl) ?_
          refine lv_iload_n hx hb dX12_laysStatements_227 rfl (lv_at hl 1 rfl) ?_
          obtain ⟨s_29, hc_29, hf⟩ := cals_inv hf
          refine cc_Vv (r_X12_endsBlock (D := D) (y := y) (o := o) (ad := ad) (av := av) hc_29 l) hx hb hml hta hown hK hN hV hA hC hRc hRs (by omega) (by omega) wq_1243 (q := 0) (ci := 12) rfl rfl wq_1244 wq_1245 wq_1012 wq_1234 hd_X12_endsBlock (As := [.int x1_5]) (rest := []) rfl rfl hl.1 rfl dX12_laysStatements_228 (fun H locs hC => ?_)
          exact hj_231 _ _ _ _ hf hC (lv_sub hl [0, 1] rfl)
        · have hf := it_f c_26 hf
          refine lv_goto (tgt := 231) hx hb dX12_laysStatements_208 (by decide) ?_
          exact hj_231 _ _ _ _ hf hC (lv_sub hl [0, 1] rfl)
      · have hf := it_f c_20 hf
        refine lv_aload_n hx hb dX12_laysStatements_118 rfl (lv_at hl 0 rfl) ?_
        refine gt_X12_23_m hx hb hta hown hK hC dX12_laysStatements_119 ?_
        refine lv_iload_n hx hb dX12_laysStatements_122 rfl (lv_at hl 2 rfl) ?_
        obtain ⟨hi_30, hf⟩ := ix_inv hf
        obtain ⟨v_30, e_30, hf⟩ := lt_inv hf
        refine al_M_5 hx hb hK hC hi_30 e_30 dX12_laysStatements_123 ?_
        refine lv_bipush (v := 122) hx hb dX12_laysStatements_124 (by decide) ?_
        obtain ⟨k_182, hk_182, hf⟩ := jn_inv1 hf
        have hj_182 : ∀ (s_31 : Sto) (H : Heap) (locs : List Loc) (ls : Array Slot), k_182 s_31 = some σ2 → CZ D A s H locs (WM y o s_31) → lv_has ls 3 [(0, .ref (o 0)), (1, .int x1_5), (2, .int x2_18)] → W p l e R s m args below meth c H locs 0 0 Q (F0 m 182 ls []) := by
          intro s_31 H locs ls hf hC hl
          have hf := hk_182 _ hf
          obtain ⟨x2_32, e_32, hf⟩ := lt_inv hf
          refine lv_iinc (v := x2_32) (lv' := [(2, .int x2_32), (0, .ref (o 0)), (1, .int x1_5)]) hx hb dX12_laysStatements_182 hl (k := 2) rfl e_32.symm (by decide) rfl (fun ls hl => ?_)
          refine lv_goto (tgt := 108) hx hb dX12_laysStatements_185 (by decide) ?_
          exact ha_108 _ _ hf _ _ _ hC (lv_sub hl [1, 2, 0] rfl)
        obtain ⟨k_150, hk_150, hf⟩ := jn_inv0 hf
        have hj_150 : ∀  (H : Heap) (locs : List Loc) (ls : Array Slot), k_150 = some σ2 → CZ D A s H locs (WM y o s_18) → lv_has ls 3 [(0, .ref (o 0)), (1, .int x1_5), (2, .int x2_18)] → W p l e R s m args below meth c H locs 0 0 Q (F0 m 150 ls []) := by
          intro H locs ls hf hC hl
          have hf := hk_150 hf
          refine lv_aload_n hx hb dX12_laysStatements_150 rfl (lv_at hl 0 rfl) ?_
          refine lv_aload_n hx hb dX12_laysStatements_151 rfl (lv_at hl 0 rfl) ?_
          refine gt_X12_23_m hx hb hta hown hK hC dX12_laysStatements_152 ?_
          refine lv_iload_n hx hb dX12_laysStatements_155 rfl (lv_at hl 2 rfl) ?_
          obtain ⟨hi_34, hf⟩ := ix_inv hf
          obtain ⟨v_34, e_34, hf⟩ := lt_inv hf
          refine al_M_5 hx hb hK hC hi_34 e_34 dX12_laysStatements_156 ?_
          refine lv_bipush (v := 122) hx hb dX12_laysStatements_157 (by decide) ?_
          obtain ⟨k_173, hk_173, hf⟩ := jn_inv1 hf
          have hj_173 : ∀ (t0_35 : Int32) (H : Heap) (locs : List Loc) (ls : Array Slot), k_173 t0_35 = some σ2 → CZ D A s H locs (WM y o s_18) → lv_has ls 3 [(0, .ref (o 0)), (1, .int x1_5), (2, .int x2_18)] → W p l e R s m args below meth c H locs 0 0 Q (F0 m 173 ls [.int t0_35, .ref (o 0)]) := by
            intro t0_35 H locs ls hf hC hl
            have hf := hk_173 _ hf
            refine lv_aload_n hx hb dX12_laysStatements_173 rfl (lv_at hl 0 rfl) ?_
            refine gt_X12_26_m hx hb hta hown hK hC dX12_laysStatements_174 ?_
            refine lv_iload_n hx hb dX12_laysStatements_177 rfl (lv_at hl 2 rfl) ?_
            obtain ⟨hi_36, hf⟩ := ix_inv hf
            obtain ⟨v_36, e_36, hf⟩ := lt_inv hf
            refine al_M_6 hx hb hK hC hi_36 e_36 dX12_laysStatements_178 ?_
            obtain ⟨s_37, hc_37, hf⟩ := cals_inv hf
            refine cc_Vv (r_X12_lifts (D := D) (y := y) (o := o) (ad := ad) (av := av) hc_37 l) hx hb hml hta hown hK hN hV hA hC hRc hRs (by omega) (by omega) wq_1240 (q := 0) (ci := 12) rfl rfl wq_1241 wq_1242 wq_1012 wq_1229 hd_X12_lifts (As := [.int t0_35, .int v_36]) (rest := []) rfl rfl hl.1 rfl dX12_laysStatements_179 (fun H locs hC => ?_)
            exact hj_182 _ _ _ _ hf hC hl
          refine lv_icmp_ne (tgt := 167) hx hb dX12_laysStatements_159 (by decide) (fun c_38 => ?_) (fun c_38 => ?_)
          · have hf := it_f c_38 hf
            refine lv_aload_n hx hb dX12_laysStatements_167 rfl (lv_at hl 0 rfl) ?_
            refine gt_X12_23_m hx hb hta hown hK hC dX12_laysStatements_168 ?_
            refine lv_iload_n hx hb dX12_laysStatements_171 rfl (lv_at hl 2 rfl) ?_
            obtain ⟨hi_39, hf⟩ := ix_inv hf
            obtain ⟨v_39, e_39, hf⟩ := lt_inv hf
            refine al_M_5 hx hb hK hC hi_39 e_39 dX12_laysStatements_172 ?_
            exact hj_173 _ _ _ _ hf hC hl
          · have hf := it_t c_38 hf
            refine lv_bipush (v := 112) hx hb dX12_laysStatements_162 (by decide) ?_
            refine lv_goto (tgt := 173) hx hb dX12_laysStatements_164 (by decide) ?_
            exact hj_173 _ _ _ _ hf hC hl
        refine lv_icmp_ne (tgt := 150) hx hb dX12_laysStatements_126 (by decide) (fun c_40 => ?_) (fun c_40 => ?_)
        · have hf := it_f c_40 hf
          exact hj_150 _ _ _ hf hC hl
        · have hf := it_t c_40 hf
          refine lv_aload_n hx hb dX12_laysStatements_129 rfl (lv_at hl 0 rfl) ?_
          refine lv_iload_n hx hb dX12_laysStatements_130 rfl (lv_at hl 1 rfl) ?_
          obtain ⟨v_41, hc_41, hf⟩ := calp_inv hf
          refine cc_Vi (r_X12_isForked (D := D) (y := y) (o := o) (ad := ad) (av := av) hc_41 l) hx hb hml hta hown hK hN hV hA hC hRc hRs (by omega) (by omega) wq_1237 (q := 0) (ci := 12) rfl rfl wq_1238 wq_1239 wq_1012 wq_1168 hd_X12_isForked (As := [.int x1_5]) (rest := []) rfl rfl hl.1 rfl dX12_laysStatements_131 (fun H locs hC => ?_)
          refine lv_if_eq (tgt := 150) hx hb dX12_laysStatements_134 (by decide) (fun c_42 => ?_) (fun c_42 => ?_)
          · have hf := it_t c_42 hf
            exact hj_150 _ _ _ hf hC hl
          · have hf := it_f c_42 hf
            refine lv_aload_n hx hb dX12_laysStatements_137 rfl (lv_at hl 0 rfl) ?_
            refine gt_X12_109_m hx hb hta hown hK hC dX12_laysStatements_138 ?_
            refine lv_iload_n hx hb dX12_laysStatements_141 rfl (lv_at hl 1 rfl) ?_
            refine lv_aload_n hx hb dX12_laysStatements_142 rfl (lv_at hl 0 rfl) ?_
            obtain ⟨v_43, s_43, hc_43, hf⟩ := calv_inv hf
            refine cc_Vi (r_X12_pops_ (D := D) (y := y) (o := o) (ad := ad) (av := av) hc_43 l) hx hb hml hta hown hK hN hV hA hC hRc hRs (by omega) (by omega) wq_1201 (q := 0) (ci := 12) rfl rfl wq_1202 wq_1203 wq_1012 wq_1169 hd_X12_pops_ (As := []) (rest := [.int x1_5, .ref (o 33)]) rfl rfl hl.1 rfl dX12_laysStatements_143 (fun H locs hC => ?_)
            obtain ⟨hi_44, hf⟩ := ix_inv hf
            obtain ⟨s_44, e_44, hf⟩ := lt_inv hf
            refine as_M_33 hx hb hK hC hi_44 e_44 dX12_laysStatements_146 (fun H locs hC => ?_)
            refine lv_goto (tgt := 182) hx hb dX12_laysStatements_147 (by decide) ?_
            exact hj_182 _ _ _ _ hf hC hl
    · have hf := it_f c_14 hf
      refine lv_aload_n hx hb dX12_laysStatements_69 rfl (lv_at hl 0 rfl) ?_
      refine lv_aload_n hx hb dX12_laysStatements_70 rfl (lv_at hl 0 rfl) ?_
      refine lv_iconst (v := 2) hx hb dX12_laysStatements_71 (by decide) ?_
      refine lv_iload_n hx hb dX12_laysStatements_72 rfl (lv_at hl 2 rfl) ?_
      refine lv_iconst (v := 0) hx hb dX12_laysStatements_73 (by decide) ?_
      obtain ⟨v_45, s_45, hc_45, hf⟩ := calv_inv hf
      refine cc_Vi (r_X12_makes (D := D) (y := y) (o := o) (ad := ad) (av := av) hc_45 l) hx hb hml hta hown hK hN hV hA hC hRc hRs (by omega) (by omega) wq_1194 (q := 0) (ci := 12) rfl rfl wq_1195 wq_1196 wq_1012 wq_1164 hd_X12_makes (As := [.int 2, .int x2_11, .int 0]) (rest := [.ref (o 0)]) rfl rfl hl.1 rfl dX12_laysStatements_74 (fun H locs hC => ?_)
      obtain ⟨s_46, hc_46, hf⟩ := cals_inv hf
      refine cc_Vv (r_X12_lays (D := D) (y := y) (o := o) (ad := ad) (av := av) hc_46 l) hx hb hml hta hown hK hN hV hA hC hRc hRs (by omega) (by omega) wq_1210 (q := 0) (ci := 12) rfl rfl wq_1211 wq_1212 wq_1012 wq_1166 hd_X12_lays (As := [.int v_45]) (rest := []) rfl rfl hl.1 rfl dX12_laysStatements_77 (fun H locs hC => ?_)
      obtain ⟨x2_47, e_47, hf⟩ := lt_inv hf
      refine lv_iinc (v := x2_47) (lv' := [(2, .int x2_47), (0, .ref (o 0)), (1, .int x1_5)]) hx hb dX12_laysStatements_80 hl (k := 2) rfl e_47.symm (by decide) rfl (fun ls hl => ?_)
      refine lv_goto (tgt := 54) hx hb dX12_laysStatements_83 (by decide) ?_
      exact ha_54 _ _ hf _ _ _ hC (lv_sub hl [1, 2, 0] rfl)

set_option maxHeartbeats 8000000 in
set_option maxRecDepth 100000 in
theorem r_X12_isTruth {D : va_G} {y : Nat → ClassId} {o : Nat → Nat} {ad av : Nat → Nat} {x1 : Int32} {σ : Sto} {v : Int32} (hf : f_X12_isTruth x1 σ = some v) (l : Launch) (sz : Nat) : Met l yX12_isTruth (Cond.code yX12_isTruth cX12_isTruth 2 (some .boolean) :: ALW) { frames := 0, cells := 0, slots := 0, locals := 0 } (va_Pc [.ref (o 0), .int x1] (PZ D y ad av (WM y o σ) sz)) (QZi D (WM y o σ) v (WM y o σ) sz) 0 0 (va_A (WM y o σ) sz) := by
  refine met_i (by decide) (Nat.le_of_ble_eq_true rfl) ?_
  intro p e R s m args below meth c Q A ls hx hb hml hta hown hRc hRs hRf hRl hN hK hV hA hret hC hl
  have hl : lv_has ls 2 [(0, .ref (o 0)), (1, .int x1)] := hl
  unfold f_X12_isTruth at hf
  refine lv_aload_n hx hb dX12_isTruth_0 rfl (lv_at hl 0 rfl) ?_
  refine gt_X12_88_m hx hb hta hown hK hC dX12_isTruth_1 ?_
  refine lv_iload_n hx hb dX12_isTruth_4 rfl (lv_at hl 1 rfl) ?_
  obtain ⟨hi_1, hf⟩ := ix_inv hf
  obtain ⟨v_1, e_1, hf⟩ := lt_inv hf
  refine al_M_26 hx hb hK hC hi_1 e_1 dX12_isTruth_5 ?_
  by_cases h_2_0 : v_1.toInt = 0
  · have hf := it_t h_2_0 hf
    refine lv_tab (tgt := 36) hx hb dX12_isTruth_6 (Or.inr ⟨30, by omega, by omega, by (rw [h_2_0]; decide), by decide⟩) ?_
    refine lv_aload_n hx hb dX12_isTruth_36 rfl (lv_at hl 0 rfl) ?_
    refine gt_X12_91_m hx hb hta hown hK hC dX12_isTruth_37 ?_
    refine lv_iload_n hx hb dX12_isTruth_40 rfl (lv_at hl 1 rfl) ?_
    obtain ⟨hi_3, hf⟩ := ix_inv hf
    obtain ⟨v_3, e_3, hf⟩ := lt_inv hf
    refine al_M_27 hx hb hK hC hi_3 e_3 dX12_isTruth_41 ?_
    refine lv_iconst (v := 2) hx hb dX12_isTruth_42 (by decide) ?_
    refine lv_icmp_ge (tgt := 50) hx hb dX12_isTruth_43 (by decide) (fun c_4 => ?_) (fun c_4 => ?_)
    · have hf := it_t c_4 hf
      refine lv_iconst (v := 0) hx hb dX12_isTruth_50 (by decide) ?_
      exact hret _ _ _ _ _ _ (Option.some.inj hf) rfl rfl dX12_isTruth_51 hC
    · have hf := it_f c_4 hf
      refine lv_iconst (v := 1) hx hb dX12_isTruth_46 (by decide) ?_
      refine lv_goto (tgt := 51) hx hb dX12_isTruth_47 (by decide) ?_
      exact hret _ _ _ _ _ _ (Option.some.inj hf) rfl rfl dX12_isTruth_51 hC
  have hf := it_f h_2_0 hf
  by_cases h_2_1 : v_1.toInt = 1
  · have hf := it_t h_2_1 hf
    refine lv_tab (tgt := 52) hx hb dX12_isTruth_6 (Or.inr ⟨46, by omega, by omega, by (rw [h_2_1]; decide), by decide⟩) ?_
    refine lv_aload_n hx hb dX12_isTruth_52 rfl (lv_at hl 0 rfl) ?_
    refine gt_X12_115_m hx hb hta hown hK hC dX12_isTruth_53 ?_
    refine lv_aload_n hx hb dX12_isTruth_56 rfl (lv_at hl 0 rfl) ?_
    refine gt_X12_91_m hx hb hta hown hK hC dX12_isTruth_57 ?_
    refine lv_iload_n hx hb dX12_isTruth_60 rfl (lv_at hl 1 rfl) ?_
    obtain ⟨hi_5, hf⟩ := ix_inv hf
    obtain ⟨v_5, e_5, hf⟩ := lt_inv hf
    refine al_M_27 hx hb hK hC hi_5 e_5 dX12_isTruth_61 ?_
    obtain ⟨hi_6, hf⟩ := ix_inv hf
    obtain ⟨v_6, e_6, hf⟩ := lt_inv hf
    refine al_M_35 hx hb hK hC hi_6 e_6 dX12_isTruth_62 ?_
    obtain ⟨hb_7, hf⟩ := bz_inv hf
    exact hret _ _ _ _ _ _ (Option.some.inj hf) rfl (bz_nar hb_7) dX12_isTruth_63 hC
  have hf := it_f h_2_1 hf
  by_cases h_2_2 : v_1.toInt = 2
  · have hf := it_t h_2_2 hf
    refine lv_tab (tgt := 64) hx hb dX12_isTruth_6 (Or.inr ⟨58, by omega, by omega, by (rw [h_2_2]; decide), by decide⟩) ?_
    refine lv_aload_n hx hb dX12_isTruth_64 rfl (lv_at hl 0 rfl) ?_
    refine gt_X12_118_m hx hb hta hown hK hC dX12_isTruth_65 ?_
    refine lv_aload_n hx hb dX12_isTruth_68 rfl (lv_at hl 0 rfl) ?_
    refine gt_X12_91_m hx hb hta hown hK hC dX12_isTruth_69 ?_
    refine lv_iload_n hx hb dX12_isTruth_72 rfl (lv_at hl 1 rfl) ?_
    obtain ⟨hi_8, hf⟩ := ix_inv hf
    obtain ⟨v_8, e_8, hf⟩ := lt_inv hf
    refine al_M_27 hx hb hK hC hi_8 e_8 dX12_isTruth_73 ?_
    obtain ⟨hi_9, hf⟩ := ix_inv hf
    obtain ⟨v_9, e_9, hf⟩ := lt_inv hf
    refine al_M_36 hx hb hK hC hi_9 e_9 dX12_isTruth_74 ?_
    obtain ⟨hb_10, hf⟩ := bz_inv hf
    exact hret _ _ _ _ _ _ (Option.some.inj hf) rfl (bz_nar hb_10) dX12_isTruth_75 hC
  have hf := it_f h_2_2 hf
  by_cases h_2_3 : v_1.toInt = 3
  · have hf := it_t h_2_3 hf
    refine lv_tab (tgt := 76) hx hb dX12_isTruth_6 (Or.inr ⟨70, by omega, by omega, by (rw [h_2_3]; decide), by decide⟩) ?_
    refine lv_aload_n hx hb dX12_isTruth_76 rfl (lv_at hl 0 rfl) ?_
    refine gt_X12_121_m hx hb hta hown hK hC dX12_isTruth_77 ?_
    refine lv_aload_n hx hb dX12_isTruth_80 rfl (lv_at hl 0 rfl) ?_
    refine gt_X12_91_m hx hb hta hown hK hC dX12_isTruth_81 ?_
    refine lv_iload_n hx hb dX12_isTruth_84 rfl (lv_at hl 1 rfl) ?_
    obtain ⟨hi_11, hf⟩ := ix_inv hf
    obtain ⟨v_11, e_11, hf⟩ := lt_inv hf
    refine al_M_27 hx hb hK hC hi_11 e_11 dX12_isTruth_85 ?_
    obtain ⟨hi_12, hf⟩ := ix_inv hf
    obtain ⟨v_12, e_12, hf⟩ := lt_inv hf
    refine al_M_37 hx hb hK hC hi_12 e_12 dX12_isTruth_86 ?_
    obtain ⟨hb_13, hf⟩ := bz_inv hf
    exact hret _ _ _ _ _ _ (Option.some.inj hf) rfl (bz_nar hb_13) dX12_isTruth_87 hC
  have hf := it_f h_2_3 hf
  refine lv_tab (tgt := 88) hx hb dX12_isTruth_6 (Or.inl ⟨by omega, by decide⟩) ?_
  refine lv_aload_n hx hb dX12_isTruth_88 rfl (lv_at hl 0 rfl) ?_
  refine gt_X12_88_m hx hb hta hown hK hC dX12_isTruth_89 ?_
  refine lv_iload_n hx hb dX12_isTruth_92 rfl (lv_at hl 1 rfl) ?_
  obtain ⟨hi_14, hf⟩ := ix_inv hf
  obtain ⟨v_14, e_14, hf⟩ := lt_inv hf
  refine al_M_26 hx hb hK hC hi_14 e_14 dX12_isTruth_93 ?_
  refine lv_iconst (v := 5) hx hb dX12_isTruth_94 (by decide) ?_
  obtain ⟨k_120, hk_120, hf⟩ := jn_inv0 hf
  have hj_120 : ∀  (H : Heap) (locs : List Loc) (ls : Array Slot), k_120 = some v → CZ D A s H locs (WM y o σ) → lv_has ls 2 [] → W p l e R s m args below meth c H locs 0 0 Q (F0 m 120 ls []) := by
    intro H locs ls hf hC hl
    have hf := hk_120 hf
    refine lv_iconst (v := 1) hx hb dX12_isTruth_120 (by decide) ?_
    refine lv_goto (tgt := 125) hx hb dX12_isTruth_121 (by decide) ?_
    exact hret _ _ _ _ _ _ (Option.some.inj hf) rfl rfl dX12_isTruth_125 hC
  refine lv_icmp_eq (tgt := 120) hx hb dX12_isTruth_95 (by decide) (fun c_16 => ?_) (fun c_16 => ?_)
  · have hf := it_t c_16 hf
    exact hj_120 _ _ _ hf hC (lv_sub hl [] rfl)
  · have hf := it_f c_16 hf
    refine lv_aload_n hx hb dX12_isTruth_98 rfl (lv_at hl 0 rfl) ?_
    refine gt_X12_88_m hx hb hta hown hK hC dX12_isTruth_99 ?_
    refine lv_iload_n hx hb dX12_isTruth_102 rfl (lv_at hl 1 rfl) ?_
    obtain ⟨hi_17, hf⟩ := ix_inv hf
    obtain ⟨v_17, e_17, hf⟩ := lt_inv hf
    refine al_M_26 hx hb hK hC hi_17 e_17 dX12_isTruth_103 ?_
    refine lv_bipush (v := 60) hx hb dX12_isTruth_104 (by decide) ?_
    refine lv_icmp_eq (tgt := 120) hx hb dX12_isTruth_106 (by decide) (fun c_18 => ?_) (fun c_18 => ?_)
    · have hf := it_t c_18 hf
      exact hj_120 _ _ _ hf hC (lv_sub hl [] rfl)
    · have hf := it_f c_18 hf
      refine lv_aload_n hx hb dX12_isTruth_109 rfl (lv_at hl 0 rfl) ?_
      refine gt_X12_88_m hx hb hta hown hK hC dX12_isTruth_110 ?_
      refine lv_iload_n hx hb dX12_isTruth_113 rfl (lv_at hl 1 rfl) ?_
      obtain ⟨hi_19, hf⟩ := ix_inv hf
      obtain ⟨v_19, e_19, hf⟩ := lt_inv hf
      refine al_M_26 hx hb hK hC hi_19 e_19 dX12_isTruth_114 ?_
      refine lv_bipush (v := 61) hx hb dX12_isTruth_115 (by decide) ?_
      refine lv_icmp_ne (tgt := 124) hx hb dX12_isTruth_117 (by decide) (fun c_20 => ?_) (fun c_20 => ?_)
      · have hf := it_f c_20 hf
        refine lv_iconst (v := 0) hx hb dX12_isTruth_124 (by decide) ?_
        exact hret _ _ _ _ _ _ (Option.some.inj hf) rfl rfl dX12_isTruth_125 hC
      · have hf := it_t c_20 hf
        exact hj_120 _ _ _ hf hC (lv_sub hl [] rfl)

set_option maxHeartbeats 8000000 in
set_option maxRecDepth 100000 in
theorem r_X12_isLess {D : va_G} {y : Nat → ClassId} {o : Nat → Nat} {ad av : Nat → Nat} {x1 : Int32} {σ : Sto} {σ2 : Sto} {v : Int32} (hf : f_X12_isLess x1 σ = some (v, σ2)) (l : Launch) (sz : Nat) : Met l yX12_isLess (Cond.code yX12_isLess cX12_isLess 4 (some .boolean) :: ALW) { frames := 1, cells := 0, slots := 0, locals := 21 } (va_Pc [.ref (o 0), .int x1] (PZ D y ad av (WM y o σ) sz)) (QZi D (WM y o σ) v (WM y o σ2) sz) 0 0 (va_A (WM y o σ) sz) := by
  refine met_i (by decide) (Nat.le_of_ble_eq_true rfl) ?_
  intro p e R s m args below meth c Q A ls hx hb hml hta hown hRc hRs hRf hRl hN hK hV hA hret hC hl
  have hl : lv_has ls 4 [(0, .ref (o 0)), (1, .int x1)] := hl
  unfold f_X12_isLess at hf
  refine lv_aload_n hx hb dX12_isLess_0 rfl (lv_at hl 0 rfl) ?_
  refine gt_X12_97_m hx hb hta hown hK hC dX12_isLess_1 ?_
  refine lv_iload_n hx hb dX12_isLess_4 rfl (lv_at hl 1 rfl) ?_
  obtain ⟨hi_1, hf⟩ := ix_inv hf
  obtain ⟨v_1, e_1, hf⟩ := lt_inv hf
  refine al_M_29 hx hb hK hC hi_1 e_1 dX12_isLess_5 ?_
  refine lv_iconst (v := 2) hx hb dX12_isLess_6 (by decide) ?_
  refine lv_icmp_gt (tgt := 23) hx hb dX12_isLess_7 (by decide) (fun c_2 => ?_) (fun c_2 => ?_)
  · have hf := it_t c_2 hf
    refine lv_iconst (v := 0) hx hb dX12_isLess_23 (by decide) ?_
    exact hret _ _ _ _ _ _ (rv_inv hf).1 (congrArg (WM y o) (rv_inv hf).2) rfl dX12_isLess_24 hC
  · have hf := it_f c_2 hf
    refine lv_aload_n hx hb dX12_isLess_10 rfl (lv_at hl 0 rfl) ?_
    refine lv_aload_n hx hb dX12_isLess_11 rfl (lv_at hl 0 rfl) ?_
    refine gt_X12_103_m hx hb hta hown hK hC dX12_isLess_12 ?_
    refine lv_iload_n hx hb dX12_isLess_15 rfl (lv_at hl 1 rfl) ?_
    obtain ⟨hi_3, hf⟩ := ix_inv hf
    obtain ⟨v_3, e_3, hf⟩ := lt_inv hf
    refine al_M_31 hx hb hK hC hi_3 e_3 dX12_isLess_16 ?_
    obtain ⟨v_4, hc_4, hf⟩ := calp_inv hf
    refine cc_Vi (r_X12_isTruth (D := D) (y := y) (o := o) (ad := ad) (av := av) hc_4 l) hx hb hml hta hown hK hN hV hA hC hRc hRs (by omega) (by omega) wq_1249 (q := 0) (ci := 12) rfl rfl wq_1250 wq_1251 wq_1012 wq_1247 hd_X12_isTruth (As := [.int v_3]) (rest := []) rfl rfl hl.1 rfl dX12_isLess_17 (fun H locs hC => ?_)
    refine lv_if_eq (tgt := 25) hx hb dX12_isLess_20 (by decide) (fun c_5 => ?_) (fun c_5 => ?_)
    · have hf := it_t c_5 hf
      refine lv_aload_n hx hb dX12_isLess_25 rfl (lv_at hl 0 rfl) ?_
      refine gt_X12_97_m hx hb hta hown hK hC dX12_isLess_26 ?_
      refine lv_iload_n hx hb dX12_isLess_29 rfl (lv_at hl 1 rfl) ?_
      obtain ⟨hi_6, hf⟩ := ix_inv hf
      obtain ⟨v_6, e_6, hf⟩ := lt_inv hf
      refine al_M_29 hx hb hK hC hi_6 e_6 dX12_isLess_30 ?_
      refine lv_if_ne (tgt := 41) hx hb dX12_isLess_31 (by decide) (fun c_7 => ?_) (fun c_7 => ?_)
      · have hf := it_f c_7 hf
        refine lv_aload_n hx hb dX12_isLess_41 rfl (lv_at hl 0 rfl) ?_
        refine gt_X12_97_m hx hb hta hown hK hC dX12_isLess_42 ?_
        refine lv_iload_n hx hb dX12_isLess_45 rfl (lv_at hl 1 rfl) ?_
        obtain ⟨hi_13, hf⟩ := ix_inv hf
        obtain ⟨v_13, e_13, hf⟩ := lt_inv hf
        refine al_M_29 hx hb hK hC hi_13 e_13 dX12_isLess_46 ?_
        refine lv_iconst (v := 1) hx hb dX12_isLess_47 (by decide) ?_
        refine lv_icmp_ne (tgt := 58) hx hb dX12_isLess_48 (by decide) (fun c_14 => ?_) (fun c_14 => ?_)
        · have hf := it_f c_14 hf
          refine lv_aload_n hx hb dX12_isLess_58 rfl (lv_at hl 0 rfl) ?_
          refine gt_X12_121_m hx hb hta hown hK hC dX12_isLess_59 ?_
          refine lv_astore_n (lv' := [(2, .ref (o 37)), (0, .ref (o 0)), (1, .int x1)]) hx hb dX12_isLess_62 rfl hl (by decide) rfl (fun ls hl => ?_)
          refine lv_aload_n hx hb dX12_isLess_63 rfl (lv_at hl 0 rfl) ?_
          refine lv_aload_n hx hb dX12_isLess_64 rfl (lv_at hl 1 rfl) ?_
          refine gt_X12_100_m hx hb hta hown hK hC dX12_isLess_65 ?_
          refine lv_iload_n hx hb dX12_isLess_68 rfl (lv_at hl 2 rfl) ?_
          obtain ⟨hi_20, hf⟩ := ix_inv hf
          obtain ⟨v_20, e_20, hf⟩ := lt_inv hf
          refine al_M_30 hx hb hK hC hi_20 e_20 dX12_isLess_69 ?_
          obtain ⟨hi_21, hf⟩ := ix_inv hf
          obtain ⟨v_21, e_21, hf⟩ := lt_inv hf
          refine al_M_37 hx hb hK hC hi_21 e_21 dX12_isLess_70 ?_
          refine lv_istore_n (lv' := [(3, .int v_21), (2, .ref (o 37)), (0, .ref (o 0)), (1, .int x1)]) hx hb dX12_isLess_71 rfl hl (by decide) rfl (fun ls hl => ?_)
          refine lv_aload_n hx hb dX12_isLess_72 rfl (lv_at hl 1 rfl) ?_
          refine lv_aload_n hx hb dX12_isLess_73 rfl (lv_at hl 2 rfl) ?_
          refine gt_X12_100_m hx hb hta hown hK hC dX12_isLess_74 ?_
          refine lv_iload_n hx hb dX12_isLess_77 rfl (lv_at hl 3 rfl) ?_
          obtain ⟨hi_22, hf⟩ := ix_inv hf
          obtain ⟨v_22, e_22, hf⟩ := lt_inv hf
          refine al_M_30 hx hb hK hC hi_22 e_22 dX12_isLess_78 ?_
          refine lv_iconst (v := 0) hx hb dX12_isLess_79 (by decide) ?_
          obtain ⟨hi_23, hf⟩ := ix_inv hf
          obtain ⟨s_23, e_23, hf⟩ := lt_inv hf
          refine as_M_37 hx hb hK hC hi_23 (Or.inl rfl) e_23 dX12_isLess_80 (fun H locs hC => ?_)
          refine lv_iload_n hx hb dX12_isLess_81 rfl (lv_at hl 0 rfl) ?_
          obtain ⟨hb_24, hf⟩ := bz_inv hf
          exact hret _ _ _ _ _ _ (rv_inv hf).1 (congrArg (WM y o) (rv_inv hf).2) (bz_nar hb_24) dX12_isLess_82 hC
        · have hf := it_t c_14 hf
          refine lv_aload_n hx hb dX12_isLess_51 rfl (lv_at hl 0 rfl) ?_
          refine gt_X12_118_m hx hb hta hown hK hC dX12_isLess_52 ?_
          refine lv_goto (tgt := 62) hx hb dX12_isLess_55 (by decide) ?_
          refine lv_astore_n (lv' := [(2, .ref (o 36)), (0, .ref (o 0)), (1, .int x1)]) hx hb dX12_isLess_62 rfl hl (by decide) rfl (fun ls hl => ?_)
          refine lv_aload_n hx hb dX12_isLess_63 rfl (lv_at hl 0 rfl) ?_
          refine lv_aload_n hx hb dX12_isLess_64 rfl (lv_at hl 1 rfl) ?_
          refine gt_X12_100_m hx hb hta hown hK hC dX12_isLess_65 ?_
          refine lv_iload_n hx hb dX12_isLess_68 rfl (lv_at hl 2 rfl) ?_
          obtain ⟨hi_15, hf⟩ := ix_inv hf
          obtain ⟨v_15, e_15, hf⟩ := lt_inv hf
          refine al_M_30 hx hb hK hC hi_15 e_15 dX12_isLess_69 ?_
          obtain ⟨hi_16, hf⟩ := ix_inv hf
          obtain ⟨v_16, e_16, hf⟩ := lt_inv hf
          refine al_M_36 hx hb hK hC hi_16 e_16 dX12_isLess_70 ?_
          refine lv_istore_n (lv' := [(3, .int v_16), (2, .ref (o 36)), (0, .ref (o 0)), (1, .int x1)]) hx hb dX12_isLess_71 rfl hl (by decide) rfl (fun ls hl => ?_)
          refine lv_aload_n hx hb dX12_isLess_72 rfl (lv_at hl 1 rfl) ?_
          refine lv_aload_n hx hb dX12_isLess_73 rfl (lv_at hl 2 rfl) ?_
          refine gt_X12_100_m hx hb hta hown hK hC dX12_isLess_74 ?_
          refine lv_iload_n hx hb dX12_isLess_77 rfl (lv_at hl 3 rfl) ?_
          obtain ⟨hi_17, hf⟩ := ix_inv hf
          obtain ⟨v_17, e_17, hf⟩ := lt_inv hf
          refine al_M_30 hx hb hK hC hi_17 e_17 dX12_isLess_78 ?_
          refine lv_iconst (v := 0) hx hb dX12_isLess_79 (by decide) ?_
          obtain ⟨hi_18, hf⟩ := ix_inv hf
          obtain ⟨s_18, e_18, hf⟩ := lt_inv hf
          refine as_M_36 hx hb hK hC hi_18 (Or.inl rfl) e_18 dX12_isLess_80 (fun H locs hC => ?_)
          refine lv_iload_n hx hb dX12_isLess_81 rfl (lv_at hl 0 rfl) ?_
          obtain ⟨hb_19, hf⟩ := bz_inv hf
          exact hret _ _ _ _ _ _ (rv_inv hf).1 (congrArg (WM y o) (rv_inv hf).2) (bz_nar hb_19) dX12_isLess_82 hC
      · have hf := it_t c_7 hf
        refine lv_aload_n hx hb dX12_isLess_34 rfl (lv_at hl 0 rfl) ?_
        refine gt_X12_115_m hx hb hta hown hK hC dX12_isLess_35 ?_
        refine lv_goto (tgt := 62) hx hb dX12_isLess_38 (by decide) ?_
        refine lv_astore_n (lv' := [(2, .ref (o 35)), (0, .ref (o 0)), (1, .int x1)]) hx hb dX12_isLess_62 rfl hl (by decide) rfl (fun ls hl => ?_)
        refine lv_aload_n hx hb dX12_isLess_63 rfl (lv_at hl 0 rfl) ?_
        refine lv_aload_n hx hb dX12_isLess_64 rfl (lv_at hl 1 rfl) ?_
        refine gt_X12_100_m hx hb hta hown hK hC dX12_isLess_65 ?_
        refine lv_iload_n hx hb dX12_isLess_68 rfl (lv_at hl 2 rfl) ?_
        obtain ⟨hi_8, hf⟩ := ix_inv hf
        obtain ⟨v_8, e_8, hf⟩ := lt_inv hf
        refine al_M_30 hx hb hK hC hi_8 e_8 dX12_isLess_69 ?_
        obtain ⟨hi_9, hf⟩ := ix_inv hf
        obtain ⟨v_9, e_9, hf⟩ := lt_inv hf
        refine al_M_35 hx hb hK hC hi_9 e_9 dX12_isLess_70 ?_
        refine lv_istore_n (lv' := [(3, .int v_9), (2, .ref (o 35)), (0, .ref (o 0)), (1, .int x1)]) hx hb dX12_isLess_71 rfl hl (by decide) rfl (fun ls hl => ?_)
        refine lv_aload_n hx hb dX12_isLess_72 rfl (lv_at hl 1 rfl) ?_
        refine lv_aload_n hx hb dX12_isLess_73 rfl (lv_at hl 2 rfl) ?_
        refine gt_X12_100_m hx hb hta hown hK hC dX12_isLess_74 ?_
        refine lv_iload_n hx hb dX12_isLess_77 rfl (lv_at hl 3 rfl) ?_
        obtain ⟨hi_10, hf⟩ := ix_inv hf
        obtain ⟨v_10, e_10, hf⟩ := lt_inv hf
        refine al_M_30 hx hb hK hC hi_10 e_10 dX12_isLess_78 ?_
        refine lv_iconst (v := 0) hx hb dX12_isLess_79 (by decide) ?_
        obtain ⟨hi_11, hf⟩ := ix_inv hf
        obtain ⟨s_11, e_11, hf⟩ := lt_inv hf
        refine as_M_35 hx hb hK hC hi_11 (Or.inl rfl) e_11 dX12_isLess_80 (fun H locs hC => ?_)
        refine lv_iload_n hx hb dX12_isLess_81 rfl (lv_at hl 0 rfl) ?_
        obtain ⟨hb_12, hf⟩ := bz_inv hf
        exact hret _ _ _ _ _ _ (rv_inv hf).1 (congrArg (WM y o) (rv_inv hf).2) (bz_nar hb_12) dX12_isLess_82 hC
    · have hf := it_f c_5 hf
      refine lv_iconst (v := 0) hx hb dX12_isLess_23 (by decide) ?_
      exact hret _ _ _ _ _ _ (rv_inv hf).1 (congrArg (WM y o) (rv_inv hf).2) rfl dX12_isLess_24 hC

set_option maxHeartbeats 8000000 in
set_option maxRecDepth 100000 in
theorem r_X12_laysTypes {D : va_G} {y : Nat → ClassId} {o : Nat → Nat} {ad av : Nat → Nat} {σ : Sto} {σ2 : Sto} (hf : f_X12_laysTypes σ = some σ2) (l : Launch) (sz : Nat) : Met l yX12_laysTypes (Cond.code yX12_laysTypes cX12_laysTypes 3 none :: ALW) { frames := 2, cells := 0, slots := 0, locals := 44 } (va_Pc [.ref (o 0)] (PZ D y ad av (WM y o σ) sz)) (QZv D (WM y o σ) (WM y o σ2) sz) 0 0 (va_A (WM y o σ) sz) := by
  refine met_v (by decide) (Nat.le_of_ble_eq_true rfl) ?_
  intro p e R s m args below meth c Q A ls hx hb hml hta hown hRc hRs hRf hRl hN hK hV hA hret hC hl
  have hl : lv_has ls 3 [(0, .ref (o 0))] := hl
  unfold f_X12_laysTypes at hf
  refine lv_iconst (v := 0) hx hb dX12_laysTypes_0 (by decide) ?_
  refine lv_istore_n (lv' := [(1, .int 0), (0, .ref (o 0))]) hx hb dX12_laysTypes_1 rfl hl (by decide) rfl (fun ls hl => ?_)
  refine itr_inv2 (P := fun (x1_1 : Int32) (s_1 : Sto) => ∀ (H : Heap) (locs : List Loc) (ls : Array Slot), CZ D A s H locs (WM y o s_1) → lv_has ls 3 [(0, .ref (o 0)), (1, .int x1_1)] → W p l e R s m args below meth c H locs 0 0 Q (F0 m 2 ls [])) hf ?_ _ _ _ hC (lv_sub hl [1, 0] rfl)
  intro a_2 x1_1 s_1 ha_2 hf H locs ls hC hl
  refine lv_iload_n hx hb dX12_laysTypes_2 rfl (lv_at hl 1 rfl) ?_
  refine lv_bipush (v := 6) hx hb dX12_laysTypes_3 (by decide) ?_
  refine lv_icmp_ge (tgt := 30) hx hb dX12_laysTypes_5 (by decide) (fun c_2 => ?_) (fun c_2 => ?_)
  · have hf := it_t c_2 hf
    refine lv_iconst (v := 0) hx hb dX12_laysTypes_30 (by decide) ?_
    refine lv_istore_n (lv' := [(1, .int 0), (0, .ref (o 0))]) hx hb dX12_laysTypes_31 rfl hl (by decide) rfl (fun ls hl => ?_)
    refine itr_inv2 (P := fun (x1_3 : Int32) (s_3 : Sto) => ∀ (H : Heap) (locs : List Loc) (ls : Array Slot), CZ D A s H locs (WM y o s_3) → lv_has ls 3 [(0, .ref (o 0)), (1, .int x1_3)] → W p l e R s m args below meth c H locs 0 0 Q (F0 m 32 ls [])) hf ?_ _ _ _ hC (lv_sub hl [1, 0] rfl)
    intro a_32 x1_3 s_3 ha_32 hf H locs ls hC hl
    refine lv_iload_n hx hb dX12_laysTypes_32 rfl (lv_at hl 1 rfl) ?_
    refine lv_bipush (v := 8) hx hb dX12_laysTypes_33 (by decide) ?_
    refine lv_icmp_ge (tgt := 51) hx hb dX12_laysTypes_35 (by decide) (fun c_4 => ?_) (fun c_4 => ?_)
    · have hf := it_t c_4 hf
      refine lv_iconst (v := 0) hx hb dX12_laysTypes_51 (by decide) ?_
      refine lv_istore_n (lv' := [(1, .int 0), (0, .ref (o 0))]) hx hb dX12_laysTypes_52 rfl hl (by decide) rfl (fun ls hl => ?_)
      refine itr_inv2 (P := fun (x1_5 : Int32) (s_5 : Sto) => ∀ (H : Heap) (locs : List Loc) (ls : Array Slot), CZ D A s H locs (WM y o s_5) → lv_has ls 3 [(0, .ref (o 0)), (1, .int x1_5)] → W p l e R s m args below meth c H locs 0 0 Q (F0 m 53 ls [])) hf ?_ _ _ _ hC (lv_sub hl [1, 0] rfl)
      intro a_53 x1_5 s_5 ha_53 hf H locs ls hC hl
      refine lv_iload_n hx hb dX12_laysTypes_53 rfl (lv_at hl 1 rfl) ?_
      refine lv_aload_n hx hb dX12_laysTypes_54 rfl (lv_at hl 0 rfl) ?_
      refine gt_X12_410_m hx hb hta hown hK hC dX12_laysTypes_55 ?_
      refine lv_icmp_ge (tgt := 74) hx hb dX12_laysTypes_58 (by decide) (fun c_6 => ?_) (fun c_6 => ?_)
      · have hf := it_t c_6 hf
        refine lv_iconst (v := 0) hx hb dX12_laysTypes_74 (by decide) ?_
        refine lv_istore_n (lv' := [(1, .int 0), (0, .ref (o 0))]) hx hb dX12_laysTypes_75 rfl hl (by decide) rfl (fun ls hl => ?_)
        refine itr_inv2 (P := fun (x1_7 : Int32) (s_7 : Sto) => ∀ (H : Heap) (locs : List Loc) (ls : Array Slot), CZ D A s H locs (WM y o s_7) → lv_has ls 3 [(0, .ref (o 0)), (1, .int x1_7)] → W p l e R s m args below meth c H locs 0 0 Q (F0 m 76 ls [])) hf ?_ _ _ _ hC (lv_sub hl [1, 0] rfl)
        intro a_76 x1_7 s_7 ha_76 hf H locs ls hC hl
        refine lv_iload_n hx hb dX12_laysTypes_76 rfl (lv_at hl 1 rfl) ?_
        refine lv_aload_n hx hb dX12_laysTypes_77 rfl (lv_at hl 0 rfl) ?_
        refine gt_X12_327_m hx hb hta hown hK hC dX12_laysTypes_78 ?_
        refine lv_icmp_ge (tgt := 106) hx hb dX12_laysTypes_81 (by decide) (fun c_8 => ?_) (fun c_8 => ?_)
        · have hf := it_t c_8 hf
          refine lv_iconst (v := 1) hx hb dX12_laysTypes_106 (by decide) ?_
          refine lv_istore_n (lv' := [(1, .int 1), (0, .ref (o 0))]) hx hb dX12_laysTypes_107 rfl hl (by decide) rfl (fun ls hl => ?_)
          refine itr_inv2 (P := fun (x1_9 : Int32) (s_9 : Sto) => ∀ (H : Heap) (locs : List Loc) (ls : Array Slot), CZ D A s H locs (WM y o s_9) → lv_has ls 3 [(0, .ref (o 0)), (1, .int x1_9)] → W p l e R s m args below meth c H locs 0 0 Q (F0 m 108 ls [])) hf ?_ _ _ _ hC (lv_sub hl [1, 0] rfl)
          intro a_108 x1_9 s_9 ha_108 hf H locs ls hC hl
          refine lv_iload_n hx hb dX12_laysTypes_108 rfl (lv_at hl 1 rfl) ?_
          refine lv_if_eq (tgt := 151) hx hb dX12_laysTypes_109 (by decide) (fun c_10 => ?_) (fun c_10 => ?_)
          · have hf := it_t c_10 hf
            exact hret _ _ _ _ _ (congrArg (WM y o) (Option.some.inj hf)) dX12_laysTypes_151 hC
          · have hf := it_f c_10 hf
            refine lv_iconst (v := 0) hx hb dX12_laysTypes_112 (by decide) ?_
            refine lv_istore_n (lv' := [(1, .int 0), (0, .ref (o 0))]) hx hb dX12_laysTypes_113 rfl hl (by decide) rfl (fun ls hl => ?_)
            refine lv_iconst (v := 0) hx hb dX12_laysTypes_114 (by decide) ?_
            refine lv_istore_n (lv' := [(2, .int 0), (1, .int 0), (0, .ref (o 0))]) hx hb dX12_laysTypes_115 rfl hl (by decide) rfl (fun ls hl => ?_)
            refine itr_inv3 (P := fun (x1_11 : Int32) (x2_11 : Int32) (s_11 : Sto) => ∀ (H : Heap) (locs : List Loc) (ls : Array Slot), CZ D A s H locs (WM y o s_11) → lv_has ls 3 [(0, .ref (o 0)), (1, .int x1_11), (2, .int x2_11)] → W p l e R s m args below meth c H locs 0 0 Q (F0 m 116 ls [])) hf ?_ _ _ _ hC (lv_sub hl [2, 1, 0] rfl)
            intro a_116 x1_11 x2_11 s_11 ha_116 hf H locs ls hC hl
            refine lv_iload_n hx hb dX12_laysTypes_116 rfl (lv_at hl 2 rfl) ?_
            refine lv_aload_n hx hb dX12_laysTypes_117 rfl (lv_at hl 0 rfl) ?_
            refine gt_X12_407_m hx hb hta hown hK hC dX12_laysTypes_118 ?_
            refine lv_icmp_ge (tgt := 148) hx hb dX12_laysTypes_121 (by decide) (fun c_12 => ?_) (fun c_12 => ?_)
            · have hf := it_t c_12 hf
              refine lv_goto (tgt := 108) hx hb dX12_laysTypes_148 (by decide) ?_
              exact ha_108 _ _ hf _ _ _ hC (lv_sub hl [0, 1] rfl)
            · have hf := it_f c_12 hf
              refine lv_aload_n hx hb dX12_laysTypes_124 rfl (lv_at hl 0 rfl) ?_
              refine lv_iload_n hx hb dX12_laysTypes_125 rfl (lv_at hl 2 rfl) ?_
              obtain ⟨v_13, s_13, hc_13, hf⟩ := calv_inv hf
              refine cc_Vi (r_X12_isLess (D := D) (y := y) (o := o) (ad := ad) (av := av) hc_13 l) hx hb hml hta hown hK hN hV hA hC hRc hRs (by omega) (by omega) wq_1253 (q := 0) (ci := 12) rfl rfl wq_1254 wq_1255 wq_1012 wq_1248 hd_X12_isLess (As := [.int x2_11]) (rest := []) rfl rfl hl.1 rfl dX12_laysTypes_126 (fun H locs hC => ?_)
              obtain ⟨k_141, hk_141, hf⟩ := jn_inv1 hf
              have hj_141 : ∀ (t0_14 : Int32) (H : Heap) (locs : List Loc) (ls : Array Slot), k_141 t0_14 = some σ2 → CZ D A s H locs (WM y o s_13) → lv_has ls 3 [(0, .ref (o 0)), (2, .int x2_11)] → W p l e R s m args below meth c H locs 0 0 Q (F0 m 141 ls [.int t0_14]) := by
                intro t0_14 H locs ls hf hC hl
                have hf := hk_141 _ hf
                refine lv_istore_n (lv' := [(1, .int t0_14), (0, .ref (o 0)), (2, .int x2_11)]) hx hb dX12_laysTypes_141 rfl hl (by decide) rfl (fun ls hl => ?_)
                obtain ⟨x2_15, e_15, hf⟩ := lt_inv hf
                refine lv_iinc (v := x2_15) (lv' := [(2, .int x2_15), (1, .int t0_14), (0, .ref (o 0))]) hx hb dX12_laysTypes_142 hl (k := 2) rfl e_15.symm (by decide) rfl (fun ls hl => ?_)
                refine lv_goto (tgt := 116) hx hb dX12_laysTypes_145 (by decide) ?_
                exact ha_116 _ _ _ hf _ _ _ hC (lv_sub hl [2, 1, 0] rfl)
              obtain ⟨k_136, hk_136, hf⟩ := jn_inv0 hf
              have hj_136 : ∀  (H : Heap) (locs : List Loc) (ls : Array Slot), k_136 = some σ2 → CZ D A s H locs (WM y o s_13) → lv_has ls 3 [(0, .ref (o 0)), (2, .int x2_11)] → W p l e R s m args below meth c H locs 0 0 Q (F0 m 136 ls []) := by
                intro H locs ls hf hC hl
                have hf := hk_136 hf
                refine lv_iconst (v := 1) hx hb dX12_laysTypes_136 (by decide) ?_
                refine lv_goto (tgt := 141) hx hb dX12_laysTypes_137 (by decide) ?_
                exact hj_141 _ _ _ _ hf hC hl
              refine lv_if_ne (tgt := 136) hx hb dX12_laysTypes_129 (by decide) (fun c_17 => ?_) (fun c_17 => ?_)
              · have hf := it_f c_17 hf
                exact hj_136 _ _ _ hf hC (lv_sub hl [0, 2] rfl)
              · have hf := it_t c_17 hf
                refine lv_iload_n hx hb dX12_laysTypes_132 rfl (lv_at hl 1 rfl) ?_
                refine lv_if_eq (tgt := 140) hx hb dX12_laysTypes_133 (by decide) (fun c_18 => ?_) (fun c_18 => ?_)
                · have hf := it_t c_18 hf
                  refine lv_iconst (v := 0) hx hb dX12_laysTypes_140 (by decide) ?_
                  exact hj_141 _ _ _ _ hf hC (lv_sub hl [0, 2] rfl)
                · have hf := it_f c_18 hf
                  exact hj_136 _ _ _ hf hC (lv_sub hl [0, 2] rfl)
        · have hf := it_f c_8 hf
          refine lv_aload_n hx hb dX12_laysTypes_84 rfl (lv_at hl 0 rfl) ?_
          refine gt_X12_65_m hx hb hta hown hK hC dX12_laysTypes_85 ?_
          refine lv_iload_n hx hb dX12_laysTypes_88 rfl (lv_at hl 1 rfl) ?_
          obtain ⟨hi_19, hf⟩ := ix_inv hf
          obtain ⟨v_19, e_19, hf⟩ := lt_inv hf
          refine al_M_19 hx hb hK hC hi_19 e_19 dX12_laysTypes_89 ?_
          obtain ⟨k_100, hk_100, hf⟩ := jn_inv1 hf
          have hj_100 : ∀ (s_20 : Sto) (H : Heap) (locs : List Loc) (ls : Array Slot), k_100 s_20 = some σ2 → CZ D A s H locs (WM y o s_20) → lv_has ls 3 [(0, .ref (o 0)), (1, .int x1_7)] → W p l e R s m args below meth c H locs 0 0 Q (F0 m 100 ls []) := by
            intro s_20 H locs ls hf hC hl
            have hf := hk_100 _ hf
            obtain ⟨x1_21, e_21, hf⟩ := lt_inv hf
            refine lv_iinc (v := x1_21) (lv' := [(1, .int x1_21), (0, .ref (o 0))]) hx hb dX12_laysTypes_100 hl (k := 1) rfl e_21.symm (by decide) rfl (fun ls hl => ?_)
            refine lv_goto (tgt := 76) hx hb dX12_laysTypes_103 (by decide) ?_
            exact ha_76 _ _ hf _ _ _ hC (lv_sub hl [1, 0] rfl)
          refine lv_if_eq (tgt := 100) hx hb dX12_laysTypes_90 (by decide) (fun c_22 => ?_) (fun c_22 => ?_)
          · have hf := it_t c_22 hf
            exact hj_100 _ _ _ _ hf hC hl
          · have hf := it_f c_22 hf
            refine lv_aload_n hx hb dX12_laysTypes_93 rfl (lv_at hl 0 rfl) ?_
            refine gt_X12_118_m hx hb hta hown hK hC dX12_laysTypes_94 ?_
            refine lv_iconst (v := 0) hx hb dX12_laysTypes_97 (by decide) ?_
            refine lv_iconst (v := 0) hx hb dX12_laysTypes_98 (by decide) ?_
            obtain ⟨hi_23, hf⟩ := ix_inv hf
            obtain ⟨s_23, e_23, hf⟩ := lt_inv hf
            refine as_M_36 hx hb hK hC hi_23 (Or.inl rfl) e_23 dX12_laysTypes_99 (fun H locs hC => ?_)
            exact hj_100 _ _ _ _ hf hC hl
      · have hf := it_f c_6 hf
        refine lv_aload_n hx hb dX12_laysTypes_61 rfl (lv_at hl 0 rfl) ?_
        refine gt_X12_121_m hx hb hta hown hK hC dX12_laysTypes_62 ?_
        refine lv_iload_n hx hb dX12_laysTypes_65 rfl (lv_at hl 1 rfl) ?_
        refine lv_iconst (v := 1) hx hb dX12_laysTypes_66 (by decide) ?_
        obtain ⟨hi_24, hf⟩ := ix_inv hf
        obtain ⟨s_24, e_24, hf⟩ := lt_inv hf
        refine as_M_37 hx hb hK hC hi_24 (Or.inr rfl) e_24 dX12_laysTypes_67 (fun H locs hC => ?_)
        obtain ⟨x1_25, e_25, hf⟩ := lt_inv hf
        refine lv_iinc (v := x1_25) (lv' := [(1, .int x1_25), (0, .ref (o 0))]) hx hb dX12_laysTypes_68 hl (k := 1) rfl e_25.symm (by decide) rfl (fun ls hl => ?_)
        refine lv_goto (tgt := 53) hx hb dX12_laysTypes_71 (by decide) ?_
        exact ha_53 _ _ hf _ _ _ hC (lv_sub hl [1, 0] rfl)
    · have hf := it_f c_4 hf
      refine lv_aload_n hx hb dX12_laysTypes_38 rfl (lv_at hl 0 rfl) ?_
      refine gt_X12_118_m hx hb hta hown hK hC dX12_laysTypes_39 ?_
      refine lv_iload_n hx hb dX12_laysTypes_42 rfl (lv_at hl 1 rfl) ?_
      refine lv_iconst (v := 1) hx hb dX12_laysTypes_43 (by decide) ?_
      obtain ⟨hi_26, hf⟩ := ix_inv hf
      obtain ⟨s_26, e_26, hf⟩ := lt_inv hf
      refine as_M_36 hx hb hK hC hi_26 (Or.inr rfl) e_26 dX12_laysTypes_44 (fun H locs hC => ?_)
      obtain ⟨x1_27, e_27, hf⟩ := lt_inv hf
      refine lv_iinc (v := x1_27) (lv' := [(1, .int x1_27), (0, .ref (o 0))]) hx hb dX12_laysTypes_45 hl (k := 1) rfl e_27.symm (by decide) rfl (fun ls hl => ?_)
      refine lv_goto (tgt := 32) hx hb dX12_laysTypes_48 (by decide) ?_
      exact ha_32 _ _ hf _ _ _ hC (lv_sub hl [1, 0] rfl)
  · have hf := it_f c_2 hf
    refine lv_aload_n hx hb dX12_laysTypes_8 rfl (lv_at hl 0 rfl) ?_
    refine gt_X12_115_m hx hb hta hown hK hC dX12_laysTypes_9 ?_
    refine lv_iload_n hx hb dX12_laysTypes_12 rfl (lv_at hl 1 rfl) ?_
    refine lv_iload_n hx hb dX12_laysTypes_13 rfl (lv_at hl 1 rfl) ?_
    refine lv_iconst (v := 1) hx hb dX12_laysTypes_14 (by decide) ?_
    obtain ⟨k_23, hk_23, hf⟩ := jn_inv1 hf
    have hj_23 : ∀ (t0_28 : Int32) (H : Heap) (locs : List Loc) (ls : Array Slot), k_23 t0_28 = some σ2 → CZ D A s H locs (WM y o s_1) → lv_has ls 3 [(0, .ref (o 0)), (1, .int x1_1)] → W p l e R s m args below meth c H locs 0 0 Q (F0 m 23 ls [.int t0_28, .int x1_1, .ref (o 35)]) := by
      intro t0_28 H locs ls hf hC hl
      have hf := hk_23 _ hf
      obtain ⟨hb_30, hf⟩ := bz_inv hf
      obtain ⟨hi_29, hf⟩ := ix_inv hf
      obtain ⟨s_29, e_29, hf⟩ := lt_inv hf
      refine as_M_35 hx hb hK hC hi_29 hb_30 e_29 dX12_laysTypes_23 (fun H locs hC => ?_)
      obtain ⟨x1_31, e_31, hf⟩ := lt_inv hf
      refine lv_iinc (v := x1_31) (lv' := [(1, .int x1_31), (0, .ref (o 0))]) hx hb dX12_laysTypes_24 hl (k := 1) rfl e_31.symm (by decide) rfl (fun ls hl => ?_)
      refine lv_goto (tgt := 2) hx hb dX12_laysTypes_27 (by decide) ?_
      exact ha_2 _ _ hf _ _ _ hC (lv_sub hl [1, 0] rfl)
    refine lv_icmp_le (tgt := 22) hx hb dX12_laysTypes_15 (by decide) (fun c_32 => ?_) (fun c_32 => ?_)
    · have hf := it_t c_32 hf
      refine lv_iconst (v := 0) hx hb dX12_laysTypes_22 (by decide) ?_
      exact hj_23 _ _ _ _ hf hC hl
    · have hf := it_f c_32 hf
      refine lv_iconst (v := 1) hx hb dX12_laysTypes_18 (by decide) ?_
      refine lv_goto (tgt := 23) hx hb dX12_laysTypes_19 (by decide) ?_
      exact hj_23 _ _ _ _ hf hC hl

set_option maxHeartbeats 8000000 in
set_option maxRecDepth 100000 in
theorem r_X12_behind {D : va_G} {y : Nat → ClassId} {o : Nat → Nat} {ad av : Nat → Nat} {x1 : Int32} {σ : Sto} {v : Int32} (hf : f_X12_behind x1 σ = some v) (l : Launch) (sz : Nat) : Met l yX12_behind (Cond.code yX12_behind cX12_behind 4 (some .int) :: ALW) { frames := 0, cells := 0, slots := 0, locals := 0 } (va_Pc [.ref (o 0), .int x1] (PZ D y ad av (WM y o σ) sz)) (QZi D (WM y o σ) v (WM y o σ) sz) 0 0 (va_A (WM y o σ) sz) := by
  refine met_i (by decide) (Nat.le_of_ble_eq_true rfl) ?_
  intro p e R s m args below meth c Q A ls hx hb hml hta hown hRc hRs hRf hRl hN hK hV hA hret hC hl
  have hl : lv_has ls 4 [(0, .ref (o 0)), (1, .int x1)] := hl
  unfold f_X12_behind at hf
  refine lv_iconst (v := 0) hx hb dX12_behind_0 (by decide) ?_
  refine lv_istore_n (lv' := [(2, .int 0), (0, .ref (o 0)), (1, .int x1)]) hx hb dX12_behind_1 rfl hl (by decide) rfl (fun ls hl => ?_)
  refine lv_iconst (v := 0) hx hb dX12_behind_2 (by decide) ?_
  refine lv_istore_n (lv' := [(3, .int 0), (2, .int 0), (0, .ref (o 0)), (1, .int x1)]) hx hb dX12_behind_3 rfl hl (by decide) rfl (fun ls hl => ?_)
  refine itr_inv2 (P := fun (x2_1 : Int32) (x3_1 : Int32) => ∀ (H : Heap) (locs : List Loc) (ls : Array Slot), CZ D A s H locs (WM y o σ) → lv_has ls 4 [(0, .ref (o 0)), (1, .int x1), (2, .int x2_1), (3, .int x3_1)] → W p l e R s m args below meth c H locs 0 0 Q (F0 m 4 ls [])) hf ?_ _ _ _ hC (lv_sub hl [2, 3, 1, 0] rfl)
  intro a_4 x2_1 x3_1 ha_4 hf H locs ls hC hl
  refine lv_iload_n hx hb dX12_behind_4 rfl (lv_at hl 3 rfl) ?_
  refine lv_aload_n hx hb dX12_behind_5 rfl (lv_at hl 0 rfl) ?_
  refine gt_X12_327_m hx hb hta hown hK hC dX12_behind_6 ?_
  refine lv_icmp_ge (tgt := 46) hx hb dX12_behind_9 (by decide) (fun c_2 => ?_) (fun c_2 => ?_)
  · have hf := it_t c_2 hf
    refine lv_iload_n hx hb dX12_behind_46 rfl (lv_at hl 2 rfl) ?_
    exact hret _ _ _ _ _ _ (Option.some.inj hf) rfl rfl dX12_behind_47 hC
  · have hf := it_f c_2 hf
    refine lv_iload_n hx hb dX12_behind_12 rfl (lv_at hl 2 rfl) ?_
    refine lv_aload_n hx hb dX12_behind_13 rfl (lv_at hl 0 rfl) ?_
    refine gt_X12_59_m hx hb hta hown hK hC dX12_behind_14 ?_
    refine lv_iload_n hx hb dX12_behind_17 rfl (lv_at hl 3 rfl) ?_
    obtain ⟨hi_3, hf⟩ := ix_inv hf
    obtain ⟨v_3, e_3, hf⟩ := lt_inv hf
    refine al_M_17 hx hb hK hC hi_3 e_3 dX12_behind_18 ?_
    refine lv_iload_n hx hb dX12_behind_19 rfl (lv_at hl 1 rfl) ?_
    obtain ⟨k_38, hk_38, hf⟩ := jn_inv1 hf
    have hj_38 : ∀ (t0_4 : Int32) (H : Heap) (locs : List Loc) (ls : Array Slot), k_38 t0_4 = some v → CZ D A s H locs (WM y o σ) → lv_has ls 4 [(0, .ref (o 0)), (1, .int x1), (3, .int x3_1)] → W p l e R s m args below meth c H locs 0 0 Q (F0 m 38 ls [.int t0_4, .int x2_1]) := by
      intro t0_4 H locs ls hf hC hl
      have hf := hk_38 _ hf
      refine lv_ior hx hb dX12_behind_38 ?_
      obtain ⟨x2_5, e_5, hf⟩ := lt_inv hf
      refine nmi e_5 ?_
      refine lv_istore_n (lv' := [(2, .int x2_5), (0, .ref (o 0)), (1, .int x1), (3, .int x3_1)]) hx hb dX12_behind_39 rfl hl (by decide) rfl (fun ls hl => ?_)
      obtain ⟨x3_6, e_6, hf⟩ := lt_inv hf
      refine lv_iinc (v := x3_6) (lv' := [(3, .int x3_6), (2, .int x2_5), (0, .ref (o 0)), (1, .int x1)]) hx hb dX12_behind_40 hl (k := 3) rfl e_6.symm (by decide) rfl (fun ls hl => ?_)
      refine lv_goto (tgt := 4) hx hb dX12_behind_43 (by decide) ?_
      exact ha_4 _ _ hf _ _ _ hC (lv_sub hl [2, 3, 1, 0] rfl)
    refine lv_icmp_ne (tgt := 37) hx hb dX12_behind_20 (by decide) (fun c_7 => ?_) (fun c_7 => ?_)
    · have hf := it_f c_7 hf
      refine lv_iconst (v := 0) hx hb dX12_behind_37 (by decide) ?_
      exact hj_38 _ _ _ _ hf hC (lv_sub hl [0, 1, 3] rfl)
    · have hf := it_t c_7 hf
      refine lv_aload_n hx hb dX12_behind_23 rfl (lv_at hl 0 rfl) ?_
      refine gt_X12_124_m hx hb hta hown hK hC dX12_behind_24 ?_
      refine lv_aload_n hx hb dX12_behind_27 rfl (lv_at hl 0 rfl) ?_
      refine gt_X12_62_m hx hb hta hown hK hC dX12_behind_28 ?_
      refine lv_iload_n hx hb dX12_behind_31 rfl (lv_at hl 3 rfl) ?_
      obtain ⟨hi_8, hf⟩ := ix_inv hf
      obtain ⟨v_8, e_8, hf⟩ := lt_inv hf
      refine al_M_18 hx hb hK hC hi_8 e_8 dX12_behind_32 ?_
      obtain ⟨hi_9, hf⟩ := ix_inv hf
      obtain ⟨v_9, e_9, hf⟩ := lt_inv hf
      refine al_M_38 hx hb hK hC hi_9 e_9 dX12_behind_33 ?_
      refine lv_goto (tgt := 38) hx hb dX12_behind_34 (by decide) ?_
      exact hj_38 _ _ _ _ hf hC (lv_sub hl [0, 1, 3] rfl)
