set_option maxHeartbeats 8000000 in
set_option maxRecDepth 100000 in
theorem r_X12_liveAhead {D : va_G} {y : Nat → ClassId} {o : Nat → Nat} {ad av : Nat → Nat} {x1 : Int32} {σ : Sto} {σ2 : Sto} {v : Int32} (hf : f_X12_liveAhead x1 σ = some (v, σ2)) (l : Launch) (sz : Nat) : Met l yX12_liveAhead (Cond.code yX12_liveAhead cX12_liveAhead 5 (some .int) :: ALW) { frames := 1, cells := 0, slots := 0, locals := 23 } (va_Pc [.ref (o 0), .int x1] (PZ D y ad av (WM y o σ) sz)) (QZi D (WM y o σ) v (WM y o σ2) sz) 0 0 (va_A (WM y o σ) sz) := by
  refine met_i (by decide) (Nat.le_of_ble_eq_true rfl) ?_
  intro p e R s m args below meth c Q A ls hx hb hml hta hown hRc hRs hRf hRl hN hK hV hA hret hC hl
  have hl : lv_has ls 5 [(0, .ref (o 0)), (1, .int x1)] := hl
  unfold f_X12_liveAhead at hf
  refine lv_aload_n hx hb dX12_liveAhead_0 rfl (lv_at hl 0 rfl) ?_
  refine gt_X12_56_m hx hb hta hown hK hC dX12_liveAhead_1 ?_
  refine lv_iload_n hx hb dX12_liveAhead_4 rfl (lv_at hl 1 rfl) ?_
  obtain ⟨hi_1, hf⟩ := ix_inv hf
  obtain ⟨v_1, e_1, hf⟩ := lt_inv hf
  refine al_M_16 hx hb hK hC hi_1 e_1 dX12_liveAhead_5 ?_
  refine lv_iconst (v := (-1)) hx hb dX12_liveAhead_6 (by decide) ?_
  obtain ⟨k_25, hk_25, hf⟩ := jn_inv1 hf
  have hj_25 : ∀ (t0_2 : Int32) (H : Heap) (locs : List Loc) (ls : Array Slot), k_25 t0_2 = some (v, σ2) → CZ D A s H locs (WM y o σ) → lv_has ls 5 [(0, .ref (o 0)), (1, .int x1)] → W p l e R s m args below meth c H locs 0 0 Q (F0 m 25 ls [.int t0_2]) := by
    intro t0_2 H locs ls hf hC hl
    have hf := hk_25 _ hf
    refine lv_istore_n (lv' := [(2, .int t0_2), (0, .ref (o 0)), (1, .int x1)]) hx hb dX12_liveAhead_25 rfl hl (by decide) rfl (fun ls hl => ?_)
    refine lv_aload_n hx hb dX12_liveAhead_26 rfl (lv_at hl 1 rfl) ?_
    refine lv_iload_n hx hb dX12_liveAhead_27 rfl (lv_at hl 2 rfl) ?_
    obtain ⟨v_3, hc_3, hf⟩ := calp_inv hf
    refine cc_Vi (r_X12_behind (D := D) (y := y) (o := o) (ad := ad) (av := av) hc_3 l) hx hb hml hta hown hK hN hV hA hC hRc hRs (by omega) (by omega) wq_1258 (q := 0) (ci := 12) rfl rfl wq_1259 wq_1260 wq_1012 wq_1256 hd_X12_behind (As := [.int x1]) (rest := []) rfl rfl hl.1 rfl dX12_liveAhead_28 (fun H locs hC => ?_)
    refine lv_istore_n (lv' := [(3, .int v_3), (2, .int t0_2), (0, .ref (o 0)), (1, .int x1)]) hx hb dX12_liveAhead_31 rfl hl (by decide) rfl (fun ls hl => ?_)
    refine lv_aload_n hx hb dX12_liveAhead_32 rfl (lv_at hl 2 rfl) ?_
    refine gt_X12_50_m hx hb hta hown hK hC dX12_liveAhead_33 ?_
    refine lv_iload_n hx hb dX12_liveAhead_36 rfl (lv_at hl 3 rfl) ?_
    obtain ⟨hi_4, hf⟩ := ix_inv hf
    obtain ⟨v_4, e_4, hf⟩ := lt_inv hf
    refine al_M_14 hx hb hK hC hi_4 e_4 dX12_liveAhead_37 ?_
    refine lv_istore (lv' := [(4, .int v_4), (3, .int v_3), (2, .int t0_2), (0, .ref (o 0)), (1, .int x1)]) hx hb dX12_liveAhead_38 hl (by decide) rfl (fun ls hl => ?_)
    refine itr_inv3 (P := fun (x3_5 : Int32) (x4_5 : Int32) (s_5 : Sto) => ∀ (H : Heap) (locs : List Loc) (ls : Array Slot), CZ D A s H locs (WM y o s_5) → lv_has ls 5 [(0, .ref (o 0)), (1, .int x1), (2, .int t0_2), (3, .int x3_5), (4, .int x4_5)] → W p l e R s m args below meth c H locs 0 0 Q (F0 m 40 ls [])) hf ?_ _ _ _ hC (lv_sub hl [3, 4, 2, 1, 0] rfl)
    intro a_40 x3_5 x4_5 s_5 ha_40 hf H locs ls hC hl
    refine lv_iload hx hb dX12_liveAhead_40 (lv_at hl 4 rfl) ?_
    refine lv_aload_n hx hb dX12_liveAhead_42 rfl (lv_at hl 0 rfl) ?_
    refine gt_X12_47_m hx hb hta hown hK hC dX12_liveAhead_43 ?_
    refine lv_iload_n hx hb dX12_liveAhead_46 rfl (lv_at hl 1 rfl) ?_
    obtain ⟨hi_6, hf⟩ := ix_inv hf
    obtain ⟨v_6, e_6, hf⟩ := lt_inv hf
    refine al_M_13 hx hb hK hC hi_6 e_6 dX12_liveAhead_47 ?_
    refine lv_icmp_lt (tgt := 135) hx hb dX12_liveAhead_48 (by decide) (fun c_7 => ?_) (fun c_7 => ?_)
    · have hf := it_t c_7 hf
      refine lv_iload_n hx hb dX12_liveAhead_135 rfl (lv_at hl 3 rfl) ?_
      refine lv_iload_n hx hb dX12_liveAhead_136 rfl (lv_at hl 2 rfl) ?_
      refine lv_ior hx hb dX12_liveAhead_137 ?_
      exact hret _ _ _ _ _ _ (rv_inv hf).1 (congrArg (WM y o) (rv_inv hf).2) rfl dX12_liveAhead_138 hC
    · have hf := it_f c_7 hf
      refine lv_aload_n hx hb dX12_liveAhead_51 rfl (lv_at hl 0 rfl) ?_
      refine gt_X12_23_m hx hb hta hown hK hC dX12_liveAhead_52 ?_
      refine lv_iload hx hb dX12_liveAhead_55 (lv_at hl 4 rfl) ?_
      obtain ⟨hi_8, hf⟩ := ix_inv hf
      obtain ⟨v_8, e_8, hf⟩ := lt_inv hf
      refine al_M_5 hx hb hK hC hi_8 e_8 dX12_liveAhead_57 ?_
      refine lv_bipush (v := 115) hx hb dX12_liveAhead_58 (by decide) ?_
      obtain ⟨k_105, hk_105, hf⟩ := jn_inv2 hf
      have hj_105 : ∀ (x3_9 : Int32) (s_9 : Sto) (H : Heap) (locs : List Loc) (ls : Array Slot), k_105 x3_9 s_9 = some (v, σ2) → CZ D A s H locs (WM y o s_9) → lv_has ls 5 [(0, .ref (o 0)), (1, .int x1), (2, .int t0_2), (3, .int x3_9), (4, .int x4_5)] → W p l e R s m args below meth c H locs 0 0 Q (F0 m 105 ls []) := by
        intro x3_9 s_9 H locs ls hf hC hl
        have hf := hk_105 _ _ hf
        refine lv_aload_n hx hb dX12_liveAhead_105 rfl (lv_at hl 0 rfl) ?_
        refine gt_X12_23_m hx hb hta hown hK hC dX12_liveAhead_106 ?_
        refine lv_iload hx hb dX12_liveAhead_109 (lv_at hl 4 rfl) ?_
        obtain ⟨hi_10, hf⟩ := ix_inv hf
        obtain ⟨v_10, e_10, hf⟩ := lt_inv hf
        refine al_M_5 hx hb hK hC hi_10 e_10 dX12_liveAhead_111 ?_
        refine lv_bipush (v := 108) hx hb dX12_liveAhead_112 (by decide) ?_
        obtain ⟨k_129, hk_129, hf⟩ := jn_inv1 hf
        have hj_129 : ∀ (x3_11 : Int32) (H : Heap) (locs : List Loc) (ls : Array Slot), k_129 x3_11 = some (v, σ2) → CZ D A s H locs (WM y o s_9) → lv_has ls 5 [(0, .ref (o 0)), (1, .int x1), (2, .int t0_2), (3, .int x3_11), (4, .int x4_5)] → W p l e R s m args below meth c H locs 0 0 Q (F0 m 129 ls []) := by
          intro x3_11 H locs ls hf hC hl
          have hf := hk_129 _ hf
          obtain ⟨x4_12, e_12, hf⟩ := lt_inv hf
          refine lv_iinc (v := x4_12) (lv' := [(4, .int x4_12), (0, .ref (o 0)), (1, .int x1), (2, .int t0_2), (3, .int x3_11)]) hx hb dX12_liveAhead_129 hl (k := 4) rfl e_12.symm (by decide) rfl (fun ls hl => ?_)
          refine lv_goto (tgt := 40) hx hb dX12_liveAhead_132 (by decide) ?_
          exact ha_40 _ _ _ hf _ _ _ hC (lv_sub hl [1, 2, 3, 4, 0] rfl)
        refine lv_icmp_ne (tgt := 129) hx hb dX12_liveAhead_114 (by decide) (fun c_13 => ?_) (fun c_13 => ?_)
        · have hf := it_f c_13 hf
          exact hj_129 _ _ _ _ hf hC hl
        · have hf := it_t c_13 hf
          refine lv_iload_n hx hb dX12_liveAhead_117 rfl (lv_at hl 3 rfl) ?_
          refine lv_iconst (v := 1) hx hb dX12_liveAhead_118 (by decide) ?_
          refine lv_aload_n hx hb dX12_liveAhead_119 rfl (lv_at hl 0 rfl) ?_
          refine gt_X12_26_m hx hb hta hown hK hC dX12_liveAhead_120 ?_
          refine lv_iload hx hb dX12_liveAhead_123 (lv_at hl 4 rfl) ?_
          obtain ⟨hi_14, hf⟩ := ix_inv hf
          obtain ⟨v_14, e_14, hf⟩ := lt_inv hf
          refine al_M_6 hx hb hK hC hi_14 e_14 dX12_liveAhead_125 ?_
          refine lv_ishl hx hb dX12_liveAhead_126 ?_
          refine lv_ior hx hb dX12_liveAhead_127 ?_
          obtain ⟨x3_15, e_15, hf⟩ := lt_inv hf
          refine nmi e_15 ?_
          refine lv_istore_n (lv' := [(3, .int x3_15), (0, .ref (o 0)), (1, .int x1), (2, .int t0_2), (4, .int x4_5)]) hx hb dX12_liveAhead_128 rfl hl (by decide) rfl (fun ls hl => ?_)
          exact hj_129 _ _ _ _ hf hC (lv_sub hl [1, 2, 3, 0, 4] rfl)
      refine lv_icmp_ne (tgt := 105) hx hb dX12_liveAhead_60 (by decide) (fun c_16 => ?_) (fun c_16 => ?_)
      · have hf := it_f c_16 hf
        exact hj_105 _ _ _ _ _ hf hC hl
      · have hf := it_t c_16 hf
        refine lv_aload_n hx hb dX12_liveAhead_63 rfl (lv_at hl 0 rfl) ?_
        refine gt_X12_130_m hx hb hta hown hK hC dX12_liveAhead_64 ?_
        refine lv_iload hx hb dX12_liveAhead_67 (lv_at hl 4 rfl) ?_
        refine lv_iload_n hx hb dX12_liveAhead_69 rfl (lv_at hl 3 rfl) ?_
        refine lv_aload_n hx hb dX12_liveAhead_70 rfl (lv_at hl 0 rfl) ?_
        refine gt_X12_26_m hx hb hta hown hK hC dX12_liveAhead_71 ?_
        refine lv_iload hx hb dX12_liveAhead_74 (lv_at hl 4 rfl) ?_
        obtain ⟨hi_17, hf⟩ := ix_inv hf
        obtain ⟨v_17, e_17, hf⟩ := lt_inv hf
        refine al_M_6 hx hb hK hC hi_17 e_17 dX12_liveAhead_76 ?_
        refine lv_ishr hx hb dX12_liveAhead_77 ?_
        refine lv_iconst (v := 1) hx hb dX12_liveAhead_78 (by decide) ?_
        refine lv_iand hx hb dX12_liveAhead_79 ?_
        obtain ⟨k_88, hk_88, hf⟩ := jn_inv1 hf
        have hj_88 : ∀ (t0_18 : Int32) (H : Heap) (locs : List Loc) (ls : Array Slot), k_88 t0_18 = some (v, σ2) → CZ D A s H locs (WM y o s_5) → lv_has ls 5 [(0, .ref (o 0)), (1, .int x1), (2, .int t0_2), (3, .int x3_5), (4, .int x4_5)] → W p l e R s m args below meth c H locs 0 0 Q (F0 m 88 ls [.int t0_18, .int x4_5, .ref (o 40)]) := by
          intro t0_18 H locs ls hf hC hl
          have hf := hk_88 _ hf
          obtain ⟨hb_20, hf⟩ := bz_inv hf
          obtain ⟨hi_19, hf⟩ := ix_inv hf
          obtain ⟨s_19, e_19, hf⟩ := lt_inv hf
          refine as_M_40 hx hb hK hC hi_19 hb_20 e_19 dX12_liveAhead_88 (fun H locs hC => ?_)
          refine lv_iload_n hx hb dX12_liveAhead_89 rfl (lv_at hl 3 rfl) ?_
          refine lv_iconst (v := 1) hx hb dX12_liveAhead_90 (by decide) ?_
          refine lv_aload_n hx hb dX12_liveAhead_91 rfl (lv_at hl 0 rfl) ?_
          refine gt_X12_26_m hx hb hta hown hK hC dX12_liveAhead_92 ?_
          refine lv_iload hx hb dX12_liveAhead_95 (lv_at hl 4 rfl) ?_
          obtain ⟨hi_21, hf⟩ := ix_inv hf
          obtain ⟨v_21, e_21, hf⟩ := lt_inv hf
          refine al_M_6 hx hb hK hC hi_21 e_21 dX12_liveAhead_97 ?_
          refine lv_ishl hx hb dX12_liveAhead_98 ?_
          refine lv_iconst (v := (-1)) hx hb dX12_liveAhead_99 (by decide) ?_
          refine lv_ixor hx hb dX12_liveAhead_100 ?_
          refine lv_iand hx hb dX12_liveAhead_101 ?_
          refine lv_iload_n hx hb dX12_liveAhead_102 rfl (lv_at hl 2 rfl) ?_
          refine lv_ior hx hb dX12_liveAhead_103 ?_
          obtain ⟨x3_22, e_22, hf⟩ := lt_inv hf
          refine nmi e_22 ?_
          refine lv_istore_n (lv' := [(3, .int x3_22), (0, .ref (o 0)), (1, .int x1), (2, .int t0_2), (4, .int x4_5)]) hx hb dX12_liveAhead_104 rfl hl (by decide) rfl (fun ls hl => ?_)
          exact hj_105 _ _ _ _ _ hf hC (lv_sub hl [1, 2, 3, 0, 4] rfl)
        refine lv_if_ne (tgt := 87) hx hb dX12_liveAhead_80 (by decide) (fun c_23 => ?_) (fun c_23 => ?_)
        · have hf := it_f c_23 hf
          refine lv_iconst (v := 0) hx hb dX12_liveAhead_87 (by decide) ?_
          exact hj_88 _ _ _ _ hf hC hl
        · have hf := it_t c_23 hf
          refine lv_iconst (v := 1) hx hb dX12_liveAhead_83 (by decide) ?_
          refine lv_goto (tgt := 88) hx hb dX12_liveAhead_84 (by decide) ?_
          exact hj_88 _ _ _ _ hf hC hl
  refine lv_icmp_ne (tgt := 14) hx hb dX12_liveAhead_7 (by decide) (fun c_24 => ?_) (fun c_24 => ?_)
  · have hf := it_f c_24 hf
    refine lv_aload_n hx hb dX12_liveAhead_14 rfl (lv_at hl 0 rfl) ?_
    refine gt_X12_124_m hx hb hta hown hK hC dX12_liveAhead_15 ?_
    refine lv_aload_n hx hb dX12_liveAhead_18 rfl (lv_at hl 0 rfl) ?_
    refine gt_X12_56_m hx hb hta hown hK hC dX12_liveAhead_19 ?_
    refine lv_iload_n hx hb dX12_liveAhead_22 rfl (lv_at hl 1 rfl) ?_
    obtain ⟨hi_25, hf⟩ := ix_inv hf
    obtain ⟨v_25, e_25, hf⟩ := lt_inv hf
    refine al_M_16 hx hb hK hC hi_25 e_25 dX12_liveAhead_23 ?_
    obtain ⟨hi_26, hf⟩ := ix_inv hf
    obtain ⟨v_26, e_26, hf⟩ := lt_inv hf
    refine al_M_38 hx hb hK hC hi_26 e_26 dX12_liveAhead_24 ?_
    exact hj_25 _ _ _ _ hf hC hl
  · have hf := it_t c_24 hf
    refine lv_iconst (v := 0) hx hb dX12_liveAhead_10 (by decide) ?_
    refine lv_goto (tgt := 25) hx hb dX12_liveAhead_11 (by decide) ?_
    exact hj_25 _ _ _ _ hf hC hl

set_option maxHeartbeats 8000000 in
set_option maxRecDepth 100000 in
theorem r_X12_laysLive {D : va_G} {y : Nat → ClassId} {o : Nat → Nat} {ad av : Nat → Nat} {σ : Sto} {σ2 : Sto} (hf : f_X12_laysLive σ = some σ2) (l : Launch) (sz : Nat) : Met l yX12_laysLive (Cond.code yX12_laysLive cX12_laysLive 4 none :: ALW) { frames := 2, cells := 0, slots := 0, locals := 47 } (va_Pc [.ref (o 0)] (PZ D y ad av (WM y o σ) sz)) (QZv D (WM y o σ) (WM y o σ2) sz) 0 0 (va_A (WM y o σ) sz) := by
  refine met_v (by decide) (Nat.le_of_ble_eq_true rfl) ?_
  intro p e R s m args below meth c Q A ls hx hb hml hta hown hRc hRs hRf hRl hN hK hV hA hret hC hl
  have hl : lv_has ls 4 [(0, .ref (o 0))] := hl
  unfold f_X12_laysLive at hf
  refine lv_iconst (v := 0) hx hb dX12_laysLive_0 (by decide) ?_
  refine lv_istore_n (lv' := [(1, .int 0), (0, .ref (o 0))]) hx hb dX12_laysLive_1 rfl hl (by decide) rfl (fun ls hl => ?_)
  refine itr_inv2 (P := fun (x1_1 : Int32) (s_1 : Sto) => ∀ (H : Heap) (locs : List Loc) (ls : Array Slot), CZ D A s H locs (WM y o s_1) → lv_has ls 4 [(0, .ref (o 0)), (1, .int x1_1)] → W p l e R s m args below meth c H locs 0 0 Q (F0 m 2 ls [])) hf ?_ _ _ _ hC (lv_sub hl [1, 0] rfl)
  intro a_2 x1_1 s_1 ha_2 hf H locs ls hC hl
  refine lv_iload_n hx hb dX12_laysLive_2 rfl (lv_at hl 1 rfl) ?_
  refine lv_aload_n hx hb dX12_laysLive_3 rfl (lv_at hl 0 rfl) ?_
  refine gt_X12_299_m hx hb hta hown hK hC dX12_laysLive_4 ?_
  refine lv_icmp_ge (tgt := 23) hx hb dX12_laysLive_7 (by decide) (fun c_2 => ?_) (fun c_2 => ?_)
  · have hf := it_t c_2 hf
    refine lv_iconst (v := 0) hx hb dX12_laysLive_23 (by decide) ?_
    refine lv_istore_n (lv' := [(1, .int 0), (0, .ref (o 0))]) hx hb dX12_laysLive_24 rfl hl (by decide) rfl (fun ls hl => ?_)
    refine itr_inv2 (P := fun (x1_3 : Int32) (s_3 : Sto) => ∀ (H : Heap) (locs : List Loc) (ls : Array Slot), CZ D A s H locs (WM y o s_3) → lv_has ls 4 [(0, .ref (o 0)), (1, .int x1_3)] → W p l e R s m args below meth c H locs 0 0 Q (F0 m 25 ls [])) hf ?_ _ _ _ hC (lv_sub hl [1, 0] rfl)
    intro a_25 x1_3 s_3 ha_25 hf H locs ls hC hl
    refine lv_iload_n hx hb dX12_laysLive_25 rfl (lv_at hl 1 rfl) ?_
    refine lv_bipush (v := 40) hx hb dX12_laysLive_26 (by decide) ?_
    refine lv_icmp_ge (tgt := 44) hx hb dX12_laysLive_28 (by decide) (fun c_4 => ?_) (fun c_4 => ?_)
    · have hf := it_t c_4 hf
      refine lv_iconst (v := 1) hx hb dX12_laysLive_44 (by decide) ?_
      refine lv_istore_n (lv' := [(1, .int 1), (0, .ref (o 0))]) hx hb dX12_laysLive_45 rfl hl (by decide) rfl (fun ls hl => ?_)
      refine itr_inv2 (P := fun (x1_5 : Int32) (s_5 : Sto) => ∀ (H : Heap) (locs : List Loc) (ls : Array Slot), CZ D A s H locs (WM y o s_5) → lv_has ls 4 [(0, .ref (o 0)), (1, .int x1_5)] → W p l e R s m args below meth c H locs 0 0 Q (F0 m 46 ls [])) hf ?_ _ _ _ hC (lv_sub hl [1, 0] rfl)
      intro a_46 x1_5 s_5 ha_46 hf H locs ls hC hl
      refine lv_iload_n hx hb dX12_laysLive_46 rfl (lv_at hl 1 rfl) ?_
      refine lv_if_eq (tgt := 105) hx hb dX12_laysLive_47 (by decide) (fun c_6 => ?_) (fun c_6 => ?_)
      · have hf := it_t c_6 hf
        refine lv_iconst (v := 0) hx hb dX12_laysLive_105 (by decide) ?_
        refine lv_istore_n (lv' := [(2, .int 0), (0, .ref (o 0)), (1, .int x1_5)]) hx hb dX12_laysLive_106 rfl hl (by decide) rfl (fun ls hl => ?_)
        refine itr_inv2 (P := fun (x2_7 : Int32) (s_7 : Sto) => ∀ (H : Heap) (locs : List Loc) (ls : Array Slot), CZ D A s H locs (WM y o s_7) → lv_has ls 4 [(0, .ref (o 0)), (2, .int x2_7)] → W p l e R s m args below meth c H locs 0 0 Q (F0 m 107 ls [])) hf ?_ _ _ _ hC (lv_sub hl [1, 0] rfl)
        intro a_107 x2_7 s_7 ha_107 hf H locs ls hC hl
        refine lv_iload_n hx hb dX12_laysLive_107 rfl (lv_at hl 1 rfl) ?_
        refine lv_aload_n hx hb dX12_laysLive_108 rfl (lv_at hl 0 rfl) ?_
        refine gt_X12_299_m hx hb hta hown hK hC dX12_laysLive_109 ?_
        refine lv_icmp_ge (tgt := 132) hx hb dX12_laysLive_112 (by decide) (fun c_8 => ?_) (fun c_8 => ?_)
        · have hf := it_t c_8 hf
          exact hret _ _ _ _ _ (congrArg (WM y o) (Option.some.inj hf)) dX12_laysLive_132 hC
        · have hf := it_f c_8 hf
          refine lv_aload_n hx hb dX12_laysLive_115 rfl (lv_at hl 0 rfl) ?_
          refine gt_X12_127_m hx hb hta hown hK hC dX12_laysLive_116 ?_
          refine lv_iload_n hx hb dX12_laysLive_119 rfl (lv_at hl 1 rfl) ?_
          refine lv_aload_n hx hb dX12_laysLive_120 rfl (lv_at hl 0 rfl) ?_
          refine lv_iload_n hx hb dX12_laysLive_121 rfl (lv_at hl 1 rfl) ?_
          obtain ⟨v_9, hc_9, hf⟩ := calp_inv hf
          refine cc_Vi (r_X12_behind (D := D) (y := y) (o := o) (ad := ad) (av := av) hc_9 l) hx hb hml hta hown hK hN hV hA hC hRc hRs (by omega) (by omega) wq_1258 (q := 0) (ci := 12) rfl rfl wq_1259 wq_1260 wq_1012 wq_1256 hd_X12_behind (As := [.int x2_7]) (rest := [.int x2_7, .ref (o 39)]) rfl rfl hl.1 rfl dX12_laysLive_122 (fun H locs hC => ?_)
          obtain ⟨hi_10, hf⟩ := ix_inv hf
          obtain ⟨s_10, e_10, hf⟩ := lt_inv hf
          refine as_M_39 hx hb hK hC hi_10 e_10 dX12_laysLive_125 (fun H locs hC => ?_)
          obtain ⟨x2_11, e_11, hf⟩ := lt_inv hf
          refine lv_iinc (v := x2_11) (lv' := [(2, .int x2_11), (0, .ref (o 0))]) hx hb dX12_laysLive_126 hl (k := 1) rfl e_11.symm (by decide) rfl (fun ls hl => ?_)
          refine lv_goto (tgt := 107) hx hb dX12_laysLive_129 (by decide) ?_
          exact ha_107 _ _ hf _ _ _ hC (lv_sub hl [1, 0] rfl)
      · have hf := it_f c_6 hf
        refine lv_iconst (v := 0) hx hb dX12_laysLive_50 (by decide) ?_
        refine lv_istore_n (lv' := [(1, .int 0), (0, .ref (o 0))]) hx hb dX12_laysLive_51 rfl hl (by decide) rfl (fun ls hl => ?_)
        refine lv_aload_n hx hb dX12_laysLive_52 rfl (lv_at hl 1 rfl) ?_
        refine gt_X12_299_m hx hb hta hown hK hC dX12_laysLive_53 ?_
        refine lv_iconst (v := 1) hx hb dX12_laysLive_56 (by decide) ?_
        refine lv_isub hx hb dX12_laysLive_57 ?_
        obtain ⟨x2_12, e_12, hf⟩ := lt_inv hf
        refine nmi e_12 ?_
        refine lv_istore_n (lv' := [(2, .int x2_12), (1, .int 0), (0, .ref (o 0))]) hx hb dX12_laysLive_58 rfl hl (by decide) rfl (fun ls hl => ?_)
        refine itr_inv3 (P := fun (x1_13 : Int32) (x2_13 : Int32) (s_13 : Sto) => ∀ (H : Heap) (locs : List Loc) (ls : Array Slot), CZ D A s H locs (WM y o s_13) → lv_has ls 4 [(0, .ref (o 0)), (1, .int x1_13), (2, .int x2_13)] → W p l e R s m args below meth c H locs 0 0 Q (F0 m 59 ls [])) hf ?_ _ _ _ hC (lv_sub hl [2, 1, 0] rfl)
        intro a_59 x1_13 x2_13 s_13 ha_59 hf H locs ls hC hl
        refine lv_iload_n hx hb dX12_laysLive_59 rfl (lv_at hl 2 rfl) ?_
        refine lv_if_lt (tgt := 102) hx hb dX12_laysLive_60 (by decide) (fun c_14 => ?_) (fun c_14 => ?_)
        · have hf := it_t c_14 hf
          refine lv_goto (tgt := 46) hx hb dX12_laysLive_102 (by decide) ?_
          exact ha_46 _ _ hf _ _ _ hC (lv_sub hl [0, 1] rfl)
        · have hf := it_f c_14 hf
          refine lv_aload_n hx hb dX12_laysLive_63 rfl (lv_at hl 0 rfl) ?_
          refine lv_iload_n hx hb dX12_laysLive_64 rfl (lv_at hl 2 rfl) ?_
          obtain ⟨v_15, s_15, hc_15, hf⟩ := calv_inv hf
          refine cc_Vi (r_X12_liveAhead (D := D) (y := y) (o := o) (ad := ad) (av := av) hc_15 l) hx hb hml hta hown hK hN hV hA hC hRc hRs (by omega) (by omega) wq_1262 (q := 0) (ci := 12) rfl rfl wq_1263 wq_1264 wq_1012 wq_1257 hd_X12_liveAhead (As := [.int x2_13]) (rest := []) rfl rfl hl.1 rfl dX12_laysLive_65 (fun H locs hC => ?_)
          refine lv_istore_n (lv' := [(3, .int v_15), (0, .ref (o 0)), (1, .int x1_13), (2, .int x2_13)]) hx hb dX12_laysLive_68 rfl hl (by decide) rfl (fun ls hl => ?_)
          refine lv_iload_n hx hb dX12_laysLive_69 rfl (lv_at hl 2 rfl) ?_
          obtain ⟨k_88, hk_88, hf⟩ := jn_inv1 hf
          have hj_88 : ∀ (t0_16 : Int32) (H : Heap) (locs : List Loc) (ls : Array Slot), k_88 t0_16 = some σ2 → CZ D A s H locs (WM y o s_15) → lv_has ls 4 [(0, .ref (o 0)), (2, .int x2_13), (3, .int v_15)] → W p l e R s m args below meth c H locs 0 0 Q (F0 m 88 ls [.int t0_16]) := by
            intro t0_16 H locs ls hf hC hl
            have hf := hk_88 _ hf
            refine lv_istore_n (lv' := [(1, .int t0_16), (0, .ref (o 0)), (2, .int x2_13), (3, .int v_15)]) hx hb dX12_laysLive_88 rfl hl (by decide) rfl (fun ls hl => ?_)
            refine lv_aload_n hx hb dX12_laysLive_89 rfl (lv_at hl 1 rfl) ?_
            refine gt_X12_124_m hx hb hta hown hK hC dX12_laysLive_90 ?_
            refine lv_iload_n hx hb dX12_laysLive_93 rfl (lv_at hl 2 rfl) ?_
            refine lv_iload_n hx hb dX12_laysLive_94 rfl (lv_at hl 3 rfl) ?_
            obtain ⟨hi_17, hf⟩ := ix_inv hf
            obtain ⟨s_17, e_17, hf⟩ := lt_inv hf
            refine as_M_38 hx hb hK hC hi_17 e_17 dX12_laysLive_95 (fun H locs hC => ?_)
            obtain ⟨x2_18, e_18, hf⟩ := lt_inv hf
            refine lv_iinc (v := x2_18) (lv' := [(2, .int x2_18), (1, .int t0_16), (0, .ref (o 0)), (3, .int v_15)]) hx hb dX12_laysLive_96 hl (k := 2) rfl e_18.symm (by decide) rfl (fun ls hl => ?_)
            refine lv_goto (tgt := 59) hx hb dX12_laysLive_99 (by decide) ?_
            exact ha_59 _ _ _ hf _ _ _ hC (lv_sub hl [2, 1, 0] rfl)
          obtain ⟨k_83, hk_83, hf⟩ := jn_inv0 hf
          have hj_83 : ∀  (H : Heap) (locs : List Loc) (ls : Array Slot), k_83 = some σ2 → CZ D A s H locs (WM y o s_15) → lv_has ls 4 [(0, .ref (o 0)), (2, .int x2_13), (3, .int v_15)] → W p l e R s m args below meth c H locs 0 0 Q (F0 m 83 ls []) := by
            intro H locs ls hf hC hl
            have hf := hk_83 hf
            refine lv_iconst (v := 1) hx hb dX12_laysLive_83 (by decide) ?_
            refine lv_goto (tgt := 88) hx hb dX12_laysLive_84 (by decide) ?_
            exact hj_88 _ _ _ _ hf hC hl
          refine lv_if_ne (tgt := 83) hx hb dX12_laysLive_70 (by decide) (fun c_20 => ?_) (fun c_20 => ?_)
          · have hf := it_f c_20 hf
            exact hj_83 _ _ _ hf hC (lv_sub hl [1, 3, 0] rfl)
          · have hf := it_t c_20 hf
            refine lv_iload_n hx hb dX12_laysLive_73 rfl (lv_at hl 0 rfl) ?_
            refine lv_aload_n hx hb dX12_laysLive_74 rfl (lv_at hl 1 rfl) ?_
            refine gt_X12_124_m hx hb hta hown hK hC dX12_laysLive_75 ?_
            refine lv_iload_n hx hb dX12_laysLive_78 rfl (lv_at hl 3 rfl) ?_
            obtain ⟨hi_21, hf⟩ := ix_inv hf
            obtain ⟨v_21, e_21, hf⟩ := lt_inv hf
            refine al_M_38 hx hb hK hC hi_21 e_21 dX12_laysLive_79 ?_
            refine lv_icmp_eq (tgt := 87) hx hb dX12_laysLive_80 (by decide) (fun c_22 => ?_) (fun c_22 => ?_)
            · have hf := it_t c_22 hf
              refine lv_iconst (v := 0) hx hb dX12_laysLive_87 (by decide) ?_
              exact hj_88 _ _ _ _ hf hC (lv_sub hl [1, 3, 0] rfl)
            · have hf := it_f c_22 hf
              exact hj_83 _ _ _ hf hC (lv_sub hl [1, 3, 0] rfl)
    · have hf := it_f c_4 hf
      refine lv_aload_n hx hb dX12_laysLive_31 rfl (lv_at hl 0 rfl) ?_
      refine gt_X12_130_m hx hb hta hown hK hC dX12_laysLive_32 ?_
      refine lv_iload_n hx hb dX12_laysLive_35 rfl (lv_at hl 1 rfl) ?_
      refine lv_iconst (v := 0) hx hb dX12_laysLive_36 (by decide) ?_
      obtain ⟨hi_23, hf⟩ := ix_inv hf
      obtain ⟨s_23, e_23, hf⟩ := lt_inv hf
      refine as_M_40 hx hb hK hC hi_23 (Or.inl rfl) e_23 dX12_laysLive_37 (fun H locs hC => ?_)
      obtain ⟨x1_24, e_24, hf⟩ := lt_inv hf
      refine lv_iinc (v := x1_24) (lv' := [(1, .int x1_24), (0, .ref (o 0))]) hx hb dX12_laysLive_38 hl (k := 1) rfl e_24.symm (by decide) rfl (fun ls hl => ?_)
      refine lv_goto (tgt := 25) hx hb dX12_laysLive_41 (by decide) ?_
      exact ha_25 _ _ hf _ _ _ hC (lv_sub hl [1, 0] rfl)
  · have hf := it_f c_2 hf
    refine lv_aload_n hx hb dX12_laysLive_10 rfl (lv_at hl 0 rfl) ?_
    refine gt_X12_124_m hx hb hta hown hK hC dX12_laysLive_11 ?_
    refine lv_iload_n hx hb dX12_laysLive_14 rfl (lv_at hl 1 rfl) ?_
    refine lv_iconst (v := 0) hx hb dX12_laysLive_15 (by decide) ?_
    obtain ⟨hi_25, hf⟩ := ix_inv hf
    obtain ⟨s_25, e_25, hf⟩ := lt_inv hf
    refine as_M_38 hx hb hK hC hi_25 e_25 dX12_laysLive_16 (fun H locs hC => ?_)
    obtain ⟨x1_26, e_26, hf⟩ := lt_inv hf
    refine lv_iinc (v := x1_26) (lv' := [(1, .int x1_26), (0, .ref (o 0))]) hx hb dX12_laysLive_17 hl (k := 1) rfl e_26.symm (by decide) rfl (fun ls hl => ?_)
    refine lv_goto (tgt := 2) hx hb dX12_laysLive_20 (by decide) ?_
    exact ha_2 _ _ hf _ _ _ hC (lv_sub hl [1, 0] rfl)

set_option maxHeartbeats 8000000 in
set_option maxRecDepth 100000 in
theorem r_X12_line {D : va_G} {y : Nat → ClassId} {o : Nat → Nat} {ad av : Nat → Nat} {x1 : Int32} {x2 : Int32} {x3 : Int32} {σ : Sto} {σ2 : Sto} (hf : f_X12_line x1 x2 x3 σ = some σ2) (l : Launch) (sz : Nat) : Met l yX12_line (Cond.code yX12_line cX12_line 4 none :: ALW) { frames := 0, cells := 0, slots := 0, locals := 0 } (va_Pc [.ref (o 0), .int x1, .int x2, .int x3] (PZ D y ad av (WM y o σ) sz)) (QZv D (WM y o σ) (WM y o σ2) sz) 0 0 (va_A (WM y o σ) sz) := by
  refine met_v (by decide) (Nat.le_of_ble_eq_true rfl) ?_
  intro p e R s m args below meth c Q A ls hx hb hml hta hown hRc hRs hRf hRl hN hK hV hA hret hC hl
  have hl : lv_has ls 4 [(0, .ref (o 0)), (1, .int x1), (2, .int x2), (3, .int x3)] := hl
  unfold f_X12_line at hf
  refine lv_aload_n hx hb dX12_line_0 rfl (lv_at hl 0 rfl) ?_
  refine gt_X12_133_m hx hb hta hown hK hC dX12_line_1 ?_
  refine lv_aload_n hx hb dX12_line_4 rfl (lv_at hl 0 rfl) ?_
  refine gt_X12_479_m hx hb hta hown hK hC dX12_line_5 ?_
  refine lv_iload_n hx hb dX12_line_8 rfl (lv_at hl 1 rfl) ?_
  obtain ⟨hi_1, hf⟩ := ix_inv hf
  obtain ⟨s_1, e_1, hf⟩ := lt_inv hf
  refine as_M_41 hx hb hK hC hi_1 e_1 dX12_line_9 (fun H locs hC => ?_)
  refine lv_aload_n hx hb dX12_line_10 rfl (lv_at hl 0 rfl) ?_
  refine gt_X12_136_m hx hb hta hown hK hC dX12_line_11 ?_
  refine lv_aload_n hx hb dX12_line_14 rfl (lv_at hl 0 rfl) ?_
  refine gt_X12_479_m hx hb hta hown hK hC dX12_line_15 ?_
  refine lv_iload_n hx hb dX12_line_18 rfl (lv_at hl 2 rfl) ?_
  obtain ⟨hi_2, hf⟩ := ix_inv hf
  obtain ⟨s_2, e_2, hf⟩ := lt_inv hf
  refine as_M_42 hx hb hK hC hi_2 e_2 dX12_line_19 (fun H locs hC => ?_)
  refine lv_aload_n hx hb dX12_line_20 rfl (lv_at hl 0 rfl) ?_
  refine gt_X12_142_m hx hb hta hown hK hC dX12_line_21 ?_
  refine lv_aload_n hx hb dX12_line_24 rfl (lv_at hl 0 rfl) ?_
  refine gt_X12_479_m hx hb hta hown hK hC dX12_line_25 ?_
  refine lv_iload_n hx hb dX12_line_28 rfl (lv_at hl 3 rfl) ?_
  obtain ⟨hi_3, hf⟩ := ix_inv hf
  obtain ⟨s_3, e_3, hf⟩ := lt_inv hf
  refine as_M_44 hx hb hK hC hi_3 e_3 dX12_line_29 (fun H locs hC => ?_)
  refine lv_aload_n hx hb dX12_line_30 rfl (lv_at hl 0 rfl) ?_
  refine gt_X12_139_m hx hb hta hown hK hC dX12_line_31 ?_
  refine lv_aload_n hx hb dX12_line_34 rfl (lv_at hl 0 rfl) ?_
  refine gt_X12_479_m hx hb hta hown hK hC dX12_line_35 ?_
  refine lv_aload_n hx hb dX12_line_38 rfl (lv_at hl 0 rfl) ?_
  refine gt_X12_482_m hx hb hta hown hK hC dX12_line_39 ?_
  obtain ⟨hi_4, hf⟩ := ix_inv hf
  obtain ⟨s_4, e_4, hf⟩ := lt_inv hf
  refine as_M_43 hx hb hK hC hi_4 e_4 dX12_line_42 (fun H locs hC => ?_)
  refine lv_aload_n hx hb dX12_line_43 rfl (lv_at hl 0 rfl) ?_
  refine lv_dup hx hb dX12_line_44 rfl ?_
  refine gt_X12_479_m hx hb hta hown hK hC dX12_line_45 ?_
  refine lv_iconst (v := 1) hx hb dX12_line_48 (by decide) ?_
  refine lv_iadd hx hb dX12_line_49 ?_
  obtain ⟨s_5, e_5, hf⟩ := lt_inv hf
  refine pt_X12_479_m hx hb hta hown hK hC e_5 dX12_line_50 (fun H locs hC => ?_)
  exact hret _ _ _ _ _ (congrArg (WM y o) (Option.some.inj hf)) dX12_line_53 hC

set_option maxHeartbeats 8000000 in
set_option maxRecDepth 100000 in
theorem r_X12_edgeOf {D : va_G} {y : Nat → ClassId} {o : Nat → Nat} {ad av : Nat → Nat} {x1 : Int32} {x2 : Int32} {σ : Sto} {v : Int32} (hf : f_X12_edgeOf x1 x2 σ = some v) (l : Launch) (sz : Nat) : Met l yX12_edgeOf (Cond.code yX12_edgeOf cX12_edgeOf 4 (some .int) :: ALW) { frames := 0, cells := 0, slots := 0, locals := 0 } (va_Pc [.ref (o 0), .int x1, .int x2] (PZ D y ad av (WM y o σ) sz)) (QZi D (WM y o σ) v (WM y o σ) sz) 0 0 (va_A (WM y o σ) sz) := by
  refine met_i (by decide) (Nat.le_of_ble_eq_true rfl) ?_
  intro p e R s m args below meth c Q A ls hx hb hml hta hown hRc hRs hRf hRl hN hK hV hA hret hC hl
  have hl : lv_has ls 4 [(0, .ref (o 0)), (1, .int x1), (2, .int x2)] := hl
  unfold f_X12_edgeOf at hf
  refine lv_iconst (v := 0) hx hb dX12_edgeOf_0 (by decide) ?_
  refine lv_istore_n (lv' := [(3, .int 0), (0, .ref (o 0)), (1, .int x1), (2, .int x2)]) hx hb dX12_edgeOf_1 rfl hl (by decide) rfl (fun ls hl => ?_)
  refine itr_inv1 (P := fun (x3_1 : Int32) => ∀ (H : Heap) (locs : List Loc) (ls : Array Slot), CZ D A s H locs (WM y o σ) → lv_has ls 4 [(0, .ref (o 0)), (1, .int x1), (2, .int x2), (3, .int x3_1)] → W p l e R s m args below meth c H locs 0 0 Q (F0 m 2 ls [])) hf ?_ _ _ _ hC (lv_sub hl [1, 2, 3, 0] rfl)
  intro a_2 x3_1 ha_2 hf H locs ls hC hl
  refine lv_aload_n hx hb dX12_edgeOf_2 rfl (lv_at hl 0 rfl) ?_
  refine gt_X12_59_m hx hb hta hown hK hC dX12_edgeOf_3 ?_
  refine lv_iload_n hx hb dX12_edgeOf_6 rfl (lv_at hl 3 rfl) ?_
  obtain ⟨hi_2, hf⟩ := ix_inv hf
  obtain ⟨v_2, e_2, hf⟩ := lt_inv hf
  refine al_M_17 hx hb hK hC hi_2 e_2 dX12_edgeOf_7 ?_
  refine lv_iload_n hx hb dX12_edgeOf_8 rfl (lv_at hl 1 rfl) ?_
  obtain ⟨k_22, hk_22, hf⟩ := jn_inv0 hf
  have hj_22 : ∀  (H : Heap) (locs : List Loc) (ls : Array Slot), k_22 = some v → CZ D A s H locs (WM y o σ) → lv_has ls 4 [(0, .ref (o 0)), (1, .int x1), (2, .int x2), (3, .int x3_1)] → W p l e R s m args below meth c H locs 0 0 Q (F0 m 22 ls []) := by
    intro H locs ls hf hC hl
    have hf := hk_22 hf
    obtain ⟨x3_4, e_4, hf⟩ := lt_inv hf
    refine lv_iinc (v := x3_4) (lv' := [(3, .int x3_4), (0, .ref (o 0)), (1, .int x1), (2, .int x2)]) hx hb dX12_edgeOf_22 hl (k := 3) rfl e_4.symm (by decide) rfl (fun ls hl => ?_)
    refine lv_goto (tgt := 2) hx hb dX12_edgeOf_25 (by decide) ?_
    exact ha_2 _ hf _ _ _ hC (lv_sub hl [1, 2, 3, 0] rfl)
  refine lv_icmp_ne (tgt := 22) hx hb dX12_edgeOf_9 (by decide) (fun c_5 => ?_) (fun c_5 => ?_)
  · have hf := it_f c_5 hf
    exact hj_22 _ _ _ hf hC hl
  · have hf := it_t c_5 hf
    refine lv_aload_n hx hb dX12_edgeOf_12 rfl (lv_at hl 0 rfl) ?_
    refine gt_X12_62_m hx hb hta hown hK hC dX12_edgeOf_13 ?_
    refine lv_iload_n hx hb dX12_edgeOf_16 rfl (lv_at hl 3 rfl) ?_
    obtain ⟨hi_6, hf⟩ := ix_inv hf
    obtain ⟨v_6, e_6, hf⟩ := lt_inv hf
    refine al_M_18 hx hb hK hC hi_6 e_6 dX12_edgeOf_17 ?_
    refine lv_iload_n hx hb dX12_edgeOf_18 rfl (lv_at hl 2 rfl) ?_
    refine lv_icmp_eq (tgt := 28) hx hb dX12_edgeOf_19 (by decide) (fun c_7 => ?_) (fun c_7 => ?_)
    · have hf := it_t c_7 hf
      refine lv_iload_n hx hb dX12_edgeOf_28 rfl (lv_at hl 3 rfl) ?_
      exact hret _ _ _ _ _ _ (Option.some.inj hf) rfl rfl dX12_edgeOf_29 hC
    · have hf := it_f c_7 hf
      exact hj_22 _ _ _ hf hC hl

set_option maxHeartbeats 8000000 in
set_option maxRecDepth 100000 in
theorem r_X12_isMerge {D : va_G} {y : Nat → ClassId} {o : Nat → Nat} {ad av : Nat → Nat} {x1 : Int32} {σ : Sto} {v : Int32} (hf : f_X12_isMerge x1 σ = some v) (l : Launch) (sz : Nat) : Met l yX12_isMerge (Cond.code yX12_isMerge cX12_isMerge 4 (some .boolean) :: ALW) { frames := 0, cells := 0, slots := 0, locals := 0 } (va_Pc [.ref (o 0), .int x1] (PZ D y ad av (WM y o σ) sz)) (QZi D (WM y o σ) v (WM y o σ) sz) 0 0 (va_A (WM y o σ) sz) := by
  refine met_i (by decide) (Nat.le_of_ble_eq_true rfl) ?_
  intro p e R s m args below meth c Q A ls hx hb hml hta hown hRc hRs hRf hRl hN hK hV hA hret hC hl
  have hl : lv_has ls 4 [(0, .ref (o 0)), (1, .int x1)] := hl
  unfold f_X12_isMerge at hf
  refine lv_iconst (v := 0) hx hb dX12_isMerge_0 (by decide) ?_
  refine lv_istore_n (lv' := [(2, .int 0), (0, .ref (o 0)), (1, .int x1)]) hx hb dX12_isMerge_1 rfl hl (by decide) rfl (fun ls hl => ?_)
  refine lv_iconst (v := 0) hx hb dX12_isMerge_2 (by decide) ?_
  refine lv_istore_n (lv' := [(3, .int 0), (2, .int 0), (0, .ref (o 0)), (1, .int x1)]) hx hb dX12_isMerge_3 rfl hl (by decide) rfl (fun ls hl => ?_)
  refine itr_inv2 (P := fun (x2_1 : Int32) (x3_1 : Int32) => ∀ (H : Heap) (locs : List Loc) (ls : Array Slot), CZ D A s H locs (WM y o σ) → lv_has ls 4 [(0, .ref (o 0)), (1, .int x1), (2, .int x2_1), (3, .int x3_1)] → W p l e R s m args below meth c H locs 0 0 Q (F0 m 4 ls [])) hf ?_ _ _ _ hC (lv_sub hl [2, 3, 1, 0] rfl)
  intro a_4 x2_1 x3_1 ha_4 hf H locs ls hC hl
  refine lv_iload_n hx hb dX12_isMerge_4 rfl (lv_at hl 3 rfl) ?_
  refine lv_aload_n hx hb dX12_isMerge_5 rfl (lv_at hl 0 rfl) ?_
  refine gt_X12_327_m hx hb hta hown hK hC dX12_isMerge_6 ?_
  refine lv_icmp_ge (tgt := 68) hx hb dX12_isMerge_9 (by decide) (fun c_2 => ?_) (fun c_2 => ?_)
  · have hf := it_t c_2 hf
    refine lv_iload_n hx hb dX12_isMerge_68 rfl (lv_at hl 2 rfl) ?_
    refine lv_iconst (v := 1) hx hb dX12_isMerge_69 (by decide) ?_
    refine lv_icmp_le (tgt := 77) hx hb dX12_isMerge_70 (by decide) (fun c_3 => ?_) (fun c_3 => ?_)
    · have hf := it_t c_3 hf
      refine lv_iconst (v := 0) hx hb dX12_isMerge_77 (by decide) ?_
      exact hret _ _ _ _ _ _ (Option.some.inj hf) rfl rfl dX12_isMerge_78 hC
    · have hf := it_f c_3 hf
      refine lv_iconst (v := 1) hx hb dX12_isMerge_73 (by decide) ?_
      refine lv_goto (tgt := 78) hx hb dX12_isMerge_74 (by decide) ?_
      exact hret _ _ _ _ _ _ (Option.some.inj hf) rfl rfl dX12_isMerge_78 hC
  · have hf := it_f c_2 hf
    refine lv_aload_n hx hb dX12_isMerge_12 rfl (lv_at hl 0 rfl) ?_
    refine gt_X12_62_m hx hb hta hown hK hC dX12_isMerge_13 ?_
    refine lv_iload_n hx hb dX12_isMerge_16 rfl (lv_at hl 3 rfl) ?_
    obtain ⟨hi_4, hf⟩ := ix_inv hf
    obtain ⟨v_4, e_4, hf⟩ := lt_inv hf
    refine al_M_18 hx hb hK hC hi_4 e_4 dX12_isMerge_17 ?_
    refine lv_iload_n hx hb dX12_isMerge_18 rfl (lv_at hl 1 rfl) ?_
    obtain ⟨k_62, hk_62, hf⟩ := jn_inv1 hf
    have hj_62 : ∀ (x2_5 : Int32) (H : Heap) (locs : List Loc) (ls : Array Slot), k_62 x2_5 = some v → CZ D A s H locs (WM y o σ) → lv_has ls 4 [(0, .ref (o 0)), (1, .int x1), (2, .int x2_5), (3, .int x3_1)] → W p l e R s m args below meth c H locs 0 0 Q (F0 m 62 ls []) := by
      intro x2_5 H locs ls hf hC hl
      have hf := hk_62 _ hf
      obtain ⟨x3_6, e_6, hf⟩ := lt_inv hf
      refine lv_iinc (v := x3_6) (lv' := [(3, .int x3_6), (0, .ref (o 0)), (1, .int x1), (2, .int x2_5)]) hx hb dX12_isMerge_62 hl (k := 3) rfl e_6.symm (by decide) rfl (fun ls hl => ?_)
      refine lv_goto (tgt := 4) hx hb dX12_isMerge_65 (by decide) ?_
      exact ha_4 _ _ hf _ _ _ hC (lv_sub hl [1, 2, 3, 0] rfl)
    refine lv_icmp_ne (tgt := 62) hx hb dX12_isMerge_19 (by decide) (fun c_7 => ?_) (fun c_7 => ?_)
    · have hf := it_f c_7 hf
      exact hj_62 _ _ _ _ hf hC hl
    · have hf := it_t c_7 hf
      refine lv_aload_n hx hb dX12_isMerge_22 rfl (lv_at hl 0 rfl) ?_
      refine gt_X12_69_m hx hb hta hown hK hC dX12_isMerge_23 ?_
      refine lv_iload_n hx hb dX12_isMerge_26 rfl (lv_at hl 3 rfl) ?_
      obtain ⟨hi_8, hf⟩ := ix_inv hf
      obtain ⟨v_8, e_8, hf⟩ := lt_inv hf
      refine al_M_20 hx hb hK hC hi_8 e_8 dX12_isMerge_27 ?_
      refine lv_if_eq (tgt := 34) hx hb dX12_isMerge_28 (by decide) (fun c_9 => ?_) (fun c_9 => ?_)
      · have hf := it_t c_9 hf
        refine lv_aload_n hx hb dX12_isMerge_34 rfl (lv_at hl 0 rfl) ?_
        refine gt_X12_65_m hx hb hta hown hK hC dX12_isMerge_35 ?_
        refine lv_iload_n hx hb dX12_isMerge_38 rfl (lv_at hl 3 rfl) ?_
        obtain ⟨hi_10, hf⟩ := ix_inv hf
        obtain ⟨v_10, e_10, hf⟩ := lt_inv hf
        refine al_M_19 hx hb hK hC hi_10 e_10 dX12_isMerge_39 ?_
        refine lv_if_eq (tgt := 45) hx hb dX12_isMerge_40 (by decide) (fun c_11 => ?_) (fun c_11 => ?_)
        · have hf := it_t c_11 hf
          refine lv_iload_n hx hb dX12_isMerge_45 rfl (lv_at hl 2 rfl) ?_
          refine lv_aload_n hx hb dX12_isMerge_46 rfl (lv_at hl 0 rfl) ?_
          refine gt_X12_72_m hx hb hta hown hK hC dX12_isMerge_47 ?_
          refine lv_iload_n hx hb dX12_isMerge_50 rfl (lv_at hl 3 rfl) ?_
          obtain ⟨hi_12, hf⟩ := ix_inv hf
          obtain ⟨v_12, e_12, hf⟩ := lt_inv hf
          refine al_M_21 hx hb hK hC hi_12 e_12 dX12_isMerge_51 ?_
          obtain ⟨k_60, hk_60, hf⟩ := jn_inv1 hf
          have hj_60 : ∀ (t0_13 : Int32) (H : Heap) (locs : List Loc) (ls : Array Slot), k_60 t0_13 = some v → CZ D A s H locs (WM y o σ) → lv_has ls 4 [(0, .ref (o 0)), (1, .int x1), (3, .int x3_1)] → W p l e R s m args below meth c H locs 0 0 Q (F0 m 60 ls [.int t0_13, .int x2_1]) := by
            intro t0_13 H locs ls hf hC hl
            have hf := hk_60 _ hf
            refine lv_iadd hx hb dX12_isMerge_60 ?_
            obtain ⟨x2_14, e_14, hf⟩ := lt_inv hf
            refine nmi e_14 ?_
            refine lv_istore_n (lv' := [(2, .int x2_14), (0, .ref (o 0)), (1, .int x1), (3, .int x3_1)]) hx hb dX12_isMerge_61 rfl hl (by decide) rfl (fun ls hl => ?_)
            exact hj_62 _ _ _ _ hf hC (lv_sub hl [1, 2, 0, 3] rfl)
          refine lv_if_eq (tgt := 59) hx hb dX12_isMerge_52 (by decide) (fun c_15 => ?_) (fun c_15 => ?_)
          · have hf := it_t c_15 hf
            refine lv_iconst (v := 1) hx hb dX12_isMerge_59 (by decide) ?_
            exact hj_60 _ _ _ _ hf hC (lv_sub hl [0, 1, 3] rfl)
          · have hf := it_f c_15 hf
            refine lv_iconst (v := 0) hx hb dX12_isMerge_55 (by decide) ?_
            refine lv_goto (tgt := 60) hx hb dX12_isMerge_56 (by decide) ?_
            exact hj_60 _ _ _ _ hf hC (lv_sub hl [0, 1, 3] rfl)
        · have hf := it_f c_11 hf
          refine lv_iconst (v := 1) hx hb dX12_isMerge_43 (by decide) ?_
          exact hret _ _ _ _ _ _ (Option.some.inj hf) rfl rfl dX12_isMerge_44 hC
      · have hf := it_f c_9 hf
        refine lv_goto (tgt := 62) hx hb dX12_isMerge_31 (by decide) ?_
        exact hj_62 _ _ _ _ hf hC hl

set_option maxHeartbeats 8000000 in
set_option maxRecDepth 100000 in
theorem r_X12_opens {D : va_G} {y : Nat → ClassId} {o : Nat → Nat} {ad av : Nat → Nat} {x1 : Int32} {x2 : Int32} {σ : Sto} {σ2 : Sto} (hf : f_X12_opens x1 x2 σ = some σ2) (l : Launch) (sz : Nat) : Met l yX12_opens (Cond.code yX12_opens cX12_opens 3 none :: ALW) { frames := 1, cells := 0, slots := 0, locals := 23 } (va_Pc [.ref (o 0), .int x1, .int x2] (PZ D y ad av (WM y o σ) sz)) (QZv D (WM y o σ) (WM y o σ2) sz) 0 0 (va_A (WM y o σ) sz) := by
  refine met_v (by decide) (Nat.le_of_ble_eq_true rfl) ?_
  intro p e R s m args below meth c Q A ls hx hb hml hta hown hRc hRs hRf hRl hN hK hV hA hret hC hl
  have hl : lv_has ls 3 [(0, .ref (o 0)), (1, .int x1), (2, .int x2)] := hl
  unfold f_X12_opens at hf
  refine lv_aload_n hx hb dX12_opens_0 rfl (lv_at hl 0 rfl) ?_
  refine lv_iload_n hx hb dX12_opens_1 rfl (lv_at hl 1 rfl) ?_
  refine lv_iload_n hx hb dX12_opens_2 rfl (lv_at hl 2 rfl) ?_
  refine lv_iconst (v := (-1)) hx hb dX12_opens_3 (by decide) ?_
  obtain ⟨s_1, hc_1, hf⟩ := cals_inv hf
  refine cc_Vv (r_X12_line (D := D) (y := y) (o := o) (ad := ad) (av := av) hc_1 l) hx hb hml hta hown hK hN hV hA hC hRc hRs (by omega) (by omega) wq_1271 (q := 0) (ci := 12) rfl rfl wq_1272 wq_1273 wq_1012 wq_1266 hd_X12_line (As := [.int x1, .int x2, .int (-1)]) (rest := []) rfl rfl hl.1 rfl dX12_opens_4 (fun H locs hC => ?_)
  refine lv_aload_n hx hb dX12_opens_7 rfl (lv_at hl 0 rfl) ?_
  refine lv_dup hx hb dX12_opens_8 rfl ?_
  refine gt_X12_482_m hx hb hta hown hK hC dX12_opens_9 ?_
  refine lv_iconst (v := 1) hx hb dX12_opens_12 (by decide) ?_
  refine lv_iadd hx hb dX12_opens_13 ?_
  obtain ⟨s_2, e_2, hf⟩ := lt_inv hf
  refine pt_X12_482_m hx hb hta hown hK hC e_2 dX12_opens_14 (fun H locs hC => ?_)
  exact hret _ _ _ _ _ (congrArg (WM y o) (Option.some.inj hf)) dX12_opens_17 hC

set_option maxHeartbeats 8000000 in
set_option maxRecDepth 100000 in
theorem r_X12_closes {D : va_G} {y : Nat → ClassId} {o : Nat → Nat} {ad av : Nat → Nat} {x1 : Int32} {x2 : Int32} {σ : Sto} {σ2 : Sto} (hf : f_X12_closes x1 x2 σ = some σ2) (l : Launch) (sz : Nat) : Met l yX12_closes (Cond.code yX12_closes cX12_closes 3 none :: ALW) { frames := 1, cells := 0, slots := 0, locals := 23 } (va_Pc [.ref (o 0), .int x1, .int x2] (PZ D y ad av (WM y o σ) sz)) (QZv D (WM y o σ) (WM y o σ2) sz) 0 0 (va_A (WM y o σ) sz) := by
  refine met_v (by decide) (Nat.le_of_ble_eq_true rfl) ?_
  intro p e R s m args below meth c Q A ls hx hb hml hta hown hRc hRs hRf hRl hN hK hV hA hret hC hl
  have hl : lv_has ls 3 [(0, .ref (o 0)), (1, .int x1), (2, .int x2)] := hl
  unfold f_X12_closes at hf
  refine lv_aload_n hx hb dX12_closes_0 rfl (lv_at hl 0 rfl) ?_
  refine lv_dup hx hb dX12_closes_1 rfl ?_
  refine gt_X12_482_m hx hb hta hown hK hC dX12_closes_2 ?_
  refine lv_iconst (v := 1) hx hb dX12_closes_5 (by decide) ?_
  refine lv_isub hx hb dX12_closes_6 ?_
  obtain ⟨s_1, e_1, hf⟩ := lt_inv hf
  refine pt_X12_482_m hx hb hta hown hK hC e_1 dX12_closes_7 (fun H locs hC => ?_)
  refine lv_aload_n hx hb dX12_closes_10 rfl (lv_at hl 0 rfl) ?_
  refine lv_iconst (v := 5) hx hb dX12_closes_11 (by decide) ?_
  refine lv_iload_n hx hb dX12_closes_12 rfl (lv_at hl 1 rfl) ?_
  refine lv_iload_n hx hb dX12_closes_13 rfl (lv_at hl 2 rfl) ?_
  obtain ⟨s_2, hc_2, hf⟩ := cals_inv hf
  refine cc_Vv (r_X12_line (D := D) (y := y) (o := o) (ad := ad) (av := av) hc_2 l) hx hb hml hta hown hK hN hV hA hC hRc hRs (by omega) (by omega) wq_1271 (q := 0) (ci := 12) rfl rfl wq_1272 wq_1273 wq_1012 wq_1266 hd_X12_line (As := [.int 5, .int x1, .int x2]) (rest := []) rfl rfl hl.1 rfl dX12_closes_14 (fun H locs hC => ?_)
  exact hret _ _ _ _ _ (congrArg (WM y o) (Option.some.inj hf)) dX12_closes_17 hC

set_option maxHeartbeats 8000000 in
set_option maxRecDepth 100000 in
theorem rg_X12_goes {D : va_G} {y : Nat → ClassId} {o : Nat → Nat} {ad av : Nat → Nat} : ∀ d : Nat, (∀ {x1 : Int32} {x2 : Int32} {σ : Sto} {σ2 : Sto}, f_X12_goes d x1 x2 σ = some σ2 → ∀ (l : Launch) (sz : Nat), Met l yX12_goes (Cond.code yX12_goes cX12_goes 4 none :: ALW) { frames := d + 10, cells := 0, slots := 0, locals := d * 24 + 242 } (va_Pc [.ref (o 0), .int x1, .int x2] (PZ D y ad av (WM y o σ) sz)) (QZv D (WM y o σ) (WM y o σ2) sz) 0 0 (va_A (WM y o σ) sz)) ∧ (∀ {x1 : Int32} {σ : Sto} {σ2 : Sto}, f_X12_inner d x1 σ = some σ2 → ∀ (l : Launch) (sz : Nat), Met l yX12_inner (Cond.code yX12_inner cX12_inner 4 none :: ALW) { frames := d + 10, cells := 0, slots := 0, locals := d * 24 + 242 } (va_Pc [.ref (o 0), .int x1] (PZ D y ad av (WM y o σ) sz)) (QZv D (WM y o σ) (WM y o σ2) sz) 0 0 (va_A (WM y o σ) sz)) ∧ (∀ {x1 : Int32} {x2 : Int32} {σ : Sto} {σ2 : Sto}, f_X12_merges d x1 x2 σ = some σ2 → ∀ (l : Launch) (sz : Nat), Met l yX12_merges (Cond.code yX12_merges cX12_merges 5 none :: ALW) { frames := d + 10, cells := 0, slots := 0, locals := d * 24 + 242 } (va_Pc [.ref (o 0), .int x1, .int x2] (PZ D y ad av (WM y o σ) sz)) (QZv D (WM y o σ) (WM y o σ2) sz) 0 0 (va_A (WM y o σ) sz)) ∧ (∀ {x1 : Int32} {σ : Sto} {σ2 : Sto}, f_X12_tells_ d x1 σ = some σ2 → ∀ (l : Launch) (sz : Nat), Met l yX12_tells_ (Cond.code yX12_tells_ cX12_tells_ 2 none :: ALW) { frames := d + 10, cells := 0, slots := 0, locals := d * 24 + 242 } (va_Pc [.ref (o 0), .int x1] (PZ D y ad av (WM y o σ) sz)) (QZv D (WM y o σ) (WM y o σ2) sz) 0 0 (va_A (WM y o σ) sz)) := by
  intro d
  induction d with
  | zero => exact ⟨(fun hc => by have hc : (none : Option (Sto)) = some _ := hc; cases hc), (fun hc => by have hc : (none : Option (Sto)) = some _ := hc; cases hc), (fun hc => by have hc : (none : Option (Sto)) = some _ := hc; cases hc), (fun hc => by have hc : (none : Option (Sto)) = some _ := hc; cases hc)⟩
  | succ d ih =>
    obtain ⟨h_X12_goes, h_X12_inner, h_X12_merges, h_X12_tells_⟩ := ih
    refine ⟨?_, ?_, ?_, ?_⟩
    · intro x1 x2 σ σ2 hf l sz
      have hf : b_X12_goes (f_X12_goes d) (f_X12_inner d) (f_X12_merges d) (f_X12_tells_ d) x1 x2 σ = some σ2 := hf
      refine met_v (by decide) (Nat.le_of_ble_eq_true rfl) ?_
      intro p e R s m args below meth c Q A ls hx hb hml hta hown hRc hRs hRf hRl hN hK hV hA hret hC hl
      have hl : lv_has ls 4 [(0, .ref (o 0)), (1, .int x1), (2, .int x2)] := hl
      unfold b_X12_goes at hf
      refine lv_aload_n hx hb dX12_goes_0 rfl (lv_at hl 0 rfl) ?_
      refine lv_iload_n hx hb dX12_goes_1 rfl (lv_at hl 1 rfl) ?_
      refine lv_iload_n hx hb dX12_goes_2 rfl (lv_at hl 2 rfl) ?_
      obtain ⟨v_1, hc_1, hf⟩ := calp_inv hf
      refine cc_Vi (r_X12_edgeOf (D := D) (y := y) (o := o) (ad := ad) (av := av) hc_1 l) hx hb hml hta hown hK hN hV hA hC hRc hRs (by omega) (by omega) wq_1275 (q := 0) (ci := 12) rfl rfl wq_1276 wq_1277 wq_1012 wq_1265 hd_X12_edgeOf (As := [.int x1, .int x2]) (rest := []) rfl rfl hl.1 rfl dX12_goes_3 (fun H locs hC => ?_)
      refine lv_istore_n (lv' := [(3, .int v_1), (0, .ref (o 0)), (1, .int x1), (2, .int x2)]) hx hb dX12_goes_6 rfl hl (by decide) rfl (fun ls hl => ?_)
      refine lv_aload_n hx hb dX12_goes_7 rfl (lv_at hl 1 rfl) ?_
      refine gt_X12_69_m hx hb hta hown hK hC dX12_goes_8 ?_
      refine lv_iload_n hx hb dX12_goes_11 rfl (lv_at hl 0 rfl) ?_
      obtain ⟨hi_2, hf⟩ := ix_inv hf
      obtain ⟨v_2, e_2, hf⟩ := lt_inv hf
      refine al_M_20 hx hb hK hC hi_2 e_2 dX12_goes_12 ?_
      refine lv_if_eq (tgt := 27) hx hb dX12_goes_13 (by decide) (fun c_3 => ?_) (fun c_3 => ?_)
      · have hf := it_t c_3 hf
        refine lv_aload_n hx hb dX12_goes_27 rfl (lv_at hl 1 rfl) ?_
        refine gt_X12_72_m hx hb hta hown hK hC dX12_goes_28 ?_
        refine lv_iload_n hx hb dX12_goes_31 rfl (lv_at hl 0 rfl) ?_
        obtain ⟨hi_4, hf⟩ := ix_inv hf
        obtain ⟨v_4, e_4, hf⟩ := lt_inv hf
        refine al_M_21 hx hb hK hC hi_4 e_4 dX12_goes_32 ?_
        refine lv_if_eq (tgt := 47) hx hb dX12_goes_33 (by decide) (fun c_5 => ?_) (fun c_5 => ?_)
        · have hf := it_t c_5 hf
          refine lv_aload_n hx hb dX12_goes_47 rfl (lv_at hl 1 rfl) ?_
          refine lv_iload_n hx hb dX12_goes_48 rfl (lv_at hl 3 rfl) ?_
          obtain ⟨v_6, hc_6, hf⟩ := calp_inv hf
          refine cc_Vi (r_X12_isMerge (D := D) (y := y) (o := o) (ad := ad) (av := av) hc_6 l) hx hb hml hta hown hK hN hV hA hC hRc hRs (by omega) (by omega) wq_1278 (q := 0) (ci := 12) rfl rfl wq_1279 wq_1280 wq_1012 wq_1269 hd_X12_isMerge (As := [.int x2]) (rest := []) rfl rfl hl.1 rfl dX12_goes_49 (fun H locs hC => ?_)
          refine lv_if_eq (tgt := 66) hx hb dX12_goes_52 (by decide) (fun c_7 => ?_) (fun c_7 => ?_)
          · have hf := it_t c_7 hf
            refine lv_aload_n hx hb dX12_goes_66 rfl (lv_at hl 1 rfl) ?_
            refine lv_iload_n hx hb dX12_goes_67 rfl (lv_at hl 3 rfl) ?_
            obtain ⟨s_8, hc_8, hf⟩ := cals_inv hf
            refine cc_Vv (h_X12_tells_ hc_8 l) hx hb hml hta hown hK hN hV hA hC hRc hRs (by omega) (by omega) wq_1281 (q := 0) (ci := 12) rfl rfl wq_1282 wq_1283 wq_1012 wq_1301 hd_X12_tells_ (As := [.int x2]) (rest := []) rfl rfl hl.1 rfl dX12_goes_68 (fun H locs hC => ?_)
            exact hret _ _ _ _ _ (congrArg (WM y o) (Option.some.inj hf)) dX12_goes_71 hC
          · have hf := it_f c_7 hf
            refine lv_aload_n hx hb dX12_goes_55 rfl (lv_at hl 1 rfl) ?_
            refine lv_bipush (v := 6) hx hb dX12_goes_56 (by decide) ?_
            refine lv_iload_n hx hb dX12_goes_58 rfl (lv_at hl 3 rfl) ?_
            refine lv_iconst (v := (-1)) hx hb dX12_goes_59 (by decide) ?_
            obtain ⟨s_9, hc_9, hf⟩ := cals_inv hf
            refine cc_Vv (r_X12_line (D := D) (y := y) (o := o) (ad := ad) (av := av) hc_9 l) hx hb hml hta hown hK hN hV hA hC hRc hRs (by omega) (by omega) wq_1271 (q := 0) (ci := 12) rfl rfl wq_1272 wq_1273 wq_1012 wq_1266 hd_X12_line (As := [.int 6, .int x2, .int (-1)]) (rest := []) rfl rfl hl.1 rfl dX12_goes_60 (fun H locs hC => ?_)
            refine lv_goto (tgt := 71) hx hb dX12_goes_63 (by decide) ?_
            exact hret _ _ _ _ _ (congrArg (WM y o) (Option.some.inj hf)) dX12_goes_71 hC
        · have hf := it_f c_5 hf
          refine lv_aload_n hx hb dX12_goes_36 rfl (lv_at hl 1 rfl) ?_
          refine lv_bipush (v := 7) hx hb dX12_goes_37 (by decide) ?_
          refine lv_iload_n hx hb dX12_goes_39 rfl (lv_at hl 3 rfl) ?_
          refine lv_iconst (v := (-1)) hx hb dX12_goes_40 (by decide) ?_
          obtain ⟨s_10, hc_10, hf⟩ := cals_inv hf
          refine cc_Vv (r_X12_line (D := D) (y := y) (o := o) (ad := ad) (av := av) hc_10 l) hx hb hml hta hown hK hN hV hA hC hRc hRs (by omega) (by omega) wq_1271 (q := 0) (ci := 12) rfl rfl wq_1272 wq_1273 wq_1012 wq_1266 hd_X12_line (As := [.int 7, .int x2, .int (-1)]) (rest := []) rfl rfl hl.1 rfl dX12_goes_41 (fun H locs hC => ?_)
          refine lv_goto (tgt := 71) hx hb dX12_goes_44 (by decide) ?_
          exact hret _ _ _ _ _ (congrArg (WM y o) (Option.some.inj hf)) dX12_goes_71 hC
      · have hf := it_f c_3 hf
        refine lv_aload_n hx hb dX12_goes_16 rfl (lv_at hl 1 rfl) ?_
        refine lv_bipush (v := 8) hx hb dX12_goes_17 (by decide) ?_
        refine lv_iload_n hx hb dX12_goes_19 rfl (lv_at hl 3 rfl) ?_
        refine lv_iconst (v := (-1)) hx hb dX12_goes_20 (by decide) ?_
        obtain ⟨s_11, hc_11, hf⟩ := cals_inv hf
        refine cc_Vv (r_X12_line (D := D) (y := y) (o := o) (ad := ad) (av := av) hc_11 l) hx hb hml hta hown hK hN hV hA hC hRc hRs (by omega) (by omega) wq_1271 (q := 0) (ci := 12) rfl rfl wq_1272 wq_1273 wq_1012 wq_1266 hd_X12_line (As := [.int 8, .int x2, .int (-1)]) (rest := []) rfl rfl hl.1 rfl dX12_goes_21 (fun H locs hC => ?_)
        refine lv_goto (tgt := 71) hx hb dX12_goes_24 (by decide) ?_
        exact hret _ _ _ _ _ (congrArg (WM y o) (Option.some.inj hf)) dX12_goes_71 hC
    · intro x1 σ σ2 hf l sz
      have hf : b_X12_inner (f_X12_goes d) (f_X12_inner d) (f_X12_merges d) (f_X12_tells_ d) x1 σ = some σ2 := hf
      refine met_v (by decide) (Nat.le_of_ble_eq_true rfl) ?_
      intro p e R s m args below meth c Q A ls hx hb hml hta hown hRc hRs hRf hRl hN hK hV hA hret hC hl
      have hl : lv_has ls 4 [(0, .ref (o 0)), (1, .int x1)] := hl
      unfold b_X12_inner at hf
      refine lv_aload_n hx hb dX12_inner_0 rfl (lv_at hl 0 rfl) ?_
      refine lv_bipush (v := 11) hx hb dX12_inner_1 (by decide) ?_
      refine lv_iload_n hx hb dX12_inner_3 rfl (lv_at hl 1 rfl) ?_
      refine lv_iconst (v := (-1)) hx hb dX12_inner_4 (by decide) ?_
      obtain ⟨s_1, hc_1, hf⟩ := cals_inv hf
      refine cc_Vv (r_X12_line (D := D) (y := y) (o := o) (ad := ad) (av := av) hc_1 l) hx hb hml hta hown hK hN hV hA hC hRc hRs (by omega) (by omega) wq_1271 (q := 0) (ci := 12) rfl rfl wq_1272 wq_1273 wq_1012 wq_1266 hd_X12_line (As := [.int 11, .int x1, .int (-1)]) (rest := []) rfl rfl hl.1 rfl dX12_inner_5 (fun H locs hC => ?_)
      refine lv_aload_n hx hb dX12_inner_8 rfl (lv_at hl 0 rfl) ?_
      refine gt_X12_56_m hx hb hta hown hK hC dX12_inner_9 ?_
      refine lv_iload_n hx hb dX12_inner_12 rfl (lv_at hl 1 rfl) ?_
      obtain ⟨hi_2, hf⟩ := ix_inv hf
      obtain ⟨v_2, e_2, hf⟩ := lt_inv hf
      refine al_M_16 hx hb hK hC hi_2 e_2 dX12_inner_13 ?_
      refine lv_iconst (v := (-1)) hx hb dX12_inner_14 (by decide) ?_
      obtain ⟨k_23, hk_23, hf⟩ := jn_inv1 hf
      have hj_23 : ∀ (t0_3 : Int32) (H : Heap) (locs : List Loc) (ls : Array Slot), k_23 t0_3 = some σ2 → CZ D A s H locs (WM y o s_1) → lv_has ls 4 [(0, .ref (o 0)), (1, .int x1)] → W p l e R s m args below meth c H locs 0 0 Q (F0 m 23 ls [.int t0_3]) := by
        intro t0_3 H locs ls hf hC hl
        have hf := hk_23 _ hf
        refine lv_istore_n (lv' := [(2, .int t0_3), (0, .ref (o 0)), (1, .int x1)]) hx hb dX12_inner_23 rfl hl (by decide) rfl (fun ls hl => ?_)
        refine lv_iload_n hx hb dX12_inner_24 rfl (lv_at hl 0 rfl) ?_
        obtain ⟨k_35, hk_35, hf⟩ := jn_inv1 hf
        have hj_35 : ∀ (s_4 : Sto) (H : Heap) (locs : List Loc) (ls : Array Slot), k_35 s_4 = some σ2 → CZ D A s H locs (WM y o s_4) → lv_has ls 4 [(0, .ref (o 0)), (1, .int x1), (2, .int t0_3)] → W p l e R s m args below meth c H locs 0 0 Q (F0 m 35 ls []) := by
          intro s_4 H locs ls hf hC hl
          have hf := hk_35 _ hf
          refine lv_aload_n hx hb dX12_inner_35 rfl (lv_at hl 0 rfl) ?_
          refine gt_X12_106_m hx hb hta hown hK hC dX12_inner_36 ?_
          refine lv_iload_n hx hb dX12_inner_39 rfl (lv_at hl 1 rfl) ?_
          obtain ⟨hi_5, hf⟩ := ix_inv hf
          obtain ⟨v_5, e_5, hf⟩ := lt_inv hf
          refine al_M_32 hx hb hK hC hi_5 e_5 dX12_inner_40 ?_
          refine lv_istore_n (lv' := [(3, .int v_5), (0, .ref (o 0)), (1, .int x1), (2, .int t0_3)]) hx hb dX12_inner_41 rfl hl (by decide) rfl (fun ls hl => ?_)
          refine itr_inv2 (P := fun (x3_6 : Int32) (s_6 : Sto) => ∀ (H : Heap) (locs : List Loc) (ls : Array Slot), CZ D A s H locs (WM y o s_6) → lv_has ls 4 [(0, .ref (o 0)), (1, .int x1), (2, .int t0_3), (3, .int x3_6)] → W p l e R s m args below meth c H locs 0 0 Q (F0 m 42 ls [])) hf ?_ _ _ _ hC (lv_sub hl [1, 2, 3, 0] rfl)
          intro a_42 x3_6 s_6 ha_42 hf H locs ls hC hl
          refine lv_iload_n hx hb dX12_inner_42 rfl (lv_at hl 3 rfl) ?_
          refine lv_aload_n hx hb dX12_inner_43 rfl (lv_at hl 0 rfl) ?_
          refine gt_X12_106_m hx hb hta hown hK hC dX12_inner_44 ?_
          refine lv_iload_n hx hb dX12_inner_47 rfl (lv_at hl 1 rfl) ?_
          refine lv_iconst (v := 1) hx hb dX12_inner_48 (by decide) ?_
          refine lv_iadd hx hb dX12_inner_49 ?_
          obtain ⟨hi_7, hf⟩ := ix_inv hf
          obtain ⟨v_7, e_7, hf⟩ := lt_inv hf
          refine al_M_32 hx hb hK hC hi_7 e_7 dX12_inner_50 ?_
          refine lv_icmp_ge (tgt := 67) hx hb dX12_inner_51 (by decide) (fun c_8 => ?_) (fun c_8 => ?_)
          · have hf := it_t c_8 hf
            refine lv_iload_n hx hb dX12_inner_67 rfl (lv_at hl 2 rfl) ?_
            obtain ⟨k_94, hk_94, hf⟩ := jn_inv1 hf
            have hj_94 : ∀ (s_9 : Sto) (H : Heap) (locs : List Loc) (ls : Array Slot), k_94 s_9 = some σ2 → CZ D A s H locs (WM y o s_9) → lv_has ls 4 [(0, .ref (o 0)), (1, .int x1)] → W p l e R s m args below meth c H locs 0 0 Q (F0 m 94 ls []) := by
              intro s_9 H locs ls hf hC hl
              have hf := hk_94 _ hf
              refine lv_aload_n hx hb dX12_inner_94 rfl (lv_at hl 0 rfl) ?_
              refine gt_X12_23_m hx hb hta hown hK hC dX12_inner_95 ?_
              refine lv_aload_n hx hb dX12_inner_98 rfl (lv_at hl 0 rfl) ?_
              refine gt_X12_50_m hx hb hta hown hK hC dX12_inner_99 ?_
              refine lv_iload_n hx hb dX12_inner_102 rfl (lv_at hl 1 rfl) ?_
              obtain ⟨hi_10, hf⟩ := ix_inv hf
              obtain ⟨v_10, e_10, hf⟩ := lt_inv hf
              refine al_M_14 hx hb hK hC hi_10 e_10 dX12_inner_103 ?_
              obtain ⟨hi_11, hf⟩ := ix_inv hf
              obtain ⟨v_11, e_11, hf⟩ := lt_inv hf
              refine al_M_5 hx hb hK hC hi_11 e_11 dX12_inner_104 ?_
              refine lv_istore_n (lv' := [(3, .int v_11), (0, .ref (o 0)), (1, .int x1)]) hx hb dX12_inner_105 rfl hl (by decide) rfl (fun ls hl => ?_)
              refine lv_aload_n hx hb dX12_inner_106 rfl (lv_at hl 1 rfl) ?_
              refine lv_iload_n hx hb dX12_inner_107 rfl (lv_at hl 2 rfl) ?_
              obtain ⟨v_12, hc_12, hf⟩ := calp_inv hf
              refine cc_Vi (r_X12_isForked (D := D) (y := y) (o := o) (ad := ad) (av := av) hc_12 l) hx hb hml hta hown hK hN hV hA hC hRc hRs (by omega) (by omega) wq_1237 (q := 0) (ci := 12) rfl rfl wq_1238 wq_1239 wq_1012 wq_1168 hd_X12_isForked (As := [.int x1]) (rest := []) rfl rfl hl.1 rfl dX12_inner_108 (fun H locs hC => ?_)
              refine lv_if_eq (tgt := 184) hx hb dX12_inner_111 (by decide) (fun c_13 => ?_) (fun c_13 => ?_)
              · have hf := it_t c_13 hf
                refine lv_iload_n hx hb dX12_inner_184 rfl (lv_at hl 0 rfl) ?_
                refine lv_bipush (v := 103) hx hb dX12_inner_185 (by decide) ?_
                refine lv_icmp_ne (tgt := 214) hx hb dX12_inner_187 (by decide) (fun c_14 => ?_) (fun c_14 => ?_)
                · have hf := it_f c_14 hf
                  refine lv_iload_n hx hb dX12_inner_214 rfl (lv_at hl 0 rfl) ?_
                  obtain ⟨v_19, hc_19, hf⟩ := calp_inv hf
                  refine cc_Si (r_X12_goesOn (D := D) (y := y) (w := WM y o s_9) (ad := ad) (av := av) hc_19 l) hx hb hml hta hown hK hN hV hA hC hRc hRs (by omega) (by omega) wq_1085 wq_1086 wq_1012 wq_1075 hd_X12_goesOn (As := [.int v_11]) (rest := []) rfl rfl hl.1 rfl dX12_inner_215 (fun H locs hC => ?_)
                  refine lv_if_eq (tgt := 239) hx hb dX12_inner_218 (by decide) (fun c_20 => ?_) (fun c_20 => ?_)
                  · have hf := it_t c_20 hf
                    exact hret _ _ _ _ _ (congrArg (WM y o) (Option.some.inj hf)) dX12_inner_239 hC
                  · have hf := it_f c_20 hf
                    refine lv_aload_n hx hb dX12_inner_221 rfl (lv_at hl 1 rfl) ?_
                    refine lv_iload_n hx hb dX12_inner_222 rfl (lv_at hl 2 rfl) ?_
                    refine lv_aload_n hx hb dX12_inner_223 rfl (lv_at hl 1 rfl) ?_
                    refine gt_X12_53_m hx hb hta hown hK hC dX12_inner_224 ?_
                    refine lv_aload_n hx hb dX12_inner_227 rfl (lv_at hl 1 rfl) ?_
                    refine gt_X12_50_m hx hb hta hown hK hC dX12_inner_228 ?_
                    refine lv_iload_n hx hb dX12_inner_231 rfl (lv_at hl 2 rfl) ?_
                    obtain ⟨hi_21, hf⟩ := ix_inv hf
                    obtain ⟨v_21, e_21, hf⟩ := lt_inv hf
                    refine al_M_14 hx hb hK hC hi_21 e_21 dX12_inner_232 ?_
                    refine lv_iconst (v := 1) hx hb dX12_inner_233 (by decide) ?_
                    refine lv_iadd hx hb dX12_inner_234 ?_
                    obtain ⟨hi_22, hf⟩ := ix_inv hf
                    obtain ⟨v_22, e_22, hf⟩ := lt_inv hf
                    refine al_M_15 hx hb hK hC hi_22 e_22 dX12_inner_235 ?_
                    obtain ⟨s_23, hc_23, hf⟩ := cals_inv hf
                    refine cc_Vv (h_X12_goes hc_23 l) hx hb hml hta hown hK hN hV hA hC hRc hRs (by omega) (by omega) wq_1288 (q := 0) (ci := 12) rfl rfl wq_1289 wq_1290 wq_1012 wq_1302 hd_X12_goes (As := [.int x1, .int v_22]) (rest := []) rfl rfl hl.1 rfl dX12_inner_236 (fun H locs hC => ?_)
                    exact hret _ _ _ _ _ (congrArg (WM y o) (Option.some.inj hf)) dX12_inner_239 hC
                · have hf := it_t c_14 hf
                  refine lv_aload_n hx hb dX12_inner_190 rfl (lv_at hl 1 rfl) ?_
                  refine lv_iload_n hx hb dX12_inner_191 rfl (lv_at hl 2 rfl) ?_
                  refine lv_aload_n hx hb dX12_inner_192 rfl (lv_at hl 1 rfl) ?_
                  refine gt_X12_53_m hx hb hta hown hK hC dX12_inner_193 ?_
                  refine lv_aload_n hx hb dX12_inner_196 rfl (lv_at hl 1 rfl) ?_
                  refine gt_X12_26_m hx hb hta hown hK hC dX12_inner_197 ?_
                  refine lv_aload_n hx hb dX12_inner_200 rfl (lv_at hl 1 rfl) ?_
                  refine gt_X12_50_m hx hb hta hown hK hC dX12_inner_201 ?_
                  refine lv_iload_n hx hb dX12_inner_204 rfl (lv_at hl 2 rfl) ?_
                  obtain ⟨hi_15, hf⟩ := ix_inv hf
                  obtain ⟨v_15, e_15, hf⟩ := lt_inv hf
                  refine al_M_14 hx hb hK hC hi_15 e_15 dX12_inner_205 ?_
                  obtain ⟨hi_16, hf⟩ := ix_inv hf
                  obtain ⟨v_16, e_16, hf⟩ := lt_inv hf
                  refine al_M_6 hx hb hK hC hi_16 e_16 dX12_inner_206 ?_
                  obtain ⟨hi_17, hf⟩ := ix_inv hf
                  obtain ⟨v_17, e_17, hf⟩ := lt_inv hf
                  refine al_M_15 hx hb hK hC hi_17 e_17 dX12_inner_207 ?_
                  obtain ⟨s_18, hc_18, hf⟩ := cals_inv hf
                  refine cc_Vv (h_X12_goes hc_18 l) hx hb hml hta hown hK hN hV hA hC hRc hRs (by omega) (by omega) wq_1288 (q := 0) (ci := 12) rfl rfl wq_1289 wq_1290 wq_1012 wq_1302 hd_X12_goes (As := [.int x1, .int v_17]) (rest := []) rfl rfl hl.1 rfl dX12_inner_208 (fun H locs hC => ?_)
                  refine lv_goto (tgt := 239) hx hb dX12_inner_211 (by decide) ?_
                  exact hret _ _ _ _ _ (congrArg (WM y o) (Option.some.inj hf)) dX12_inner_239 hC
              · have hf := it_f c_13 hf
                refine lv_aload_n hx hb dX12_inner_114 rfl (lv_at hl 1 rfl) ?_
                refine lv_iconst (v := 3) hx hb dX12_inner_115 (by decide) ?_
                refine lv_iload_n hx hb dX12_inner_116 rfl (lv_at hl 2 rfl) ?_
                obtain ⟨s_24, hc_24, hf⟩ := cals_inv hf
                refine cc_Vv (r_X12_opens (D := D) (y := y) (o := o) (ad := ad) (av := av) hc_24 l) hx hb hml hta hown hK hN hV hA hC hRc hRs (by omega) (by omega) wq_1285 (q := 0) (ci := 12) rfl rfl wq_1286 wq_1287 wq_1012 wq_1270 hd_X12_opens (As := [.int 3, .int x1]) (rest := []) rfl rfl hl.1 rfl dX12_inner_117 (fun H locs hC => ?_)
                refine lv_aload_n hx hb dX12_inner_120 rfl (lv_at hl 1 rfl) ?_
                refine lv_iload_n hx hb dX12_inner_121 rfl (lv_at hl 2 rfl) ?_
                refine lv_aload_n hx hb dX12_inner_122 rfl (lv_at hl 1 rfl) ?_
                refine gt_X12_53_m hx hb hta hown hK hC dX12_inner_123 ?_
                refine lv_aload_n hx hb dX12_inner_126 rfl (lv_at hl 1 rfl) ?_
                refine gt_X12_50_m hx hb hta hown hK hC dX12_inner_127 ?_
                refine lv_iload_n hx hb dX12_inner_130 rfl (lv_at hl 2 rfl) ?_
                obtain ⟨hi_25, hf⟩ := ix_inv hf
                obtain ⟨v_25, e_25, hf⟩ := lt_inv hf
                refine al_M_14 hx hb hK hC hi_25 e_25 dX12_inner_131 ?_
                refine lv_iconst (v := 1) hx hb dX12_inner_132 (by decide) ?_
                refine lv_iadd hx hb dX12_inner_133 ?_
                obtain ⟨hi_26, hf⟩ := ix_inv hf
                obtain ⟨v_26, e_26, hf⟩ := lt_inv hf
                refine al_M_15 hx hb hK hC hi_26 e_26 dX12_inner_134 ?_
                obtain ⟨s_27, hc_27, hf⟩ := cals_inv hf
                refine cc_Vv (h_X12_goes hc_27 l) hx hb hml hta hown hK hN hV hA hC hRc hRs (by omega) (by omega) wq_1288 (q := 0) (ci := 12) rfl rfl wq_1289 wq_1290 wq_1012 wq_1302 hd_X12_goes (As := [.int x1, .int v_26]) (rest := []) rfl rfl hl.1 rfl dX12_inner_135 (fun H locs hC => ?_)
                refine lv_aload_n hx hb dX12_inner_138 rfl (lv_at hl 1 rfl) ?_
                refine lv_dup hx hb dX12_inner_139 rfl ?_
                refine gt_X12_482_m hx hb hta hown hK hC dX12_inner_140 ?_
                refine lv_iconst (v := 1) hx hb dX12_inner_143 (by decide) ?_
                refine lv_isub hx hb dX12_inner_144 ?_
                obtain ⟨s_28, e_28, hf⟩ := lt_inv hf
                refine pt_X12_482_m hx hb hta hown hK hC e_28 dX12_inner_145 (fun H locs hC => ?_)
                refine lv_aload_n hx hb dX12_inner_148 rfl (lv_at hl 1 rfl) ?_
                refine lv_iconst (v := 4) hx hb dX12_inner_149 (by decide) ?_
                refine lv_iload_n hx hb dX12_inner_150 rfl (lv_at hl 2 rfl) ?_
                obtain ⟨s_29, hc_29, hf⟩ := cals_inv hf
                refine cc_Vv (r_X12_opens (D := D) (y := y) (o := o) (ad := ad) (av := av) hc_29 l) hx hb hml hta hown hK hN hV hA hC hRc hRs (by omega) (by omega) wq_1285 (q := 0) (ci := 12) rfl rfl wq_1286 wq_1287 wq_1012 wq_1270 hd_X12_opens (As := [.int 4, .int x1]) (rest := []) rfl rfl hl.1 rfl dX12_inner_151 (fun H locs hC => ?_)
                refine lv_aload_n hx hb dX12_inner_154 rfl (lv_at hl 1 rfl) ?_
                refine lv_iload_n hx hb dX12_inner_155 rfl (lv_at hl 2 rfl) ?_
                refine lv_aload_n hx hb dX12_inner_156 rfl (lv_at hl 1 rfl) ?_
                refine gt_X12_53_m hx hb hta hown hK hC dX12_inner_157 ?_
                refine lv_aload_n hx hb dX12_inner_160 rfl (lv_at hl 1 rfl) ?_
                refine gt_X12_26_m hx hb hta hown hK hC dX12_inner_161 ?_
                refine lv_aload_n hx hb dX12_inner_164 rfl (lv_at hl 1 rfl) ?_
                refine gt_X12_50_m hx hb hta hown hK hC dX12_inner_165 ?_
                refine lv_iload_n hx hb dX12_inner_168 rfl (lv_at hl 2 rfl) ?_
                obtain ⟨hi_30, hf⟩ := ix_inv hf
                obtain ⟨v_30, e_30, hf⟩ := lt_inv hf
                refine al_M_14 hx hb hK hC hi_30 e_30 dX12_inner_169 ?_
                obtain ⟨hi_31, hf⟩ := ix_inv hf
                obtain ⟨v_31, e_31, hf⟩ := lt_inv hf
                refine al_M_6 hx hb hK hC hi_31 e_31 dX12_inner_170 ?_
                obtain ⟨hi_32, hf⟩ := ix_inv hf
                obtain ⟨v_32, e_32, hf⟩ := lt_inv hf
                refine al_M_15 hx hb hK hC hi_32 e_32 dX12_inner_171 ?_
                obtain ⟨s_33, hc_33, hf⟩ := cals_inv hf
                refine cc_Vv (h_X12_goes hc_33 l) hx hb hml hta hown hK hN hV hA hC hRc hRs (by omega) (by omega) wq_1288 (q := 0) (ci := 12) rfl rfl wq_1289 wq_1290 wq_1012 wq_1302 hd_X12_goes (As := [.int x1, .int v_32]) (rest := []) rfl rfl hl.1 rfl dX12_inner_172 (fun H locs hC => ?_)
                refine lv_aload_n hx hb dX12_inner_175 rfl (lv_at hl 1 rfl) ?_
                refine lv_iload_n hx hb dX12_inner_176 rfl (lv_at hl 2 rfl) ?_
                refine lv_iconst (v := 3) hx hb dX12_inner_177 (by decide) ?_
                obtain ⟨s_34, hc_34, hf⟩ := cals_inv hf
                refine cc_Vv (r_X12_closes (D := D) (y := y) (o := o) (ad := ad) (av := av) hc_34 l) hx hb hml hta hown hK hN hV hA hC hRc hRs (by omega) (by omega) wq_1291 (q := 0) (ci := 12) rfl rfl wq_1292 wq_1293 wq_1012 wq_1274 hd_X12_closes (As := [.int x1, .int 3]) (rest := []) rfl rfl hl.1 rfl dX12_inner_178 (fun H locs hC => ?_)
                refine lv_goto (tgt := 239) hx hb dX12_inner_181 (by decide) ?_
                exact hret _ _ _ _ _ (congrArg (WM y o) (Option.some.inj hf)) dX12_inner_239 hC
            refine lv_if_eq (tgt := 94) hx hb dX12_inner_68 (by decide) (fun c_35 => ?_) (fun c_35 => ?_)
            · have hf := it_t c_35 hf
              exact hj_94 _ _ _ _ hf hC (lv_sub hl [0, 1] rfl)
            · have hf := it_f c_35 hf
              refine lv_aload_n hx hb dX12_inner_71 rfl (lv_at hl 0 rfl) ?_
              refine lv_dup hx hb dX12_inner_72 rfl ?_
              refine gt_X12_482_m hx hb hta hown hK hC dX12_inner_73 ?_
              refine lv_iconst (v := 1) hx hb dX12_inner_76 (by decide) ?_
              refine lv_isub hx hb dX12_inner_77 ?_
              obtain ⟨s_36, e_36, hf⟩ := lt_inv hf
              refine pt_X12_482_m hx hb hta hown hK hC e_36 dX12_inner_78 (fun H locs hC => ?_)
              refine lv_aload_n hx hb dX12_inner_81 rfl (lv_at hl 0 rfl) ?_
              refine lv_bipush (v := 10) hx hb dX12_inner_82 (by decide) ?_
              refine lv_aload_n hx hb dX12_inner_84 rfl (lv_at hl 0 rfl) ?_
              refine gt_X12_56_m hx hb hta hown hK hC dX12_inner_85 ?_
              refine lv_iload_n hx hb dX12_inner_88 rfl (lv_at hl 1 rfl) ?_
              obtain ⟨hi_37, hf⟩ := ix_inv hf
              obtain ⟨v_37, e_37, hf⟩ := lt_inv hf
              refine al_M_16 hx hb hK hC hi_37 e_37 dX12_inner_89 ?_
              refine lv_iload_n hx hb dX12_inner_90 rfl (lv_at hl 1 rfl) ?_
              obtain ⟨s_38, hc_38, hf⟩ := cals_inv hf
              refine cc_Vv (r_X12_line (D := D) (y := y) (o := o) (ad := ad) (av := av) hc_38 l) hx hb hml hta hown hK hN hV hA hC hRc hRs (by omega) (by omega) wq_1271 (q := 0) (ci := 12) rfl rfl wq_1272 wq_1273 wq_1012 wq_1266 hd_X12_line (As := [.int 10, .int v_37, .int x1]) (rest := []) rfl rfl hl.1 rfl dX12_inner_91 (fun H locs hC => ?_)
              exact hj_94 _ _ _ _ hf hC (lv_sub hl [0, 1] rfl)
          · have hf := it_f c_8 hf
            refine lv_aload_n hx hb dX12_inner_54 rfl (lv_at hl 0 rfl) ?_
            refine lv_iconst (v := 0) hx hb dX12_inner_55 (by decide) ?_
            refine lv_iload_n hx hb dX12_inner_56 rfl (lv_at hl 1 rfl) ?_
            refine lv_iload_n hx hb dX12_inner_57 rfl (lv_at hl 3 rfl) ?_
            obtain ⟨s_39, hc_39, hf⟩ := cals_inv hf
            refine cc_Vv (r_X12_line (D := D) (y := y) (o := o) (ad := ad) (av := av) hc_39 l) hx hb hml hta hown hK hN hV hA hC hRc hRs (by omega) (by omega) wq_1271 (q := 0) (ci := 12) rfl rfl wq_1272 wq_1273 wq_1012 wq_1266 hd_X12_line (As := [.int 0, .int x1, .int x3_6]) (rest := []) rfl rfl hl.1 rfl dX12_inner_58 (fun H locs hC => ?_)
            obtain ⟨x3_40, e_40, hf⟩ := lt_inv hf
            refine lv_iinc (v := x3_40) (lv' := [(3, .int x3_40), (0, .ref (o 0)), (1, .int x1), (2, .int t0_3)]) hx hb dX12_inner_61 hl (k := 3) rfl e_40.symm (by decide) rfl (fun ls hl => ?_)
            refine lv_goto (tgt := 42) hx hb dX12_inner_64 (by decide) ?_
            exact ha_42 _ _ hf _ _ _ hC (lv_sub hl [1, 2, 3, 0] rfl)
        refine lv_if_eq (tgt := 35) hx hb dX12_inner_25 (by decide) (fun c_41 => ?_) (fun c_41 => ?_)
        · have hf := it_t c_41 hf
          exact hj_35 _ _ _ _ hf hC (lv_sub hl [1, 2, 0] rfl)
        · have hf := it_f c_41 hf
          refine lv_aload_n hx hb dX12_inner_28 rfl (lv_at hl 1 rfl) ?_
          refine lv_bipush (v := 9) hx hb dX12_inner_29 (by decide) ?_
          refine lv_iload_n hx hb dX12_inner_31 rfl (lv_at hl 2 rfl) ?_
          obtain ⟨s_42, hc_42, hf⟩ := cals_inv hf
          refine cc_Vv (r_X12_opens (D := D) (y := y) (o := o) (ad := ad) (av := av) hc_42 l) hx hb hml hta hown hK hN hV hA hC hRc hRs (by omega) (by omega) wq_1285 (q := 0) (ci := 12) rfl rfl wq_1286 wq_1287 wq_1012 wq_1270 hd_X12_opens (As := [.int 9, .int x1]) (rest := []) rfl rfl hl.1 rfl dX12_inner_32 (fun H locs hC => ?_)
          exact hj_35 _ _ _ _ hf hC (lv_sub hl [1, 2, 0] rfl)
      refine lv_icmp_eq (tgt := 22) hx hb dX12_inner_15 (by decide) (fun c_43 => ?_) (fun c_43 => ?_)
      · have hf := it_t c_43 hf
        refine lv_iconst (v := 0) hx hb dX12_inner_22 (by decide) ?_
        exact hj_23 _ _ _ _ hf hC hl
      · have hf := it_f c_43 hf
        refine lv_iconst (v := 1) hx hb dX12_inner_18 (by decide) ?_
        refine lv_goto (tgt := 23) hx hb dX12_inner_19 (by decide) ?_
        exact hj_23 _ _ _ _ hf hC hl
    · intro x1 x2 σ σ2 hf l sz
      have hf : b_X12_merges (f_X12_goes d) (f_X12_inner d) (f_X12_merges d) (f_X12_tells_ d) x1 x2 σ = some σ2 := hf
      refine met_v (by decide) (Nat.le_of_ble_eq_true rfl) ?_
      intro p e R s m args below meth c Q A ls hx hb hml hta hown hRc hRs hRf hRl hN hK hV hA hret hC hl
      have hl : lv_has ls 5 [(0, .ref (o 0)), (1, .int x1), (2, .int x2)] := hl
      unfold b_X12_merges at hf
      refine lv_iconst (v := (-1)) hx hb dX12_merges_0 (by decide) ?_
      refine lv_istore_n (lv' := [(3, .int (-1)), (0, .ref (o 0)), (1, .int x1), (2, .int x2)]) hx hb dX12_merges_1 rfl hl (by decide) rfl (fun ls hl => ?_)
      refine lv_iconst (v := 0) hx hb dX12_merges_2 (by decide) ?_
      refine lv_istore (lv' := [(4, .int 0), (3, .int (-1)), (0, .ref (o 0)), (1, .int x1), (2, .int x2)]) hx hb dX12_merges_3 hl (by decide) rfl (fun ls hl => ?_)
      refine itr_inv2 (P := fun (x3_1 : Int32) (x4_1 : Int32) => ∀ (H : Heap) (locs : List Loc) (ls : Array Slot), CZ D A s H locs (WM y o σ) → lv_has ls 5 [(0, .ref (o 0)), (1, .int x1), (2, .int x2), (3, .int x3_1), (4, .int x4_1)] → W p l e R s m args below meth c H locs 0 0 Q (F0 m 5 ls [])) hf ?_ _ _ _ hC (lv_sub hl [2, 3, 4, 1, 0] rfl)
      intro a_5 x3_1 x4_1 ha_5 hf H locs ls hC hl
      refine lv_iload hx hb dX12_merges_5 (lv_at hl 4 rfl) ?_
      refine lv_aload_n hx hb dX12_merges_7 rfl (lv_at hl 0 rfl) ?_
      refine gt_X12_299_m hx hb hta hown hK hC dX12_merges_8 ?_
      refine lv_icmp_ge (tgt := 75) hx hb dX12_merges_11 (by decide) (fun c_2 => ?_) (fun c_2 => ?_)
      · have hf := it_t c_2 hf
        refine lv_iload_n hx hb dX12_merges_75 rfl (lv_at hl 3 rfl) ?_
        refine lv_iconst (v := (-1)) hx hb dX12_merges_76 (by decide) ?_
        refine lv_icmp_ne (tgt := 86) hx hb dX12_merges_77 (by decide) (fun c_3 => ?_) (fun c_3 => ?_)
        · have hf := it_f c_3 hf
          refine lv_aload_n hx hb dX12_merges_86 rfl (lv_at hl 0 rfl) ?_
          refine lv_iconst (v := 2) hx hb dX12_merges_87 (by decide) ?_
          refine lv_iload_n hx hb dX12_merges_88 rfl (lv_at hl 3 rfl) ?_
          obtain ⟨s_5, hc_5, hf⟩ := cals_inv hf
          refine cc_Vv (r_X12_opens (D := D) (y := y) (o := o) (ad := ad) (av := av) hc_5 l) hx hb hml hta hown hK hN hV hA hC hRc hRs (by omega) (by omega) wq_1285 (q := 0) (ci := 12) rfl rfl wq_1286 wq_1287 wq_1012 wq_1270 hd_X12_opens (As := [.int 2, .int x3_1]) (rest := []) rfl rfl hl.1 rfl dX12_merges_89 (fun H locs hC => ?_)
          refine lv_aload_n hx hb dX12_merges_92 rfl (lv_at hl 0 rfl) ?_
          refine lv_iload_n hx hb dX12_merges_93 rfl (lv_at hl 1 rfl) ?_
          refine lv_aload_n hx hb dX12_merges_94 rfl (lv_at hl 0 rfl) ?_
          refine gt_X12_82_m hx hb hta hown hK hC dX12_merges_95 ?_
          refine lv_iload_n hx hb dX12_merges_98 rfl (lv_at hl 3 rfl) ?_
          obtain ⟨hi_6, hf⟩ := ix_inv hf
          obtain ⟨v_6, e_6, hf⟩ := lt_inv hf
          refine al_M_24 hx hb hK hC hi_6 e_6 dX12_merges_99 ?_
          obtain ⟨s_7, hc_7, hf⟩ := cals_inv hf
          refine cc_Vv (h_X12_merges hc_7 l) hx hb hml hta hown hK hN hV hA hC hRc hRs (by omega) (by omega) wq_1298 (q := 0) (ci := 12) rfl rfl wq_1299 wq_1300 wq_1012 wq_1294 hd_X12_merges (As := [.int x1, .int v_6]) (rest := []) rfl rfl hl.1 rfl dX12_merges_100 (fun H locs hC => ?_)
          refine lv_aload_n hx hb dX12_merges_103 rfl (lv_at hl 0 rfl) ?_
          refine lv_iload_n hx hb dX12_merges_104 rfl (lv_at hl 3 rfl) ?_
          refine lv_iconst (v := 2) hx hb dX12_merges_105 (by decide) ?_
          obtain ⟨s_8, hc_8, hf⟩ := cals_inv hf
          refine cc_Vv (r_X12_closes (D := D) (y := y) (o := o) (ad := ad) (av := av) hc_8 l) hx hb hml hta hown hK hN hV hA hC hRc hRs (by omega) (by omega) wq_1291 (q := 0) (ci := 12) rfl rfl wq_1292 wq_1293 wq_1012 wq_1274 hd_X12_closes (As := [.int x3_1, .int 2]) (rest := []) rfl rfl hl.1 rfl dX12_merges_106 (fun H locs hC => ?_)
          refine lv_aload_n hx hb dX12_merges_109 rfl (lv_at hl 0 rfl) ?_
          refine lv_iload_n hx hb dX12_merges_110 rfl (lv_at hl 3 rfl) ?_
          obtain ⟨s_9, hc_9, hf⟩ := cals_inv hf
          refine cc_Vv (h_X12_tells_ hc_9 l) hx hb hml hta hown hK hN hV hA hC hRc hRs (by omega) (by omega) wq_1281 (q := 0) (ci := 12) rfl rfl wq_1282 wq_1283 wq_1012 wq_1301 hd_X12_tells_ (As := [.int x3_1]) (rest := []) rfl rfl hl.1 rfl dX12_merges_111 (fun H locs hC => ?_)
          exact hret _ _ _ _ _ (congrArg (WM y o) (Option.some.inj hf)) dX12_merges_114 hC
        · have hf := it_t c_3 hf
          refine lv_aload_n hx hb dX12_merges_80 rfl (lv_at hl 0 rfl) ?_
          refine lv_iload_n hx hb dX12_merges_81 rfl (lv_at hl 1 rfl) ?_
          obtain ⟨s_4, hc_4, hf⟩ := cals_inv hf
          refine cc_Vv (h_X12_inner hc_4 l) hx hb hml hta hown hK hN hV hA hC hRc hRs (by omega) (by omega) wq_1295 (q := 0) (ci := 12) rfl rfl wq_1296 wq_1297 wq_1012 wq_1284 hd_X12_inner (As := [.int x1]) (rest := []) rfl rfl hl.1 rfl dX12_merges_82 (fun H locs hC => ?_)
          exact hret _ _ _ _ _ (congrArg (WM y o) (Option.some.inj hf)) dX12_merges_85 hC
      · have hf := it_f c_2 hf
        refine lv_aload_n hx hb dX12_merges_14 rfl (lv_at hl 0 rfl) ?_
        refine gt_X12_85_m hx hb hta hown hK hC dX12_merges_15 ?_
        refine lv_iload hx hb dX12_merges_18 (lv_at hl 4 rfl) ?_
        obtain ⟨hi_10, hf⟩ := ix_inv hf
        obtain ⟨v_10, e_10, hf⟩ := lt_inv hf
        refine al_M_25 hx hb hK hC hi_10 e_10 dX12_merges_20 ?_
        refine lv_iload_n hx hb dX12_merges_21 rfl (lv_at hl 1 rfl) ?_
        obtain ⟨k_69, hk_69, hf⟩ := jn_inv1 hf
        have hj_69 : ∀ (x3_11 : Int32) (H : Heap) (locs : List Loc) (ls : Array Slot), k_69 x3_11 = some σ2 → CZ D A s H locs (WM y o σ) → lv_has ls 5 [(0, .ref (o 0)), (1, .int x1), (2, .int x2), (3, .int x3_11), (4, .int x4_1)] → W p l e R s m args below meth c H locs 0 0 Q (F0 m 69 ls []) := by
          intro x3_11 H locs ls hf hC hl
          have hf := hk_69 _ hf
          obtain ⟨x4_12, e_12, hf⟩ := lt_inv hf
          refine lv_iinc (v := x4_12) (lv' := [(4, .int x4_12), (0, .ref (o 0)), (1, .int x1), (2, .int x2), (3, .int x3_11)]) hx hb dX12_merges_69 hl (k := 4) rfl e_12.symm (by decide) rfl (fun ls hl => ?_)
          refine lv_goto (tgt := 5) hx hb dX12_merges_72 (by decide) ?_
          exact ha_5 _ _ hf _ _ _ hC (lv_sub hl [1, 2, 3, 4, 0] rfl)
        refine lv_icmp_ne (tgt := 69) hx hb dX12_merges_22 (by decide) (fun c_13 => ?_) (fun c_13 => ?_)
        · have hf := it_f c_13 hf
          exact hj_69 _ _ _ _ hf hC hl
        · have hf := it_t c_13 hf
          refine lv_aload_n hx hb dX12_merges_25 rfl (lv_at hl 0 rfl) ?_
          refine lv_iload hx hb dX12_merges_26 (lv_at hl 4 rfl) ?_
          obtain ⟨v_14, hc_14, hf⟩ := calp_inv hf
          refine cc_Vi (r_X12_isMerge (D := D) (y := y) (o := o) (ad := ad) (av := av) hc_14 l) hx hb hml hta hown hK hN hV hA hC hRc hRs (by omega) (by omega) wq_1278 (q := 0) (ci := 12) rfl rfl wq_1279 wq_1280 wq_1012 wq_1269 hd_X12_isMerge (As := [.int x4_1]) (rest := []) rfl rfl hl.1 rfl dX12_merges_28 (fun H locs hC => ?_)
          refine lv_if_eq (tgt := 69) hx hb dX12_merges_31 (by decide) (fun c_15 => ?_) (fun c_15 => ?_)
          · have hf := it_t c_15 hf
            exact hj_69 _ _ _ _ hf hC hl
          · have hf := it_f c_15 hf
            refine lv_aload_n hx hb dX12_merges_34 rfl (lv_at hl 0 rfl) ?_
            refine gt_X12_82_m hx hb hta hown hK hC dX12_merges_35 ?_
            refine lv_iload hx hb dX12_merges_38 (lv_at hl 4 rfl) ?_
            obtain ⟨hi_16, hf⟩ := ix_inv hf
            obtain ⟨v_16, e_16, hf⟩ := lt_inv hf
            refine al_M_24 hx hb hK hC hi_16 e_16 dX12_merges_40 ?_
            refine lv_iload_n hx hb dX12_merges_41 rfl (lv_at hl 2 rfl) ?_
            refine lv_icmp_ge (tgt := 69) hx hb dX12_merges_42 (by decide) (fun c_17 => ?_) (fun c_17 => ?_)
            · have hf := it_t c_17 hf
              exact hj_69 _ _ _ _ hf hC hl
            · have hf := it_f c_17 hf
              refine lv_iload_n hx hb dX12_merges_45 rfl (lv_at hl 3 rfl) ?_
              refine lv_iconst (v := (-1)) hx hb dX12_merges_46 (by decide) ?_
              obtain ⟨k_66, hk_66, hf⟩ := jn_inv0 hf
              have hj_66 : ∀  (H : Heap) (locs : List Loc) (ls : Array Slot), k_66 = some σ2 → CZ D A s H locs (WM y o σ) → lv_has ls 5 [(0, .ref (o 0)), (1, .int x1), (2, .int x2), (4, .int x4_1)] → W p l e R s m args below meth c H locs 0 0 Q (F0 m 66 ls []) := by
                intro H locs ls hf hC hl
                have hf := hk_66 hf
                refine lv_iload hx hb dX12_merges_66 (lv_at hl 3 rfl) ?_
                refine lv_istore_n (lv' := [(3, .int x4_1), (0, .ref (o 0)), (1, .int x1), (2, .int x2), (4, .int x4_1)]) hx hb dX12_merges_68 rfl hl (by decide) rfl (fun ls hl => ?_)
                exact hj_69 _ _ _ _ hf hC (lv_sub hl [1, 2, 3, 0, 4] rfl)
              refine lv_icmp_eq (tgt := 66) hx hb dX12_merges_47 (by decide) (fun c_19 => ?_) (fun c_19 => ?_)
              · have hf := it_t c_19 hf
                exact hj_66 _ _ _ hf hC (lv_sub hl [0, 1, 2, 4] rfl)
              · have hf := it_f c_19 hf
                refine lv_aload_n hx hb dX12_merges_50 rfl (lv_at hl 0 rfl) ?_
                refine gt_X12_82_m hx hb hta hown hK hC dX12_merges_51 ?_
                refine lv_iload hx hb dX12_merges_54 (lv_at hl 4 rfl) ?_
                obtain ⟨hi_20, hf⟩ := ix_inv hf
                obtain ⟨v_20, e_20, hf⟩ := lt_inv hf
                refine al_M_24 hx hb hK hC hi_20 e_20 dX12_merges_56 ?_
                refine lv_aload_n hx hb dX12_merges_57 rfl (lv_at hl 0 rfl) ?_
                refine gt_X12_82_m hx hb hta hown hK hC dX12_merges_58 ?_
                refine lv_iload_n hx hb dX12_merges_61 rfl (lv_at hl 3 rfl) ?_
                obtain ⟨hi_21, hf⟩ := ix_inv hf
                obtain ⟨v_21, e_21, hf⟩ := lt_inv hf
                refine al_M_24 hx hb hK hC hi_21 e_21 dX12_merges_62 ?_
                refine lv_icmp_le (tgt := 69) hx hb dX12_merges_63 (by decide) (fun c_22 => ?_) (fun c_22 => ?_)
                · have hf := it_t c_22 hf
                  exact hj_69 _ _ _ _ hf hC hl
                · have hf := it_f c_22 hf
                  exact hj_66 _ _ _ hf hC (lv_sub hl [0, 1, 2, 4] rfl)
    · intro x1 σ σ2 hf l sz
      have hf : b_X12_tells_ (f_X12_goes d) (f_X12_inner d) (f_X12_merges d) (f_X12_tells_ d) x1 σ = some σ2 := hf
      refine met_v (by decide) (Nat.le_of_ble_eq_true rfl) ?_
      intro p e R s m args below meth c Q A ls hx hb hml hta hown hRc hRs hRf hRl hN hK hV hA hret hC hl
      have hl : lv_has ls 2 [(0, .ref (o 0)), (1, .int x1)] := hl
      unfold b_X12_tells_ at hf
      refine lv_aload_n hx hb dX12_tells__0 rfl (lv_at hl 0 rfl) ?_
      refine gt_X12_79_m hx hb hta hown hK hC dX12_tells__1 ?_
      refine lv_iload_n hx hb dX12_tells__4 rfl (lv_at hl 1 rfl) ?_
      obtain ⟨hi_1, hf⟩ := ix_inv hf
      obtain ⟨v_1, e_1, hf⟩ := lt_inv hf
      refine al_M_23 hx hb hK hC hi_1 e_1 dX12_tells__5 ?_
      refine lv_lconst (v := 0) hx hb dX12_tells__6 rfl ?_
      refine W.lcmp hx hb dX12_tells__7 ?_
      obtain ⟨k_17, hk_17, hf⟩ := jn_inv1 hf
      have hj_17 : ∀ (s_2 : Sto) (H : Heap) (locs : List Loc) (ls : Array Slot), k_17 s_2 = some σ2 → CZ D A s H locs (WM y o s_2) → lv_has ls 2 [(0, .ref (o 0)), (1, .int x1)] → W p l e R s m args below meth c H locs 0 0 Q (F0 m 17 ls []) := by
        intro s_2 H locs ls hf hC hl
        have hf := hk_17 _ hf
        refine lv_aload_n hx hb dX12_tells__17 rfl (lv_at hl 0 rfl) ?_
        refine lv_iload_n hx hb dX12_tells__18 rfl (lv_at hl 1 rfl) ?_
        refine lv_aload_n hx hb dX12_tells__19 rfl (lv_at hl 0 rfl) ?_
        refine gt_X12_299_m hx hb hta hown hK hC dX12_tells__20 ?_
        obtain ⟨s_3, hc_3, hf⟩ := cals_inv hf
        refine cc_Vv (h_X12_merges hc_3 l) hx hb hml hta hown hK hN hV hA hC hRc hRs (by omega) (by omega) wq_1298 (q := 0) (ci := 12) rfl rfl wq_1299 wq_1300 wq_1012 wq_1294 hd_X12_merges (As := [.int x1, .int (s_2.1 26 0)]) (rest := []) rfl rfl hl.1 rfl dX12_tells__23 (fun H locs hC => ?_)
        refine lv_aload_n hx hb dX12_tells__26 rfl (lv_at hl 0 rfl) ?_
        refine gt_X12_79_m hx hb hta hown hK hC dX12_tells__27 ?_
        refine lv_iload_n hx hb dX12_tells__30 rfl (lv_at hl 1 rfl) ?_
        obtain ⟨hi_4, hf⟩ := ix_inv hf
        obtain ⟨v_4, e_4, hf⟩ := lt_inv hf
        refine al_M_23 hx hb hK hC hi_4 e_4 dX12_tells__31 ?_
        refine lv_lconst (v := 0) hx hb dX12_tells__32 rfl ?_
        refine W.lcmp hx hb dX12_tells__33 ?_
        refine lv_if_eq (tgt := 43) hx hb dX12_tells__34 (by decide) (fun c_5 => ?_) (fun c_5 => ?_)
        · have hf := it_t c_5 hf
          exact hret _ _ _ _ _ (congrArg (WM y o) (Option.some.inj hf)) dX12_tells__43 hC
        · have hf := it_f c_5 hf
          refine lv_aload_n hx hb dX12_tells__37 rfl (lv_at hl 0 rfl) ?_
          refine lv_iload_n hx hb dX12_tells__38 rfl (lv_at hl 1 rfl) ?_
          refine lv_iconst (v := 1) hx hb dX12_tells__39 (by decide) ?_
          obtain ⟨s_6, hc_6, hf⟩ := cals_inv hf
          refine cc_Vv (r_X12_closes (D := D) (y := y) (o := o) (ad := ad) (av := av) hc_6 l) hx hb hml hta hown hK hN hV hA hC hRc hRs (by omega) (by omega) wq_1291 (q := 0) (ci := 12) rfl rfl wq_1292 wq_1293 wq_1012 wq_1274 hd_X12_closes (As := [.int x1, .int 1]) (rest := []) rfl rfl hl.1 rfl dX12_tells__40 (fun H locs hC => ?_)
          exact hret _ _ _ _ _ (congrArg (WM y o) (Option.some.inj hf)) dX12_tells__43 hC
      refine lv_if_eq (tgt := 17) hx hb dX12_tells__8 (by decide) (fun c_7 => ?_) (fun c_7 => ?_)
      · have hf := it_t c_7 hf
        exact hj_17 _ _ _ _ hf hC hl
      · have hf := it_f c_7 hf
        refine lv_aload_n hx hb dX12_tells__11 rfl (lv_at hl 0 rfl) ?_
        refine lv_iconst (v := 1) hx hb dX12_tells__12 (by decide) ?_
        refine lv_iload_n hx hb dX12_tells__13 rfl (lv_at hl 1 rfl) ?_
        obtain ⟨s_8, hc_8, hf⟩ := cals_inv hf
        refine cc_Vv (r_X12_opens (D := D) (y := y) (o := o) (ad := ad) (av := av) hc_8 l) hx hb hml hta hown hK hN hV hA hC hRc hRs (by omega) (by omega) wq_1285 (q := 0) (ci := 12) rfl rfl wq_1286 wq_1287 wq_1012 wq_1270 hd_X12_opens (As := [.int 1, .int x1]) (rest := []) rfl rfl hl.1 rfl dX12_tells__14 (fun H locs hC => ?_)
        exact hj_17 _ _ _ _ hf hC hl
theorem r_X12_goes (d : Nat) {D : va_G} {y : Nat → ClassId} {o : Nat → Nat} {ad av : Nat → Nat} {x1 : Int32} {x2 : Int32} {σ : Sto} {σ2 : Sto} (hf : f_X12_goes d x1 x2 σ = some σ2) (l : Launch) (sz : Nat) : Met l yX12_goes (Cond.code yX12_goes cX12_goes 4 none :: ALW) { frames := d + 10, cells := 0, slots := 0, locals := d * 24 + 242 } (va_Pc [.ref (o 0), .int x1, .int x2] (PZ D y ad av (WM y o σ) sz)) (QZv D (WM y o σ) (WM y o σ2) sz) 0 0 (va_A (WM y o σ) sz) := (rg_X12_goes d).1 hf l sz
theorem r_X12_inner (d : Nat) {D : va_G} {y : Nat → ClassId} {o : Nat → Nat} {ad av : Nat → Nat} {x1 : Int32} {σ : Sto} {σ2 : Sto} (hf : f_X12_inner d x1 σ = some σ2) (l : Launch) (sz : Nat) : Met l yX12_inner (Cond.code yX12_inner cX12_inner 4 none :: ALW) { frames := d + 10, cells := 0, slots := 0, locals := d * 24 + 242 } (va_Pc [.ref (o 0), .int x1] (PZ D y ad av (WM y o σ) sz)) (QZv D (WM y o σ) (WM y o σ2) sz) 0 0 (va_A (WM y o σ) sz) := (rg_X12_goes d).2.1 hf l sz
theorem r_X12_merges (d : Nat) {D : va_G} {y : Nat → ClassId} {o : Nat → Nat} {ad av : Nat → Nat} {x1 : Int32} {x2 : Int32} {σ : Sto} {σ2 : Sto} (hf : f_X12_merges d x1 x2 σ = some σ2) (l : Launch) (sz : Nat) : Met l yX12_merges (Cond.code yX12_merges cX12_merges 5 none :: ALW) { frames := d + 10, cells := 0, slots := 0, locals := d * 24 + 242 } (va_Pc [.ref (o 0), .int x1, .int x2] (PZ D y ad av (WM y o σ) sz)) (QZv D (WM y o σ) (WM y o σ2) sz) 0 0 (va_A (WM y o σ) sz) := (rg_X12_goes d).2.2.1 hf l sz
theorem r_X12_tells_ (d : Nat) {D : va_G} {y : Nat → ClassId} {o : Nat → Nat} {ad av : Nat → Nat} {x1 : Int32} {σ : Sto} {σ2 : Sto} (hf : f_X12_tells_ d x1 σ = some σ2) (l : Launch) (sz : Nat) : Met l yX12_tells_ (Cond.code yX12_tells_ cX12_tells_ 2 none :: ALW) { frames := d + 10, cells := 0, slots := 0, locals := d * 24 + 242 } (va_Pc [.ref (o 0), .int x1] (PZ D y ad av (WM y o σ) sz)) (QZv D (WM y o σ) (WM y o σ2) sz) 0 0 (va_A (WM y o σ) sz) := (rg_X12_goes d).2.2.2 hf l sz

set_option maxHeartbeats 8000000 in
set_option maxRecDepth 100000 in
theorem r_X12_thins {D : va_G} {y : Nat → ClassId} {o : Nat → Nat} {ad av : Nat → Nat} {σ : Sto} {σ2 : Sto} (hf : f_X12_thins σ = some σ2) (l : Launch) (sz : Nat) : Met l yX12_thins (Cond.code yX12_thins cX12_thins 3 none :: ALW) { frames := 0, cells := 0, slots := 0, locals := 0 } (va_Pc [.ref (o 0)] (PZ D y ad av (WM y o σ) sz)) (QZv D (WM y o σ) (WM y o σ2) sz) 0 0 (va_A (WM y o σ) sz) := by
  refine met_v (by decide) (Nat.le_of_ble_eq_true rfl) ?_
  intro p e R s m args below meth c Q A ls hx hb hml hta hown hRc hRs hRf hRl hN hK hV hA hret hC hl
  have hl : lv_has ls 3 [(0, .ref (o 0))] := hl
  unfold f_X12_thins at hf
  refine lv_iconst (v := 0) hx hb dX12_thins_0 (by decide) ?_
  refine lv_istore_n (lv' := [(1, .int 0), (0, .ref (o 0))]) hx hb dX12_thins_1 rfl hl (by decide) rfl (fun ls hl => ?_)
  refine lv_iconst (v := 0) hx hb dX12_thins_2 (by decide) ?_
  refine lv_istore_n (lv' := [(2, .int 0), (1, .int 0), (0, .ref (o 0))]) hx hb dX12_thins_3 rfl hl (by decide) rfl (fun ls hl => ?_)
  refine itr_inv3 (P := fun (x1_1 : Int32) (x2_1 : Int32) (s_1 : Sto) => ∀ (H : Heap) (locs : List Loc) (ls : Array Slot), CZ D A s H locs (WM y o s_1) → lv_has ls 3 [(0, .ref (o 0)), (1, .int x1_1), (2, .int x2_1)] → W p l e R s m args below meth c H locs 0 0 Q (F0 m 4 ls [])) hf ?_ _ _ _ hC (lv_sub hl [2, 1, 0] rfl)
  intro a_4 x1_1 x2_1 s_1 ha_4 hf H locs ls hC hl
  refine lv_iload_n hx hb dX12_thins_4 rfl (lv_at hl 2 rfl) ?_
  refine lv_aload_n hx hb dX12_thins_5 rfl (lv_at hl 0 rfl) ?_
  refine gt_X12_479_m hx hb hta hown hK hC dX12_thins_6 ?_
  refine lv_icmp_ge (tgt := 81) hx hb dX12_thins_9 (by decide) (fun c_2 => ?_) (fun c_2 => ?_)
  · have hf := it_t c_2 hf
    refine lv_aload_n hx hb dX12_thins_81 rfl (lv_at hl 0 rfl) ?_
    refine lv_iload_n hx hb dX12_thins_82 rfl (lv_at hl 1 rfl) ?_
    obtain ⟨s_3, e_3, hf⟩ := lt_inv hf
    refine pt_X12_479_m hx hb hta hown hK hC e_3 dX12_thins_83 (fun H locs hC => ?_)
    exact hret _ _ _ _ _ (congrArg (WM y o) (Option.some.inj hf)) dX12_thins_86 hC
  · have hf := it_f c_2 hf
    refine lv_aload_n hx hb dX12_thins_12 rfl (lv_at hl 0 rfl) ?_
    refine gt_X12_145_m hx hb hta hown hK hC dX12_thins_13 ?_
    refine lv_iload_n hx hb dX12_thins_16 rfl (lv_at hl 2 rfl) ?_
    obtain ⟨hi_4, hf⟩ := ix_inv hf
    obtain ⟨v_4, e_4, hf⟩ := lt_inv hf
    refine al_M_45 hx hb hK hC hi_4 e_4 dX12_thins_17 ?_
    obtain ⟨k_75, hk_75, hf⟩ := jn_inv2 hf
    have hj_75 : ∀ (x1_5 : Int32) (s_5 : Sto) (H : Heap) (locs : List Loc) (ls : Array Slot), k_75 x1_5 s_5 = some σ2 → CZ D A s H locs (WM y o s_5) → lv_has ls 3 [(0, .ref (o 0)), (1, .int x1_5), (2, .int x2_1)] → W p l e R s m args below meth c H locs 0 0 Q (F0 m 75 ls []) := by
      intro x1_5 s_5 H locs ls hf hC hl
      have hf := hk_75 _ _ hf
      obtain ⟨x2_6, e_6, hf⟩ := lt_inv hf
      refine lv_iinc (v := x2_6) (lv' := [(2, .int x2_6), (0, .ref (o 0)), (1, .int x1_5)]) hx hb dX12_thins_75 hl (k := 2) rfl e_6.symm (by decide) rfl (fun ls hl => ?_)
      refine lv_goto (tgt := 4) hx hb dX12_thins_78 (by decide) ?_
      exact ha_4 _ _ _ hf _ _ _ hC (lv_sub hl [1, 2, 0] rfl)
    refine lv_if_eq (tgt := 24) hx hb dX12_thins_18 (by decide) (fun c_7 => ?_) (fun c_7 => ?_)
    · have hf := it_t c_7 hf
      refine lv_aload_n hx hb dX12_thins_24 rfl (lv_at hl 0 rfl) ?_
      refine gt_X12_133_m hx hb hta hown hK hC dX12_thins_25 ?_
      refine lv_iload_n hx hb dX12_thins_28 rfl (lv_at hl 1 rfl) ?_
      refine lv_aload_n hx hb dX12_thins_29 rfl (lv_at hl 0 rfl) ?_
      refine gt_X12_133_m hx hb hta hown hK hC dX12_thins_30 ?_
      refine lv_iload_n hx hb dX12_thins_33 rfl (lv_at hl 2 rfl) ?_
      obtain ⟨hi_8, hf⟩ := ix_inv hf
      obtain ⟨v_8, e_8, hf⟩ := lt_inv hf
      refine al_M_41 hx hb hK hC hi_8 e_8 dX12_thins_34 ?_
      obtain ⟨hi_9, hf⟩ := ix_inv hf
      obtain ⟨s_9, e_9, hf⟩ := lt_inv hf
      refine as_M_41 hx hb hK hC hi_9 e_9 dX12_thins_35 (fun H locs hC => ?_)
      refine lv_aload_n hx hb dX12_thins_36 rfl (lv_at hl 0 rfl) ?_
      refine gt_X12_136_m hx hb hta hown hK hC dX12_thins_37 ?_
      refine lv_iload_n hx hb dX12_thins_40 rfl (lv_at hl 1 rfl) ?_
      refine lv_aload_n hx hb dX12_thins_41 rfl (lv_at hl 0 rfl) ?_
      refine gt_X12_136_m hx hb hta hown hK hC dX12_thins_42 ?_
      refine lv_iload_n hx hb dX12_thins_45 rfl (lv_at hl 2 rfl) ?_
      obtain ⟨hi_10, hf⟩ := ix_inv hf
      obtain ⟨v_10, e_10, hf⟩ := lt_inv hf
      refine al_M_42 hx hb hK hC hi_10 e_10 dX12_thins_46 ?_
      obtain ⟨hi_11, hf⟩ := ix_inv hf
      obtain ⟨s_11, e_11, hf⟩ := lt_inv hf
      refine as_M_42 hx hb hK hC hi_11 e_11 dX12_thins_47 (fun H locs hC => ?_)
      refine lv_aload_n hx hb dX12_thins_48 rfl (lv_at hl 0 rfl) ?_
      refine gt_X12_142_m hx hb hta hown hK hC dX12_thins_49 ?_
      refine lv_iload_n hx hb dX12_thins_52 rfl (lv_at hl 1 rfl) ?_
      refine lv_aload_n hx hb dX12_thins_53 rfl (lv_at hl 0 rfl) ?_
      refine gt_X12_142_m hx hb hta hown hK hC dX12_thins_54 ?_
      refine lv_iload_n hx hb dX12_thins_57 rfl (lv_at hl 2 rfl) ?_
      obtain ⟨hi_12, hf⟩ := ix_inv hf
      obtain ⟨v_12, e_12, hf⟩ := lt_inv hf
      refine al_M_44 hx hb hK hC hi_12 e_12 dX12_thins_58 ?_
      obtain ⟨hi_13, hf⟩ := ix_inv hf
      obtain ⟨s_13, e_13, hf⟩ := lt_inv hf
      refine as_M_44 hx hb hK hC hi_13 e_13 dX12_thins_59 (fun H locs hC => ?_)
      refine lv_aload_n hx hb dX12_thins_60 rfl (lv_at hl 0 rfl) ?_
      refine gt_X12_139_m hx hb hta hown hK hC dX12_thins_61 ?_
      refine lv_iload_n hx hb dX12_thins_64 rfl (lv_at hl 1 rfl) ?_
      refine lv_aload_n hx hb dX12_thins_65 rfl (lv_at hl 0 rfl) ?_
      refine gt_X12_139_m hx hb hta hown hK hC dX12_thins_66 ?_
      refine lv_iload_n hx hb dX12_thins_69 rfl (lv_at hl 2 rfl) ?_
      obtain ⟨hi_14, hf⟩ := ix_inv hf
      obtain ⟨v_14, e_14, hf⟩ := lt_inv hf
      refine al_M_43 hx hb hK hC hi_14 e_14 dX12_thins_70 ?_
      obtain ⟨hi_15, hf⟩ := ix_inv hf
      obtain ⟨s_15, e_15, hf⟩ := lt_inv hf
      refine as_M_43 hx hb hK hC hi_15 e_15 dX12_thins_71 (fun H locs hC => ?_)
      obtain ⟨x1_16, e_16, hf⟩ := lt_inv hf
      refine lv_iinc (v := x1_16) (lv' := [(1, .int x1_16), (0, .ref (o 0)), (2, .int x2_1)]) hx hb dX12_thins_72 hl (k := 1) rfl e_16.symm (by decide) rfl (fun ls hl => ?_)
      exact hj_75 _ _ _ _ _ hf hC (lv_sub hl [1, 0, 2] rfl)
    · have hf := it_f c_7 hf
      refine lv_goto (tgt := 75) hx hb dX12_thins_21 (by decide) ?_
      exact hj_75 _ _ _ _ _ hf hC hl

set_option maxHeartbeats 8000000 in
set_option maxRecDepth 100000 in
theorem r_X12_endOfIf {D : va_G} {y : Nat → ClassId} {o : Nat → Nat} {ad av : Nat → Nat} {x1 : Int32} {σ : Sto} {v : Int32} (hf : f_X12_endOfIf x1 σ = some v) (l : Launch) (sz : Nat) : Met l yX12_endOfIf (Cond.code yX12_endOfIf cX12_endOfIf 3 (some .int) :: ALW) { frames := 0, cells := 0, slots := 0, locals := 0 } (va_Pc [.ref (o 0), .int x1] (PZ D y ad av (WM y o σ) sz)) (QZi D (WM y o σ) v (WM y o σ) sz) 0 0 (va_A (WM y o σ) sz) := by
  refine met_i (by decide) (Nat.le_of_ble_eq_true rfl) ?_
  intro p e R s m args below meth c Q A ls hx hb hml hta hown hRc hRs hRf hRl hN hK hV hA hret hC hl
  have hl : lv_has ls 3 [(0, .ref (o 0)), (1, .int x1)] := hl
  unfold f_X12_endOfIf at hf
  refine lv_iload_n hx hb dX12_endOfIf_0 rfl (lv_at hl 1 rfl) ?_
  refine lv_iconst (v := 1) hx hb dX12_endOfIf_1 (by decide) ?_
  refine lv_iadd hx hb dX12_endOfIf_2 ?_
  obtain ⟨x2_1, e_1, hf⟩ := lt_inv hf
  refine nmi e_1 ?_
  refine lv_istore_n (lv' := [(2, .int x2_1), (0, .ref (o 0)), (1, .int x1)]) hx hb dX12_endOfIf_3 rfl hl (by decide) rfl (fun ls hl => ?_)
  refine itr_inv1 (P := fun (x2_2 : Int32) => ∀ (H : Heap) (locs : List Loc) (ls : Array Slot), CZ D A s H locs (WM y o σ) → lv_has ls 3 [(0, .ref (o 0)), (1, .int x1), (2, .int x2_2)] → W p l e R s m args below meth c H locs 0 0 Q (F0 m 4 ls [])) hf ?_ _ _ _ hC (lv_sub hl [1, 2, 0] rfl)
  intro a_4 x2_2 ha_4 hf H locs ls hC hl
  refine lv_aload_n hx hb dX12_endOfIf_4 rfl (lv_at hl 0 rfl) ?_
  refine gt_X12_133_m hx hb hta hown hK hC dX12_endOfIf_5 ?_
  refine lv_iload_n hx hb dX12_endOfIf_8 rfl (lv_at hl 2 rfl) ?_
  obtain ⟨hi_3, hf⟩ := ix_inv hf
  obtain ⟨v_3, e_3, hf⟩ := lt_inv hf
  refine al_M_41 hx hb hK hC hi_3 e_3 dX12_endOfIf_9 ?_
  refine lv_iconst (v := 5) hx hb dX12_endOfIf_10 (by decide) ?_
  obtain ⟨k_39, hk_39, hf⟩ := jn_inv0 hf
  have hj_39 : ∀  (H : Heap) (locs : List Loc) (ls : Array Slot), k_39 = some v → CZ D A s H locs (WM y o σ) → lv_has ls 3 [(0, .ref (o 0)), (1, .int x1), (2, .int x2_2)] → W p l e R s m args below meth c H locs 0 0 Q (F0 m 39 ls []) := by
    intro H locs ls hf hC hl
    have hf := hk_39 hf
    obtain ⟨x2_5, e_5, hf⟩ := lt_inv hf
    refine lv_iinc (v := x2_5) (lv' := [(2, .int x2_5), (0, .ref (o 0)), (1, .int x1)]) hx hb dX12_endOfIf_39 hl (k := 2) rfl e_5.symm (by decide) rfl (fun ls hl => ?_)
    refine lv_goto (tgt := 4) hx hb dX12_endOfIf_42 (by decide) ?_
    exact ha_4 _ hf _ _ _ hC (lv_sub hl [1, 2, 0] rfl)
  refine lv_icmp_ne (tgt := 39) hx hb dX12_endOfIf_11 (by decide) (fun c_6 => ?_) (fun c_6 => ?_)
  · have hf := it_f c_6 hf
    exact hj_39 _ _ _ hf hC hl
  · have hf := it_t c_6 hf
    refine lv_aload_n hx hb dX12_endOfIf_14 rfl (lv_at hl 0 rfl) ?_
    refine gt_X12_142_m hx hb hta hown hK hC dX12_endOfIf_15 ?_
    refine lv_iload_n hx hb dX12_endOfIf_18 rfl (lv_at hl 2 rfl) ?_
    obtain ⟨hi_7, hf⟩ := ix_inv hf
    obtain ⟨v_7, e_7, hf⟩ := lt_inv hf
    refine al_M_44 hx hb hK hC hi_7 e_7 dX12_endOfIf_19 ?_
    refine lv_iconst (v := 3) hx hb dX12_endOfIf_20 (by decide) ?_
    refine lv_icmp_ne (tgt := 39) hx hb dX12_endOfIf_21 (by decide) (fun c_8 => ?_) (fun c_8 => ?_)
    · have hf := it_f c_8 hf
      exact hj_39 _ _ _ hf hC hl
    · have hf := it_t c_8 hf
      refine lv_aload_n hx hb dX12_endOfIf_24 rfl (lv_at hl 0 rfl) ?_
      refine gt_X12_136_m hx hb hta hown hK hC dX12_endOfIf_25 ?_
      refine lv_iload_n hx hb dX12_endOfIf_28 rfl (lv_at hl 2 rfl) ?_
      obtain ⟨hi_9, hf⟩ := ix_inv hf
      obtain ⟨v_9, e_9, hf⟩ := lt_inv hf
      refine al_M_42 hx hb hK hC hi_9 e_9 dX12_endOfIf_29 ?_
      refine lv_aload_n hx hb dX12_endOfIf_30 rfl (lv_at hl 0 rfl) ?_
      refine gt_X12_136_m hx hb hta hown hK hC dX12_endOfIf_31 ?_
      refine lv_iload_n hx hb dX12_endOfIf_34 rfl (lv_at hl 1 rfl) ?_
      obtain ⟨hi_10, hf⟩ := ix_inv hf
      obtain ⟨v_10, e_10, hf⟩ := lt_inv hf
      refine al_M_42 hx hb hK hC hi_10 e_10 dX12_endOfIf_35 ?_
      refine lv_icmp_eq (tgt := 45) hx hb dX12_endOfIf_36 (by decide) (fun c_11 => ?_) (fun c_11 => ?_)
      · have hf := it_t c_11 hf
        refine lv_iload_n hx hb dX12_endOfIf_45 rfl (lv_at hl 2 rfl) ?_
        exact hret _ _ _ _ _ _ (Option.some.inj hf) rfl rfl dX12_endOfIf_46 hC
      · have hf := it_f c_11 hf
        exact hj_39 _ _ _ hf hC hl

set_option maxHeartbeats 8000000 in
set_option maxRecDepth 100000 in
theorem r_X12_isIdle {D : va_G} {y : Nat → ClassId} {o : Nat → Nat} {ad av : Nat → Nat} {x1 : Int32} {σ : Sto} {v : Int32} (hf : f_X12_isIdle x1 σ = some v) (l : Launch) (sz : Nat) : Met l yX12_isIdle (Cond.code yX12_isIdle cX12_isIdle 3 (some .boolean) :: ALW) { frames := 1, cells := 0, slots := 0, locals := 22 } (va_Pc [.ref (o 0), .int x1] (PZ D y ad av (WM y o σ) sz)) (QZi D (WM y o σ) v (WM y o σ) sz) 0 0 (va_A (WM y o σ) sz) := by
  refine met_i (by decide) (Nat.le_of_ble_eq_true rfl) ?_
  intro p e R s m args below meth c Q A ls hx hb hml hta hown hRc hRs hRf hRl hN hK hV hA hret hC hl
  have hl : lv_has ls 3 [(0, .ref (o 0)), (1, .int x1)] := hl
  unfold f_X12_isIdle at hf
  refine lv_iload_n hx hb dX12_isIdle_0 rfl (lv_at hl 1 rfl) ?_
  refine lv_iconst (v := 1) hx hb dX12_isIdle_1 (by decide) ?_
  refine lv_iadd hx hb dX12_isIdle_2 ?_
  obtain ⟨x2_1, e_1, hf⟩ := lt_inv hf
  refine nmi e_1 ?_
  refine lv_istore_n (lv' := [(2, .int x2_1), (0, .ref (o 0)), (1, .int x1)]) hx hb dX12_isIdle_3 rfl hl (by decide) rfl (fun ls hl => ?_)
  refine itr_inv1 (P := fun (x2_2 : Int32) => ∀ (H : Heap) (locs : List Loc) (ls : Array Slot), CZ D A s H locs (WM y o σ) → lv_has ls 3 [(0, .ref (o 0)), (1, .int x1), (2, .int x2_2)] → W p l e R s m args below meth c H locs 0 0 Q (F0 m 4 ls [])) hf ?_ _ _ _ hC (lv_sub hl [1, 2, 0] rfl)
  intro a_4 x2_2 ha_4 hf H locs ls hC hl
  refine lv_iload_n hx hb dX12_isIdle_4 rfl (lv_at hl 2 rfl) ?_
  refine lv_aload_n hx hb dX12_isIdle_5 rfl (lv_at hl 0 rfl) ?_
  refine gt_X12_479_m hx hb hta hown hK hC dX12_isIdle_6 ?_
  refine lv_icmp_ge (tgt := 96) hx hb dX12_isIdle_9 (by decide) (fun c_3 => ?_) (fun c_3 => ?_)
  · have hf := it_t c_3 hf
    refine lv_iconst (v := 0) hx hb dX12_isIdle_96 (by decide) ?_
    exact hret _ _ _ _ _ _ (Option.some.inj hf) rfl rfl dX12_isIdle_97 hC
  · have hf := it_f c_3 hf
    refine lv_aload_n hx hb dX12_isIdle_12 rfl (lv_at hl 0 rfl) ?_
    refine gt_X12_133_m hx hb hta hown hK hC dX12_isIdle_13 ?_
    refine lv_iload_n hx hb dX12_isIdle_16 rfl (lv_at hl 2 rfl) ?_
    obtain ⟨hi_4, hf⟩ := ix_inv hf
    obtain ⟨v_4, e_4, hf⟩ := lt_inv hf
    refine al_M_41 hx hb hK hC hi_4 e_4 dX12_isIdle_17 ?_
    refine lv_iconst (v := 5) hx hb dX12_isIdle_18 (by decide) ?_
    obtain ⟨k_32, hk_32, hf⟩ := jn_inv0 hf
    have hj_32 : ∀  (H : Heap) (locs : List Loc) (ls : Array Slot), k_32 = some v → CZ D A s H locs (WM y o σ) → lv_has ls 3 [(0, .ref (o 0)), (1, .int x1), (2, .int x2_2)] → W p l e R s m args below meth c H locs 0 0 Q (F0 m 32 ls []) := by
      intro H locs ls hf hC hl
      have hf := hk_32 hf
      refine lv_aload_n hx hb dX12_isIdle_32 rfl (lv_at hl 0 rfl) ?_
      refine gt_X12_133_m hx hb hta hown hK hC dX12_isIdle_33 ?_
      refine lv_iload_n hx hb dX12_isIdle_36 rfl (lv_at hl 2 rfl) ?_
      obtain ⟨hi_6, hf⟩ := ix_inv hf
      obtain ⟨v_6, e_6, hf⟩ := lt_inv hf
      refine al_M_41 hx hb hK hC hi_6 e_6 dX12_isIdle_37 ?_
      refine lv_iconst (v := 5) hx hb dX12_isIdle_38 (by decide) ?_
      obtain ⟨k_69, hk_69, hf⟩ := jn_inv0 hf
      have hj_69 : ∀  (H : Heap) (locs : List Loc) (ls : Array Slot), k_69 = some v → CZ D A s H locs (WM y o σ) → lv_has ls 3 [(0, .ref (o 0)), (1, .int x1), (2, .int x2_2)] → W p l e R s m args below meth c H locs 0 0 Q (F0 m 69 ls []) := by
        intro H locs ls hf hC hl
        have hf := hk_69 hf
        refine lv_aload_n hx hb dX12_isIdle_69 rfl (lv_at hl 0 rfl) ?_
        refine gt_X12_133_m hx hb hta hown hK hC dX12_isIdle_70 ?_
        refine lv_iload_n hx hb dX12_isIdle_73 rfl (lv_at hl 2 rfl) ?_
        obtain ⟨hi_8, hf⟩ := ix_inv hf
        obtain ⟨v_8, e_8, hf⟩ := lt_inv hf
        refine al_M_41 hx hb hK hC hi_8 e_8 dX12_isIdle_74 ?_
        refine lv_iconst (v := 4) hx hb dX12_isIdle_75 (by decide) ?_
        obtain ⟨k_92, hk_92, hf⟩ := jn_inv1 hf
        have hj_92 : ∀ (t0_9 : Int32) (H : Heap) (locs : List Loc) (ls : Array Slot), k_92 t0_9 = some v → CZ D A s H locs (WM y o σ) → lv_has ls 3 [(0, .ref (o 0)), (1, .int x1)] → W p l e R s m args below meth c H locs 0 0 Q (F0 m 92 ls [.int t0_9]) := by
          intro t0_9 H locs ls hf hC hl
          have hf := hk_92 _ hf
          refine lv_istore_n (lv' := [(2, .int t0_9), (0, .ref (o 0)), (1, .int x1)]) hx hb dX12_isIdle_92 rfl hl (by decide) rfl (fun ls hl => ?_)
          refine lv_goto (tgt := 4) hx hb dX12_isIdle_93 (by decide) ?_
          exact ha_4 _ hf _ _ _ hC (lv_sub hl [1, 2, 0] rfl)
        refine lv_icmp_ne (tgt := 89) hx hb dX12_isIdle_76 (by decide) (fun c_10 => ?_) (fun c_10 => ?_)
        · have hf := it_f c_10 hf
          refine lv_iload_n hx hb dX12_isIdle_89 rfl (lv_at hl 2 rfl) ?_
          refine lv_iconst (v := 1) hx hb dX12_isIdle_90 (by decide) ?_
          refine lv_iadd hx hb dX12_isIdle_91 ?_
          exact hj_92 _ _ _ _ hf hC (lv_sub hl [0, 1] rfl)
        · have hf := it_t c_10 hf
          refine lv_aload_n hx hb dX12_isIdle_79 rfl (lv_at hl 0 rfl) ?_
          refine lv_iload_n hx hb dX12_isIdle_80 rfl (lv_at hl 2 rfl) ?_
          obtain ⟨v_11, hc_11, hf⟩ := calp_inv hf
          refine cc_Vi (r_X12_endOfIf (D := D) (y := y) (o := o) (ad := ad) (av := av) hc_11 l) hx hb hml hta hown hK hN hV hA hC hRc hRs (by omega) (by omega) wq_1305 (q := 0) (ci := 12) rfl rfl wq_1306 wq_1307 wq_1012 wq_1303 hd_X12_endOfIf (As := [.int x2_2]) (rest := []) rfl rfl hl.1 rfl dX12_isIdle_81 (fun H locs hC => ?_)
          refine lv_iconst (v := 1) hx hb dX12_isIdle_84 (by decide) ?_
          refine lv_iadd hx hb dX12_isIdle_85 ?_
          refine lv_goto (tgt := 92) hx hb dX12_isIdle_86 (by decide) ?_
          exact hj_92 _ _ _ _ hf hC (lv_sub hl [0, 1] rfl)
      refine lv_icmp_ne (tgt := 69) hx hb dX12_isIdle_39 (by decide) (fun c_12 => ?_) (fun c_12 => ?_)
      · have hf := it_f c_12 hf
        exact hj_69 _ _ _ hf hC hl
      · have hf := it_t c_12 hf
        refine lv_aload_n hx hb dX12_isIdle_42 rfl (lv_at hl 0 rfl) ?_
        refine gt_X12_142_m hx hb hta hown hK hC dX12_isIdle_43 ?_
        refine lv_iload_n hx hb dX12_isIdle_46 rfl (lv_at hl 2 rfl) ?_
        obtain ⟨hi_13, hf⟩ := ix_inv hf
        obtain ⟨v_13, e_13, hf⟩ := lt_inv hf
        refine al_M_44 hx hb hK hC hi_13 e_13 dX12_isIdle_47 ?_
        refine lv_iconst (v := 2) hx hb dX12_isIdle_48 (by decide) ?_
        refine lv_icmp_ne (tgt := 69) hx hb dX12_isIdle_49 (by decide) (fun c_14 => ?_) (fun c_14 => ?_)
        · have hf := it_f c_14 hf
          exact hj_69 _ _ _ hf hC hl
        · have hf := it_t c_14 hf
          refine lv_aload_n hx hb dX12_isIdle_52 rfl (lv_at hl 0 rfl) ?_
          refine gt_X12_136_m hx hb hta hown hK hC dX12_isIdle_53 ?_
          refine lv_iload_n hx hb dX12_isIdle_56 rfl (lv_at hl 2 rfl) ?_
          obtain ⟨hi_15, hf⟩ := ix_inv hf
          obtain ⟨v_15, e_15, hf⟩ := lt_inv hf
          refine al_M_42 hx hb hK hC hi_15 e_15 dX12_isIdle_57 ?_
          refine lv_aload_n hx hb dX12_isIdle_58 rfl (lv_at hl 0 rfl) ?_
          refine gt_X12_136_m hx hb hta hown hK hC dX12_isIdle_59 ?_
          refine lv_iload_n hx hb dX12_isIdle_62 rfl (lv_at hl 1 rfl) ?_
          obtain ⟨hi_16, hf⟩ := ix_inv hf
          obtain ⟨v_16, e_16, hf⟩ := lt_inv hf
          refine al_M_42 hx hb hK hC hi_16 e_16 dX12_isIdle_63 ?_
          refine lv_icmp_ne (tgt := 69) hx hb dX12_isIdle_64 (by decide) (fun c_17 => ?_) (fun c_17 => ?_)
          · have hf := it_f c_17 hf
            exact hj_69 _ _ _ hf hC hl
          · have hf := it_t c_17 hf
            refine lv_iconst (v := 1) hx hb dX12_isIdle_67 (by decide) ?_
            exact hret _ _ _ _ _ _ (Option.some.inj hf) rfl rfl dX12_isIdle_68 hC
    refine lv_icmp_eq (tgt := 32) hx hb dX12_isIdle_19 (by decide) (fun c_18 => ?_) (fun c_18 => ?_)
    · have hf := it_t c_18 hf
      exact hj_32 _ _ _ hf hC hl
    · have hf := it_f c_18 hf
      refine lv_aload_n hx hb dX12_isIdle_22 rfl (lv_at hl 0 rfl) ?_
      refine gt_X12_133_m hx hb hta hown hK hC dX12_isIdle_23 ?_
      refine lv_iload_n hx hb dX12_isIdle_26 rfl (lv_at hl 2 rfl) ?_
      obtain ⟨hi_19, hf⟩ := ix_inv hf
      obtain ⟨v_19, e_19, hf⟩ := lt_inv hf
      refine al_M_41 hx hb hK hC hi_19 e_19 dX12_isIdle_27 ?_
      refine lv_iconst (v := 4) hx hb dX12_isIdle_28 (by decide) ?_
      refine lv_icmp_ne (tgt := 96) hx hb dX12_isIdle_29 (by decide) (fun c_20 => ?_) (fun c_20 => ?_)
      · have hf := it_f c_20 hf
        refine lv_iconst (v := 0) hx hb dX12_isIdle_96 (by decide) ?_
        exact hret _ _ _ _ _ _ (Option.some.inj hf) rfl rfl dX12_isIdle_97 hC
      · have hf := it_t c_20 hf
        exact hj_32 _ _ _ hf hC hl

set_option maxHeartbeats 8000000 in
set_option maxRecDepth 100000 in
theorem r_X12_laysLines {D : va_G} {y : Nat → ClassId} {o : Nat → Nat} {ad av : Nat → Nat} {σ : Sto} {σ2 : Sto} (hf : f_X12_laysLines σ = some σ2) (l : Launch) (sz : Nat) : Met l yX12_laysLines (Cond.code yX12_laysLines cX12_laysLines 2 none :: ALW) { frames := 261, cells := 0, slots := 0, locals := 6263 } (va_Pc [.ref (o 0)] (PZ D y ad av (WM y o σ) sz)) (QZv D (WM y o σ) (WM y o σ2) sz) 0 0 (va_A (WM y o σ) sz) := by
  refine met_v (by decide) (Nat.le_of_ble_eq_true rfl) ?_
  intro p e R s m args below meth c Q A ls hx hb hml hta hown hRc hRs hRf hRl hN hK hV hA hret hC hl
  have hl : lv_has ls 2 [(0, .ref (o 0))] := hl
  unfold f_X12_laysLines at hf
  refine lv_aload_n hx hb dX12_laysLines_0 rfl (lv_at hl 0 rfl) ?_
  refine lv_iconst (v := 0) hx hb dX12_laysLines_1 (by decide) ?_
  obtain ⟨s_1, e_1, hf⟩ := lt_inv hf
  refine pt_X12_479_m hx hb hta hown hK hC e_1 dX12_laysLines_2 (fun H locs hC => ?_)
  refine lv_aload_n hx hb dX12_laysLines_5 rfl (lv_at hl 0 rfl) ?_
  refine lv_iconst (v := 0) hx hb dX12_laysLines_6 (by decide) ?_
  obtain ⟨s_2, e_2, hf⟩ := lt_inv hf
  refine pt_X12_482_m hx hb hta hown hK hC e_2 dX12_laysLines_7 (fun H locs hC => ?_)
  refine lv_aload_n hx hb dX12_laysLines_10 rfl (lv_at hl 0 rfl) ?_
  refine gt_X12_358_m hx hb hta hown hK hC dX12_laysLines_11 ?_
  refine lv_iconst (v := (-1)) hx hb dX12_laysLines_14 (by decide) ?_
  refine lv_icmp_ne (tgt := 19) hx hb dX12_laysLines_15 (by decide) (fun c_3 => ?_) (fun c_3 => ?_)
  · have hf := it_f c_3 hf
    refine lv_aload_n hx hb dX12_laysLines_19 rfl (lv_at hl 0 rfl) ?_
    refine lv_iconst (v := 0) hx hb dX12_laysLines_20 (by decide) ?_
    obtain ⟨s_4, hc_4, hf⟩ := cals_inv hf
    refine cc_Vv (r_X12_tells_ 250 (D := D) (y := y) (o := o) (ad := ad) (av := av) hc_4 l) hx hb hml hta hown hK hN hV hA hC hRc hRs (by omega) (by omega) wq_1281 (q := 0) (ci := 12) rfl rfl wq_1282 wq_1283 wq_1012 wq_1301 hd_X12_tells_ (As := [.int 0]) (rest := []) rfl rfl hl.1 rfl dX12_laysLines_21 (fun H locs hC => ?_)
    refine lv_iconst (v := 0) hx hb dX12_laysLines_24 (by decide) ?_
    refine lv_istore_n (lv' := [(1, .int 0), (0, .ref (o 0))]) hx hb dX12_laysLines_25 rfl hl (by decide) rfl (fun ls hl => ?_)
    refine itr_inv2 (P := fun (x1_5 : Int32) (s_5 : Sto) => ∀ (H : Heap) (locs : List Loc) (ls : Array Slot), CZ D A s H locs (WM y o s_5) → lv_has ls 2 [(0, .ref (o 0)), (1, .int x1_5)] → W p l e R s m args below meth c H locs 0 0 Q (F0 m 26 ls [])) hf ?_ _ _ _ hC (lv_sub hl [1, 0] rfl)
    intro a_26 x1_5 s_5 ha_26 hf H locs ls hC hl
    refine lv_iload_n hx hb dX12_laysLines_26 rfl (lv_at hl 1 rfl) ?_
    refine lv_aload_n hx hb dX12_laysLines_27 rfl (lv_at hl 0 rfl) ?_
    refine gt_X12_479_m hx hb hta hown hK hC dX12_laysLines_28 ?_
    refine lv_icmp_ge (tgt := 70) hx hb dX12_laysLines_31 (by decide) (fun c_6 => ?_) (fun c_6 => ?_)
    · have hf := it_t c_6 hf
      refine lv_aload_n hx hb dX12_laysLines_70 rfl (lv_at hl 0 rfl) ?_
      obtain ⟨s_7, hc_7, hf⟩ := cals_inv hf
      refine cc_Vv (r_X12_thins (D := D) (y := y) (o := o) (ad := ad) (av := av) hc_7 l) hx hb hml hta hown hK hN hV hA hC hRc hRs (by omega) (by omega) wq_1312 (q := 0) (ci := 12) rfl rfl wq_1313 wq_1314 wq_1012 wq_1308 hd_X12_thins (As := []) (rest := []) rfl rfl hl.1 rfl dX12_laysLines_71 (fun H locs hC => ?_)
      refine lv_iconst (v := 0) hx hb dX12_laysLines_74 (by decide) ?_
      refine lv_istore_n (lv' := [(1, .int 0), (0, .ref (o 0))]) hx hb dX12_laysLines_75 rfl hl (by decide) rfl (fun ls hl => ?_)
      refine itr_inv2 (P := fun (x1_8 : Int32) (s_8 : Sto) => ∀ (H : Heap) (locs : List Loc) (ls : Array Slot), CZ D A s H locs (WM y o s_8) → lv_has ls 2 [(0, .ref (o 0)), (1, .int x1_8)] → W p l e R s m args below meth c H locs 0 0 Q (F0 m 76 ls [])) hf ?_ _ _ _ hC (lv_sub hl [1, 0] rfl)
      intro a_76 x1_8 s_8 ha_76 hf H locs ls hC hl
      refine lv_iload_n hx hb dX12_laysLines_76 rfl (lv_at hl 1 rfl) ?_
      refine lv_aload_n hx hb dX12_laysLines_77 rfl (lv_at hl 0 rfl) ?_
      refine gt_X12_479_m hx hb hta hown hK hC dX12_laysLines_78 ?_
      refine lv_icmp_ge (tgt := 123) hx hb dX12_laysLines_81 (by decide) (fun c_9 => ?_) (fun c_9 => ?_)
      · have hf := it_t c_9 hf
        refine lv_aload_n hx hb dX12_laysLines_123 rfl (lv_at hl 0 rfl) ?_
        obtain ⟨s_10, hc_10, hf⟩ := cals_inv hf
        refine cc_Vv (r_X12_thins (D := D) (y := y) (o := o) (ad := ad) (av := av) hc_10 l) hx hb hml hta hown hK hN hV hA hC hRc hRs (by omega) (by omega) wq_1312 (q := 0) (ci := 12) rfl rfl wq_1313 wq_1314 wq_1012 wq_1308 hd_X12_thins (As := []) (rest := []) rfl rfl hl.1 rfl dX12_laysLines_124 (fun H locs hC => ?_)
        exact hret _ _ _ _ _ (congrArg (WM y o) (Option.some.inj hf)) dX12_laysLines_127 hC
      · have hf := it_f c_9 hf
        refine lv_aload_n hx hb dX12_laysLines_84 rfl (lv_at hl 0 rfl) ?_
        refine gt_X12_145_m hx hb hta hown hK hC dX12_laysLines_85 ?_
        refine lv_iload_n hx hb dX12_laysLines_88 rfl (lv_at hl 1 rfl) ?_
        refine lv_aload_n hx hb dX12_laysLines_89 rfl (lv_at hl 0 rfl) ?_
        refine gt_X12_133_m hx hb hta hown hK hC dX12_laysLines_90 ?_
        refine lv_iload_n hx hb dX12_laysLines_93 rfl (lv_at hl 1 rfl) ?_
        obtain ⟨hi_11, hf⟩ := ix_inv hf
        obtain ⟨v_11, e_11, hf⟩ := lt_inv hf
        refine al_M_41 hx hb hK hC hi_11 e_11 dX12_laysLines_94 ?_
        refine lv_iconst (v := 4) hx hb dX12_laysLines_95 (by decide) ?_
        obtain ⟨k_116, hk_116, hf⟩ := jn_inv1 hf
        have hj_116 : ∀ (t0_12 : Int32) (H : Heap) (locs : List Loc) (ls : Array Slot), k_116 t0_12 = some σ2 → CZ D A s H locs (WM y o s_8) → lv_has ls 2 [(0, .ref (o 0)), (1, .int x1_8)] → W p l e R s m args below meth c H locs 0 0 Q (F0 m 116 ls [.int t0_12, .int x1_8, .ref (o 45)]) := by
          intro t0_12 H locs ls hf hC hl
          have hf := hk_116 _ hf
          obtain ⟨hb_14, hf⟩ := bz_inv hf
          obtain ⟨hi_13, hf⟩ := ix_inv hf
          obtain ⟨s_13, e_13, hf⟩ := lt_inv hf
          refine as_M_45 hx hb hK hC hi_13 hb_14 e_13 dX12_laysLines_116 (fun H locs hC => ?_)
          obtain ⟨x1_15, e_15, hf⟩ := lt_inv hf
          refine lv_iinc (v := x1_15) (lv' := [(1, .int x1_15), (0, .ref (o 0))]) hx hb dX12_laysLines_117 hl (k := 1) rfl e_15.symm (by decide) rfl (fun ls hl => ?_)
          refine lv_goto (tgt := 76) hx hb dX12_laysLines_120 (by decide) ?_
          exact ha_76 _ _ hf _ _ _ hC (lv_sub hl [1, 0] rfl)
        obtain ⟨k_115, hk_115, hf⟩ := jn_inv0 hf
        have hj_115 : ∀  (H : Heap) (locs : List Loc) (ls : Array Slot), k_115 = some σ2 → CZ D A s H locs (WM y o s_8) → lv_has ls 2 [(0, .ref (o 0)), (1, .int x1_8)] → W p l e R s m args below meth c H locs 0 0 Q (F0 m 115 ls [.int x1_8, .ref (o 45)]) := by
          intro H locs ls hf hC hl
          have hf := hk_115 hf
          refine lv_iconst (v := 0) hx hb dX12_laysLines_115 (by decide) ?_
          exact hj_116 _ _ _ _ hf hC hl
        refine lv_icmp_ne (tgt := 115) hx hb dX12_laysLines_96 (by decide) (fun c_17 => ?_) (fun c_17 => ?_)
        · have hf := it_f c_17 hf
          exact hj_115 _ _ _ hf hC hl
        · have hf := it_t c_17 hf
          refine lv_aload_n hx hb dX12_laysLines_99 rfl (lv_at hl 0 rfl) ?_
          refine gt_X12_133_m hx hb hta hown hK hC dX12_laysLines_100 ?_
          refine lv_iload_n hx hb dX12_laysLines_103 rfl (lv_at hl 1 rfl) ?_
          refine lv_iconst (v := 1) hx hb dX12_laysLines_104 (by decide) ?_
          refine lv_iadd hx hb dX12_laysLines_105 ?_
          obtain ⟨hi_18, hf⟩ := ix_inv hf
          obtain ⟨v_18, e_18, hf⟩ := lt_inv hf
          refine al_M_41 hx hb hK hC hi_18 e_18 dX12_laysLines_106 ?_
          refine lv_iconst (v := 5) hx hb dX12_laysLines_107 (by decide) ?_
          refine lv_icmp_ne (tgt := 115) hx hb dX12_laysLines_108 (by decide) (fun c_19 => ?_) (fun c_19 => ?_)
          · have hf := it_f c_19 hf
            exact hj_115 _ _ _ hf hC hl
          · have hf := it_t c_19 hf
            refine lv_iconst (v := 1) hx hb dX12_laysLines_111 (by decide) ?_
            refine lv_goto (tgt := 116) hx hb dX12_laysLines_112 (by decide) ?_
            exact hj_116 _ _ _ _ hf hC hl
    · have hf := it_f c_6 hf
      refine lv_aload_n hx hb dX12_laysLines_34 rfl (lv_at hl 0 rfl) ?_
      refine gt_X12_145_m hx hb hta hown hK hC dX12_laysLines_35 ?_
      refine lv_iload_n hx hb dX12_laysLines_38 rfl (lv_at hl 1 rfl) ?_
      refine lv_aload_n hx hb dX12_laysLines_39 rfl (lv_at hl 0 rfl) ?_
      refine gt_X12_133_m hx hb hta hown hK hC dX12_laysLines_40 ?_
      refine lv_iload_n hx hb dX12_laysLines_43 rfl (lv_at hl 1 rfl) ?_
      obtain ⟨hi_20, hf⟩ := ix_inv hf
      obtain ⟨v_20, e_20, hf⟩ := lt_inv hf
      refine al_M_41 hx hb hK hC hi_20 e_20 dX12_laysLines_44 ?_
      refine lv_bipush (v := 6) hx hb dX12_laysLines_45 (by decide) ?_
      obtain ⟨k_63, hk_63, hf⟩ := jn_inv1 hf
      have hj_63 : ∀ (t0_21 : Int32) (H : Heap) (locs : List Loc) (ls : Array Slot), k_63 t0_21 = some σ2 → CZ D A s H locs (WM y o s_5) → lv_has ls 2 [(0, .ref (o 0)), (1, .int x1_5)] → W p l e R s m args below meth c H locs 0 0 Q (F0 m 63 ls [.int t0_21, .int x1_5, .ref (o 45)]) := by
        intro t0_21 H locs ls hf hC hl
        have hf := hk_63 _ hf
        obtain ⟨hb_23, hf⟩ := bz_inv hf
        obtain ⟨hi_22, hf⟩ := ix_inv hf
        obtain ⟨s_22, e_22, hf⟩ := lt_inv hf
        refine as_M_45 hx hb hK hC hi_22 hb_23 e_22 dX12_laysLines_63 (fun H locs hC => ?_)
        obtain ⟨x1_24, e_24, hf⟩ := lt_inv hf
        refine lv_iinc (v := x1_24) (lv' := [(1, .int x1_24), (0, .ref (o 0))]) hx hb dX12_laysLines_64 hl (k := 1) rfl e_24.symm (by decide) rfl (fun ls hl => ?_)
        refine lv_goto (tgt := 26) hx hb dX12_laysLines_67 (by decide) ?_
        exact ha_26 _ _ hf _ _ _ hC (lv_sub hl [1, 0] rfl)
      obtain ⟨k_62, hk_62, hf⟩ := jn_inv0 hf
      have hj_62 : ∀  (H : Heap) (locs : List Loc) (ls : Array Slot), k_62 = some σ2 → CZ D A s H locs (WM y o s_5) → lv_has ls 2 [(0, .ref (o 0)), (1, .int x1_5)] → W p l e R s m args below meth c H locs 0 0 Q (F0 m 62 ls [.int x1_5, .ref (o 45)]) := by
        intro H locs ls hf hC hl
        have hf := hk_62 hf
        refine lv_iconst (v := 0) hx hb dX12_laysLines_62 (by decide) ?_
        exact hj_63 _ _ _ _ hf hC hl
      refine lv_icmp_ne (tgt := 62) hx hb dX12_laysLines_47 (by decide) (fun c_26 => ?_) (fun c_26 => ?_)
      · have hf := it_f c_26 hf
        exact hj_62 _ _ _ hf hC hl
      · have hf := it_t c_26 hf
        refine lv_aload_n hx hb dX12_laysLines_50 rfl (lv_at hl 0 rfl) ?_
        refine lv_iload_n hx hb dX12_laysLines_51 rfl (lv_at hl 1 rfl) ?_
        obtain ⟨v_27, hc_27, hf⟩ := calp_inv hf
        refine cc_Vi (r_X12_isIdle (D := D) (y := y) (o := o) (ad := ad) (av := av) hc_27 l) hx hb hml hta hown hK hN hV hA hC hRc hRs (by omega) (by omega) wq_1309 (q := 0) (ci := 12) rfl rfl wq_1310 wq_1311 wq_1012 wq_1304 hd_X12_isIdle (As := [.int x1_5]) (rest := [.int x1_5, .ref (o 45)]) rfl rfl hl.1 rfl dX12_laysLines_52 (fun H locs hC => ?_)
        refine lv_if_eq (tgt := 62) hx hb dX12_laysLines_55 (by decide) (fun c_28 => ?_) (fun c_28 => ?_)
        · have hf := it_t c_28 hf
          exact hj_62 _ _ _ hf hC hl
        · have hf := it_f c_28 hf
          refine lv_iconst (v := 1) hx hb dX12_laysLines_58 (by decide) ?_
          refine lv_goto (tgt := 63) hx hb dX12_laysLines_59 (by decide) ?_
          exact hj_63 _ _ _ _ hf hC hl
  · have hf := it_t c_3 hf
    exact hret _ _ _ _ _ (congrArg (WM y o) (Option.some.inj hf)) dX12_laysLines_18 hC

set_option maxHeartbeats 8000000 in
set_option maxRecDepth 100000 in
theorem r_X12_lays_ {D : va_G} {y : Nat → ClassId} {o : Nat → Nat} {ad av : Nat → Nat} {σ : Sto} {σ2 : Sto} (hf : f_X12_lays_ σ = some σ2) (l : Launch) (sz : Nat) : Met l yX12_lays_ (Cond.code yX12_lays_ cX12_lays_ 1 none :: ALW) { frames := 262, cells := 0, slots := 0, locals := 6284 } (va_Pc [.ref (o 0)] (PZ D y ad av (WM y o σ) sz)) (QZv D (WM y o σ) (WM y o σ2) sz) 0 0 (va_A (WM y o σ) sz) := by
  refine met_v (by decide) (Nat.le_of_ble_eq_true rfl) ?_
  intro p e R s m args below meth c Q A ls hx hb hml hta hown hRc hRs hRf hRl hN hK hV hA hret hC hl
  have hl : lv_has ls 1 [(0, .ref (o 0))] := hl
  unfold f_X12_lays_ at hf
  refine lv_aload_n hx hb dX12_lays__0 rfl (lv_at hl 0 rfl) ?_
  obtain ⟨s_1, hc_1, hf⟩ := cals_inv hf
  refine cc_Vv (r_X12_laysBlocks (D := D) (y := y) (o := o) (ad := ad) (av := av) hc_1 l) hx hb hml hta hown hK hN hV hA hC hRc hRs (by omega) (by omega) wq_1316 (q := 0) (ci := 12) rfl rfl wq_1317 wq_1318 wq_1012 wq_1113 hd_X12_laysBlocks (As := []) (rest := []) rfl rfl hl.1 rfl dX12_lays__1 (fun H locs hC => ?_)
  refine lv_aload_n hx hb dX12_lays__4 rfl (lv_at hl 0 rfl) ?_
  obtain ⟨s_2, hc_2, hf⟩ := cals_inv hf
  refine cc_Vv (r_X12_laysEdges (D := D) (y := y) (o := o) (ad := ad) (av := av) hc_2 l) hx hb hml hta hown hK hN hV hA hC hRc hRs (by omega) (by omega) wq_1319 (q := 0) (ci := 12) rfl rfl wq_1320 wq_1321 wq_1012 wq_1119 hd_X12_laysEdges (As := []) (rest := []) rfl rfl hl.1 rfl dX12_lays__5 (fun H locs hC => ?_)
  refine lv_aload_n hx hb dX12_lays__8 rfl (lv_at hl 0 rfl) ?_
  obtain ⟨s_3, hc_3, hf⟩ := cals_inv hf
  refine cc_Vv (r_X12_laysJumps (D := D) (y := y) (o := o) (ad := ad) (av := av) hc_3 l) hx hb hml hta hown hK hN hV hA hC hRc hRs (by omega) (by omega) wq_1322 (q := 0) (ci := 12) rfl rfl wq_1323 wq_1324 wq_1012 wq_1150 hd_X12_laysJumps (As := []) (rest := []) rfl rfl hl.1 rfl dX12_lays__9 (fun H locs hC => ?_)
  refine lv_aload_n hx hb dX12_lays__12 rfl (lv_at hl 0 rfl) ?_
  obtain ⟨s_4, hc_4, hf⟩ := cals_inv hf
  refine cc_Vv (r_X12_laysOrder (D := D) (y := y) (o := o) (ad := ad) (av := av) hc_4 l) hx hb hml hta hown hK hN hV hA hC hRc hRs (by omega) (by omega) wq_1325 (q := 0) (ci := 12) rfl rfl wq_1326 wq_1327 wq_1012 wq_1157 hd_X12_laysOrder (As := []) (rest := []) rfl rfl hl.1 rfl dX12_lays__13 (fun H locs hC => ?_)
  refine lv_aload_n hx hb dX12_lays__16 rfl (lv_at hl 0 rfl) ?_
  obtain ⟨s_5, hc_5, hf⟩ := cals_inv hf
  refine cc_Vv (r_X12_laysAbove (D := D) (y := y) (o := o) (ad := ad) (av := av) hc_5 l) hx hb hml hta hown hK hN hV hA hC hRc hRs (by omega) (by omega) wq_1328 (q := 0) (ci := 12) rfl rfl wq_1329 wq_1330 wq_1012 wq_1158 hd_X12_laysAbove (As := []) (rest := []) rfl rfl hl.1 rfl dX12_lays__17 (fun H locs hC => ?_)
  refine lv_aload_n hx hb dX12_lays__20 rfl (lv_at hl 0 rfl) ?_
  obtain ⟨s_6, hc_6, hf⟩ := cals_inv hf
  refine cc_Vv (r_X12_laysLoops (D := D) (y := y) (o := o) (ad := ad) (av := av) hc_6 l) hx hb hml hta hown hK hN hV hA hC hRc hRs (by omega) (by omega) wq_1331 (q := 0) (ci := 12) rfl rfl wq_1332 wq_1333 wq_1012 wq_1160 hd_X12_laysLoops (As := []) (rest := []) rfl rfl hl.1 rfl dX12_lays__21 (fun H locs hC => ?_)
  refine lv_aload_n hx hb dX12_lays__24 rfl (lv_at hl 0 rfl) ?_
  obtain ⟨s_7, hc_7, hf⟩ := cals_inv hf
  refine cc_Vv (r_X12_laysStatements (D := D) (y := y) (o := o) (ad := ad) (av := av) hc_7 l) hx hb hml hta hown hK hN hV hA hC hRc hRs (by omega) (by omega) wq_1334 (q := 0) (ci := 12) rfl rfl wq_1335 wq_1336 wq_1012 wq_1246 hd_X12_laysStatements (As := []) (rest := []) rfl rfl hl.1 rfl dX12_lays__25 (fun H locs hC => ?_)
  refine lv_aload_n hx hb dX12_lays__28 rfl (lv_at hl 0 rfl) ?_
  obtain ⟨s_8, hc_8, hf⟩ := cals_inv hf
  refine cc_Vv (r_X12_laysTypes (D := D) (y := y) (o := o) (ad := ad) (av := av) hc_8 l) hx hb hml hta hown hK hN hV hA hC hRc hRs (by omega) (by omega) wq_1337 (q := 0) (ci := 12) rfl rfl wq_1338 wq_1339 wq_1012 wq_1252 hd_X12_laysTypes (As := []) (rest := []) rfl rfl hl.1 rfl dX12_lays__29 (fun H locs hC => ?_)
  refine lv_aload_n hx hb dX12_lays__32 rfl (lv_at hl 0 rfl) ?_
  obtain ⟨s_9, hc_9, hf⟩ := cals_inv hf
  refine cc_Vv (r_X12_laysLive (D := D) (y := y) (o := o) (ad := ad) (av := av) hc_9 l) hx hb hml hta hown hK hN hV hA hC hRc hRs (by omega) (by omega) wq_1340 (q := 0) (ci := 12) rfl rfl wq_1341 wq_1342 wq_1012 wq_1261 hd_X12_laysLive (As := []) (rest := []) rfl rfl hl.1 rfl dX12_lays__33 (fun H locs hC => ?_)
  refine lv_aload_n hx hb dX12_lays__36 rfl (lv_at hl 0 rfl) ?_
  obtain ⟨s_10, hc_10, hf⟩ := cals_inv hf
  refine cc_Vv (r_X12_laysLines (D := D) (y := y) (o := o) (ad := ad) (av := av) hc_10 l) hx hb hml hta hown hK hN hV hA hC hRc hRs (by omega) (by omega) wq_1343 (q := 0) (ci := 12) rfl rfl wq_1344 wq_1345 wq_1012 wq_1315 hd_X12_laysLines (As := []) (rest := []) rfl rfl hl.1 rfl dX12_lays__37 (fun H locs hC => ?_)
  exact hret _ _ _ _ _ (congrArg (WM y o) (Option.some.inj hf)) dX12_lays__40 hC

set_option maxHeartbeats 8000000 in
set_option maxRecDepth 100000 in
theorem r_X12_takes {D : va_G} {y : Nat → ClassId} {o : Nat → Nat} {ad av : Nat → Nat} {σ : Sto} {σ2 : Sto} {v : Int32} (hf : f_X12_takes σ = some (v, σ2)) (l : Launch) (sz : Nat) : Met l yX12_takes (Cond.code yX12_takes cX12_takes 2 (some .int) :: ALW) { frames := 263, cells := 0, slots := 0, locals := 6304 } (va_Pc [.ref (o 0)] (PZ D y ad av (WM y o σ) sz)) (QZi D (WM y o σ) v (WM y o σ2) sz) 0 0 (va_A (WM y o σ) sz) := by
  refine met_i (by decide) (Nat.le_of_ble_eq_true rfl) ?_
  intro p e R s m args below meth c Q A ls hx hb hml hta hown hRc hRs hRf hRl hN hK hV hA hret hC hl
  have hl : lv_has ls 2 [(0, .ref (o 0))] := hl
  unfold f_X12_takes at hf
  refine lv_iconst (v := 0) hx hb dX12_takes_0 (by decide) ?_
  refine lv_istore_n (lv' := [(1, .int 0), (0, .ref (o 0))]) hx hb dX12_takes_1 rfl hl (by decide) rfl (fun ls hl => ?_)
  refine itr_inv2 (P := fun (x1_1 : Int32) (s_1 : Sto) => ∀ (H : Heap) (locs : List Loc) (ls : Array Slot), CZ D A s H locs (WM y o s_1) → lv_has ls 2 [(0, .ref (o 0)), (1, .int x1_1)] → W p l e R s m args below meth c H locs 0 0 Q (F0 m 2 ls [])) hf ?_ _ _ _ hC (lv_sub hl [1, 0] rfl)
  intro a_2 x1_1 s_1 ha_2 hf H locs ls hC hl
  refine lv_iload_n hx hb dX12_takes_2 rfl (lv_at hl 1 rfl) ?_
  refine lv_bipush (v := 40) hx hb dX12_takes_3 (by decide) ?_
  refine lv_icmp_ge (tgt := 50) hx hb dX12_takes_5 (by decide) (fun c_2 => ?_) (fun c_2 => ?_)
  · have hf := it_t c_2 hf
    refine lv_iconst (v := 0) hx hb dX12_takes_50 (by decide) ?_
    refine lv_istore_n (lv' := [(1, .int 0), (0, .ref (o 0))]) hx hb dX12_takes_51 rfl hl (by decide) rfl (fun ls hl => ?_)
    refine itr_inv2 (P := fun (x1_3 : Int32) (s_3 : Sto) => ∀ (H : Heap) (locs : List Loc) (ls : Array Slot), CZ D A s H locs (WM y o s_3) → lv_has ls 2 [(0, .ref (o 0)), (1, .int x1_3)] → W p l e R s m args below meth c H locs 0 0 Q (F0 m 52 ls [])) hf ?_ _ _ _ hC (lv_sub hl [1, 0] rfl)
    intro a_52 x1_3 s_3 ha_52 hf H locs ls hC hl
    refine lv_iload_n hx hb dX12_takes_52 rfl (lv_at hl 1 rfl) ?_
    refine lv_bipush (v := 9) hx hb dX12_takes_53 (by decide) ?_
    refine lv_icmp_ge (tgt := 76) hx hb dX12_takes_55 (by decide) (fun c_4 => ?_) (fun c_4 => ?_)
    · have hf := it_t c_4 hf
      refine lv_aload_n hx hb dX12_takes_76 rfl (lv_at hl 0 rfl) ?_
      refine lv_aload_n hx hb dX12_takes_77 rfl (lv_at hl 0 rfl) ?_
      refine gt_X12_254_m hx hb hta hown hK hC dX12_takes_78 ?_
      obtain ⟨s_5, e_5, hf⟩ := lt_inv hf
      refine pt_X12_286_m hx hb hta hown hK hC e_5 dX12_takes_81 (fun H locs hC => ?_)
      refine lv_aload_n hx hb dX12_takes_84 rfl (lv_at hl 0 rfl) ?_
      refine lv_aload_n hx hb dX12_takes_85 rfl (lv_at hl 0 rfl) ?_
      refine gt_X12_260_m hx hb hta hown hK hC dX12_takes_86 ?_
      obtain ⟨s_6, e_6, hf⟩ := lt_inv hf
      refine pt_X12_289_m hx hb hta hown hK hC e_6 dX12_takes_89 (fun H locs hC => ?_)
      refine lv_aload_n hx hb dX12_takes_92 rfl (lv_at hl 0 rfl) ?_
      refine lv_iconst (v := 1) hx hb dX12_takes_93 (by decide) ?_
      obtain ⟨s_7, e_7, hf⟩ := lt_inv hf
      refine pt_X12_292_m hx hb hta hown hK hC (Or.inr rfl) e_7 dX12_takes_94 (fun H locs hC => ?_)
      refine lv_aload_n hx hb dX12_takes_97 rfl (lv_at hl 0 rfl) ?_
      obtain ⟨s_8, hc_8, hf⟩ := cals_inv hf
      refine cc_Vv (r_X12_lays_ (D := D) (y := y) (o := o) (ad := ad) (av := av) hc_8 l) hx hb hml hta hown hK hN hV hA hC hRc hRs (by omega) (by omega) wq_1348 (q := 0) (ci := 12) rfl rfl wq_1349 wq_1350 wq_1012 wq_1346 hd_X12_lays_ (As := []) (rest := []) rfl rfl hl.1 rfl dX12_takes_98 (fun H locs hC => ?_)
      refine lv_aload_n hx hb dX12_takes_101 rfl (lv_at hl 0 rfl) ?_
      refine gt_X12_299_m hx hb hta hown hK hC dX12_takes_102 ?_
      exact hret _ _ _ _ _ _ (rv_inv hf).1 (congrArg (WM y o) (rv_inv hf).2) rfl dX12_takes_105 hC
    · have hf := it_f c_4 hf
      refine lv_aload_n hx hb dX12_takes_58 rfl (lv_at hl 0 rfl) ?_
      refine gt_X12_29_m hx hb hta hown hK hC dX12_takes_59 ?_
      refine lv_iload_n hx hb dX12_takes_62 rfl (lv_at hl 1 rfl) ?_
      refine lv_aload_n hx hb dX12_takes_63 rfl (lv_at hl 0 rfl) ?_
      refine gt_X12_38_m hx hb hta hown hK hC dX12_takes_64 ?_
      refine lv_iload_n hx hb dX12_takes_67 rfl (lv_at hl 1 rfl) ?_
      obtain ⟨hi_9, hf⟩ := ix_inv hf
      obtain ⟨v_9, e_9, hf⟩ := lt_inv hf
      refine al_M_10 hx hb hK hC hi_9 e_9 dX12_takes_68 ?_
      obtain ⟨hi_10, hf⟩ := ix_inv hf
      obtain ⟨s_10, e_10, hf⟩ := lt_inv hf
      refine as_M_7 hx hb hK hC hi_10 e_10 dX12_takes_69 (fun H locs hC => ?_)
      obtain ⟨x1_11, e_11, hf⟩ := lt_inv hf
      refine lv_iinc (v := x1_11) (lv' := [(1, .int x1_11), (0, .ref (o 0))]) hx hb dX12_takes_70 hl (k := 1) rfl e_11.symm (by decide) rfl (fun ls hl => ?_)
      refine lv_goto (tgt := 52) hx hb dX12_takes_73 (by decide) ?_
      exact ha_52 _ _ hf _ _ _ hC (lv_sub hl [1, 0] rfl)
  · have hf := it_f c_2 hf
    refine lv_aload_n hx hb dX12_takes_8 rfl (lv_at hl 0 rfl) ?_
    refine gt_X12_23_m hx hb hta hown hK hC dX12_takes_9 ?_
    refine lv_iload_n hx hb dX12_takes_12 rfl (lv_at hl 1 rfl) ?_
    refine lv_aload_n hx hb dX12_takes_13 rfl (lv_at hl 0 rfl) ?_
    refine gt_X12_32_m hx hb hta hown hK hC dX12_takes_14 ?_
    refine lv_iload_n hx hb dX12_takes_17 rfl (lv_at hl 1 rfl) ?_
    obtain ⟨hi_12, hf⟩ := ix_inv hf
    obtain ⟨v_12, e_12, hf⟩ := lt_inv hf
    refine al_M_8 hx hb hK hC hi_12 e_12 dX12_takes_18 ?_
    obtain ⟨hi_13, hf⟩ := ix_inv hf
    obtain ⟨s_13, e_13, hf⟩ := lt_inv hf
    refine as_M_5 hx hb hK hC hi_13 e_13 dX12_takes_19 (fun H locs hC => ?_)
    refine lv_aload_n hx hb dX12_takes_20 rfl (lv_at hl 0 rfl) ?_
    refine gt_X12_26_m hx hb hta hown hK hC dX12_takes_21 ?_
    refine lv_iload_n hx hb dX12_takes_24 rfl (lv_at hl 1 rfl) ?_
    refine lv_aload_n hx hb dX12_takes_25 rfl (lv_at hl 0 rfl) ?_
    refine gt_X12_35_m hx hb hta hown hK hC dX12_takes_26 ?_
    refine lv_iload_n hx hb dX12_takes_29 rfl (lv_at hl 1 rfl) ?_
    obtain ⟨hi_14, hf⟩ := ix_inv hf
    obtain ⟨v_14, e_14, hf⟩ := lt_inv hf
    refine al_M_9 hx hb hK hC hi_14 e_14 dX12_takes_30 ?_
    obtain ⟨hi_15, hf⟩ := ix_inv hf
    obtain ⟨s_15, e_15, hf⟩ := lt_inv hf
    refine as_M_6 hx hb hK hC hi_15 e_15 dX12_takes_31 (fun H locs hC => ?_)
    refine lv_aload_n hx hb dX12_takes_32 rfl (lv_at hl 0 rfl) ?_
    refine gt_X12_44_m hx hb hta hown hK hC dX12_takes_33 ?_
    refine lv_iload_n hx hb dX12_takes_36 rfl (lv_at hl 1 rfl) ?_
    refine lv_aload_n hx hb dX12_takes_37 rfl (lv_at hl 0 rfl) ?_
    refine gt_X12_41_m hx hb hta hown hK hC dX12_takes_38 ?_
    refine lv_iload_n hx hb dX12_takes_41 rfl (lv_at hl 1 rfl) ?_
    obtain ⟨hi_16, hf⟩ := ix_inv hf
    obtain ⟨v_16, e_16, hf⟩ := lt_inv hf
    refine al_M_11 hx hb hK hC hi_16 e_16 dX12_takes_42 ?_
    obtain ⟨hi_17, hf⟩ := ix_inv hf
    obtain ⟨s_17, e_17, hf⟩ := lt_inv hf
    refine as_M_12 hx hb hK hC hi_17 e_17 dX12_takes_43 (fun H locs hC => ?_)
    obtain ⟨x1_18, e_18, hf⟩ := lt_inv hf
    refine lv_iinc (v := x1_18) (lv' := [(1, .int x1_18), (0, .ref (o 0))]) hx hb dX12_takes_44 hl (k := 1) rfl e_18.symm (by decide) rfl (fun ls hl => ?_)
    refine lv_goto (tgt := 2) hx hb dX12_takes_47 (by decide) ?_
    exact ha_2 _ _ hf _ _ _ hC (lv_sub hl [1, 0] rfl)

set_option maxHeartbeats 8000000 in
set_option maxRecDepth 100000 in
theorem r_X12_code {D : va_G} {y : Nat → ClassId} {o : Nat → Nat} {ad av : Nat → Nat} {σ : Sto} {σ2 : Sto} {v : Int32} (hf : f_X12_code σ = some (v, σ2)) (l : Launch) (sz : Nat) : Met l yX12_code (Cond.code yX12_code cX12_code 2 (some .int) :: ALW) { frames := 264, cells := 0, slots := 0, locals := 6325 } (va_Pc [.ref (o 0)] (PZ D y ad av (WM y o σ) sz)) (QZi D (WM y o σ) v (WM y o σ2) sz) 0 0 (va_A (WM y o σ) sz) := by
  refine met_i (by decide) (Nat.le_of_ble_eq_true rfl) ?_
  intro p e R s m args below meth c Q A ls hx hb hml hta hown hRc hRs hRf hRl hN hK hV hA hret hC hl
  have hl : lv_has ls 2 [(0, .ref (o 0))] := hl
  unfold f_X12_code at hf
  refine lv_aload_n hx hb dX12_code_0 rfl (lv_at hl 0 rfl) ?_
  refine lv_iconst (v := 0) hx hb dX12_code_1 (by decide) ?_
  obtain ⟨s_1, e_1, hf⟩ := lt_inv hf
  refine pt_X12_169_m hx hb hta hown hK hC e_1 dX12_code_2 (fun H locs hC => ?_)
  refine lv_aload_n hx hb dX12_code_5 rfl (lv_at hl 0 rfl) ?_
  obtain ⟨v_2, s_2, hc_2, hf⟩ := calv_inv hf
  refine cc_Vi (r_X12_isText (D := D) (y := y) (o := o) (ad := ad) (av := av) hc_2 l) hx hb hml hta hown hK hN hV hA hC hRc hRs (by omega) (by omega) wq_1068 (q := 0) (ci := 12) rfl rfl wq_1069 wq_1070 wq_1012 wq_1067 hd_X12_isText (As := []) (rest := []) rfl rfl hl.1 rfl dX12_code_6 (fun H locs hC => ?_)
  refine lv_if_ne (tgt := 14) hx hb dX12_code_9 (by decide) (fun c_3 => ?_) (fun c_3 => ?_)
  · have hf := it_f c_3 hf
    refine lv_aload_n hx hb dX12_code_14 rfl (lv_at hl 0 rfl) ?_
    refine lv_aload_n hx hb dX12_code_15 rfl (lv_at hl 0 rfl) ?_
    refine gt_X12_13_m hx hb hta hown hK hC dX12_code_16 ?_
    refine lv_aload_n hx hb dX12_code_19 rfl (lv_at hl 0 rfl) ?_
    refine gt_X12_17_m hx hb hta hown hK hC dX12_code_20 ?_
    refine lv_aload_n hx hb dX12_code_23 rfl (lv_at hl 0 rfl) ?_
    refine gt_X12_216_m hx hb hta hown hK hC dX12_code_24 ?_
    refine lv_aload_n hx hb dX12_code_27 rfl (lv_at hl 0 rfl) ?_
    refine gt_X12_20_m hx hb hta hown hK hC dX12_code_28 ?_
    refine lv_aload_n hx hb dX12_code_31 rfl (lv_at hl 0 rfl) ?_
    refine gt_X12_230_m hx hb hta hown hK hC dX12_code_32 ?_
    obtain ⟨s_4, hc_4, hf⟩ := cals_inv hf
    refine cc_Vv (r_X12_tries_signRead_numberRead_handlerRead (D := D) (y := y) (o := o) (ad := ad) (av := av) hc_4 l) hx hb hml hta hown hK hN hV hA hC hRc hRs (by omega) (by omega) wq_1352 (q := 0) (ci := 12) rfl rfl wq_1353 wq_1354 wq_1012 wq_1101 hd_X12_tries (As := [.ref (o 2), .ref (o 3), .int (s_2.1 7 0), .ref (o 4), .int (s_2.1 8 0)]) (rest := []) rfl rfl hl.1 rfl dX12_code_35 (fun H locs hC => ?_)
    refine lv_aload_n hx hb dX12_code_38 rfl (lv_at hl 0 rfl) ?_
    obtain ⟨v_5, s_5, hc_5, hf⟩ := calv_inv hf
    refine cc_Vi (r_X12_wrong (D := D) (y := y) (o := o) (ad := ad) (av := av) hc_5 l) hx hb hml hta hown hK hN hV hA hC hRc hRs (by omega) (by omega) wq_1355 (q := 0) (ci := 12) rfl rfl wq_1356 wq_1357 wq_1012 wq_1100 hd_X12_wrong (As := []) (rest := []) rfl rfl hl.1 rfl dX12_code_39 (fun H locs hC => ?_)
    refine lv_istore_n (lv' := [(1, .int v_5), (0, .ref (o 0))]) hx hb dX12_code_42 rfl hl (by decide) rfl (fun ls hl => ?_)
    refine lv_iload_n hx hb dX12_code_43 rfl (lv_at hl 0 rfl) ?_
    refine lv_if_ge (tgt := 49) hx hb dX12_code_44 (by decide) (fun c_6 => ?_) (fun c_6 => ?_)
    · have hf := it_t c_6 hf
      refine lv_aload_n hx hb dX12_code_49 rfl (lv_at hl 1 rfl) ?_
      refine lv_iconst (v := 0) hx hb dX12_code_50 (by decide) ?_
      obtain ⟨s_7, e_7, hf⟩ := lt_inv hf
      refine pt_X12_177_m hx hb hta hown hK hC e_7 dX12_code_51 (fun H locs hC => ?_)
      refine lv_aload_n hx hb dX12_code_54 rfl (lv_at hl 1 rfl) ?_
      obtain ⟨v_8, s_8, hc_8, hf⟩ := calv_inv hf
      refine cc_Vi (r_X12_takes (D := D) (y := y) (o := o) (ad := ad) (av := av) hc_8 l) hx hb hml hta hown hK hN hV hA hC hRc hRs (by omega) (by omega) wq_1358 (q := 0) (ci := 12) rfl rfl wq_1359 wq_1360 wq_1012 wq_1351 hd_X12_takes (As := []) (rest := []) rfl rfl hl.1 rfl dX12_code_55 (fun H locs hC => ?_)
      exact hret _ _ _ _ _ _ (rv_inv hf).1 (congrArg (WM y o) (rv_inv hf).2) rfl dX12_code_58 hC
    · have hf := it_f c_6 hf
      refine lv_iload_n hx hb dX12_code_47 rfl (lv_at hl 0 rfl) ?_
      exact hret _ _ _ _ _ _ (rv_inv hf).1 (congrArg (WM y o) (rv_inv hf).2) rfl dX12_code_48 hC
  · have hf := it_t c_3 hf
    refine lv_iconst (v := (-1)) hx hb dX12_code_12 (by decide) ?_
    exact hret _ _ _ _ _ _ (rv_inv hf).1 (congrArg (WM y o) (rv_inv hf).2) rfl dX12_code_13 hC

set_option maxHeartbeats 8000000 in
set_option maxRecDepth 100000 in
theorem r_X12_isIn {D : va_G} {y : Nat → ClassId} {ad av : Nat → Nat} {w : va_W} {x1 : Int64} {x2 : Int64} {x3 : Int64} {v : Int32} (hf : f_X12_isIn x1 x2 x3 = some v) (l : Launch) (sz : Nat) : Met l yX12_isIn (Cond.code yX12_isIn cX12_isIn 6 (some .boolean) :: ALW) { frames := 0, cells := 0, slots := 0, locals := 0 } (va_Pc [.long x1, .long x2, .long x3] (PZ D y ad av (w) sz)) (QZi D (w) v (w) sz) 0 0 (va_A (w) sz) := by
  refine met_i (by decide) (Nat.le_of_ble_eq_true rfl) ?_
  intro p e R s m args below meth c Q A ls hx hb hml hta hown hRc hRs hRf hRl hN hK hV hA hret hC hl
  have hl : lv_has ls 6 [(0, .long x1), (2, .long x2), (4, .long x3)] := hl
  unfold f_X12_isIn at hf
  refine lv_lload_n hx hb dX12_isIn_0 rfl (lv_at hl 0 rfl) ?_
  refine lv_lload_n hx hb dX12_isIn_1 rfl (lv_at hl 1 rfl) ?_
  refine W.lcmp hx hb dX12_isIn_2 ?_
  obtain ⟨k_17, hk_17, hf⟩ := jn_inv0 hf
  have hj_17 : ∀  (H : Heap) (locs : List Loc) (ls : Array Slot), k_17 = some v → CZ D A s H locs w → lv_has ls 6 [] → W p l e R s m args below meth c H locs 0 0 Q (F0 m 17 ls []) := by
    intro H locs ls hf hC hl
    have hf := hk_17 hf
    refine lv_iconst (v := 0) hx hb dX12_isIn_17 (by decide) ?_
    exact hret _ _ _ _ _ _ (Option.some.inj hf) rfl rfl dX12_isIn_18 hC
  refine lv_if_lt (tgt := 17) hx hb dX12_isIn_3 (by decide) (fun c_2 => ?_) (fun c_2 => ?_)
  · have hf := it_t c_2 hf
    exact hj_17 _ _ _ hf hC (lv_sub hl [] rfl)
  · have hf := it_f c_2 hf
    refine lv_lload_n hx hb dX12_isIn_6 rfl (lv_at hl 0 rfl) ?_
    refine lv_lload hx hb dX12_isIn_7 (lv_at hl 2 rfl) ?_
    refine W.lcmp hx hb dX12_isIn_9 ?_
    refine lv_if_gt (tgt := 17) hx hb dX12_isIn_10 (by decide) (fun c_3 => ?_) (fun c_3 => ?_)
    · have hf := it_t c_3 hf
      exact hj_17 _ _ _ hf hC (lv_sub hl [] rfl)
    · have hf := it_f c_3 hf
      refine lv_iconst (v := 1) hx hb dX12_isIn_13 (by decide) ?_
      refine lv_goto (tgt := 18) hx hb dX12_isIn_14 (by decide) ?_
      exact hret _ _ _ _ _ _ (Option.some.inj hf) rfl rfl dX12_isIn_18 hC

set_option maxHeartbeats 8000000 in
set_option maxRecDepth 100000 in
theorem r_X12_isCode {D : va_G} {y : Nat → ClassId} {ad av : Nat → Nat} {w : va_W} {x1 : Int32} {x2 : Int32} {v : Int32} (hf : f_X12_isCode x1 x2 = some v) (l : Launch) (sz : Nat) : Met l yX12_isCode (Cond.code yX12_isCode cX12_isCode 3 (some .boolean) :: ALW) { frames := 10, cells := 0, slots := 0, locals := 242 } (va_Pc [.int x1, .int x2] (PZ D y ad av (w) sz)) (QZi D (w) v (w) sz) 0 0 (va_A (w) sz) := by
  refine met_i (by decide) (Nat.le_of_ble_eq_true rfl) ?_
  intro p e R s m args below meth c Q A ls hx hb hml hta hown hRc hRs hRf hRl hN hK hV hA hret hC hl
  have hl : lv_has ls 3 [(0, .int x1), (1, .int x2)] := hl
  unfold f_X12_isCode at hf
  refine lv_iload_n hx hb dX12_isCode_0 rfl (lv_at hl 0 rfl) ?_
  obtain ⟨v_1, hc_1, hf⟩ := calp_inv hf
  refine cc_Si (r_X12_isPlain (D := D) (y := y) (w := w) (ad := ad) (av := av) hc_1 l) hx hb hml hta hown hK hN hV hA hC hRc hRs (by omega) (by omega) wq_1047 wq_1048 wq_1012 wq_1044 hd_X12_isPlain (As := [.int x1]) (rest := []) rfl rfl hl.1 rfl dX12_isCode_1 (fun H locs hC => ?_)
  refine lv_if_eq (tgt := 17) hx hb dX12_isCode_4 (by decide) (fun c_2 => ?_) (fun c_2 => ?_)
  · have hf := it_t c_2 hf
    refine lv_iload_n hx hb dX12_isCode_17 rfl (lv_at hl 0 rfl) ?_
    refine lv_bipush (v := 107) hx hb dX12_isCode_18 (by decide) ?_
    obtain ⟨k_63, hk_63, hf⟩ := jn_inv1 hf
    have hj_63 : ∀ (t0_3 : Int32) (H : Heap) (locs : List Loc) (ls : Array Slot), k_63 t0_3 = some v → CZ D A s H locs w → lv_has ls 3 [(1, .int x2)] → W p l e R s m args below meth c H locs 0 0 Q (F0 m 63 ls [.int t0_3]) := by
      intro t0_3 H locs ls hf hC hl
      have hf := hk_63 _ hf
      refine lv_istore_n (lv' := [(2, .int t0_3), (1, .int x2)]) hx hb dX12_isCode_63 rfl hl (by decide) rfl (fun ls hl => ?_)
      refine lv_iload_n hx hb dX12_isCode_64 rfl (lv_at hl 1 rfl) ?_
      refine lv_i2l hx hb dX12_isCode_65 rfl ?_
      refine lv_lconst (v := 0) hx hb dX12_isCode_66 rfl ?_
      refine lv_iload_n hx hb dX12_isCode_67 rfl (lv_at hl 0 rfl) ?_
      refine lv_i2l hx hb dX12_isCode_68 rfl ?_
      obtain ⟨v_4, hc_4, hf⟩ := calp_inv hf
      refine cc_Si (r_X12_isIn (D := D) (y := y) (w := w) (ad := ad) (av := av) hc_4 l) hx hb hml hta hown hK hN hV hA hC hRc hRs (by omega) (by omega) wq_1362 wq_1363 wq_1012 wq_1007 hd_X12_isIn (As := [.long x2.toInt64, .long 0, .long t0_3.toInt64]) (rest := []) rfl rfl hl.1 rfl dX12_isCode_69 (fun H locs hC => ?_)
      obtain ⟨hb_5, hf⟩ := bz_inv hf
      exact hret _ _ _ _ _ _ (Option.some.inj hf) rfl (bz_nar hb_5) dX12_isCode_72 hC
    refine lv_icmp_ne (tgt := 29) hx hb dX12_isCode_20 (by decide) (fun c_6 => ?_) (fun c_6 => ?_)
    · have hf := it_f c_6 hf
      refine lv_iload_n hx hb dX12_isCode_29 rfl (lv_at hl 0 rfl) ?_
      refine lv_bipush (v := 108) hx hb dX12_isCode_30 (by decide) ?_
      obtain ⟨k_41, hk_41, hf⟩ := jn_inv0 hf
      have hj_41 : ∀  (H : Heap) (locs : List Loc) (ls : Array Slot), k_41 = some v → CZ D A s H locs w → lv_has ls 3 [(1, .int x2)] → W p l e R s m args below meth c H locs 0 0 Q (F0 m 41 ls []) := by
        intro H locs ls hf hC hl
        have hf := hk_41 hf
        refine lv_iconst (v := 5) hx hb dX12_isCode_41 (by decide) ?_
        refine lv_goto (tgt := 63) hx hb dX12_isCode_42 (by decide) ?_
        exact hj_63 _ _ _ _ hf hC hl
      refine lv_icmp_eq (tgt := 41) hx hb dX12_isCode_32 (by decide) (fun c_8 => ?_) (fun c_8 => ?_)
      · have hf := it_t c_8 hf
        exact hj_41 _ _ _ hf hC (lv_sub hl [1] rfl)
      · have hf := it_f c_8 hf
        refine lv_iload_n hx hb dX12_isCode_35 rfl (lv_at hl 0 rfl) ?_
        refine lv_bipush (v := 115) hx hb dX12_isCode_36 (by decide) ?_
        refine lv_icmp_ne (tgt := 45) hx hb dX12_isCode_38 (by decide) (fun c_9 => ?_) (fun c_9 => ?_)
        · have hf := it_f c_9 hf
          refine lv_iload_n hx hb dX12_isCode_45 rfl (lv_at hl 0 rfl) ?_
          refine lv_bipush (v := 103) hx hb dX12_isCode_46 (by decide) ?_
          obtain ⟨k_57, hk_57, hf⟩ := jn_inv0 hf
          have hj_57 : ∀  (H : Heap) (locs : List Loc) (ls : Array Slot), k_57 = some v → CZ D A s H locs w → lv_has ls 3 [(1, .int x2)] → W p l e R s m args below meth c H locs 0 0 Q (F0 m 57 ls []) := by
            intro H locs ls hf hC hl
            have hf := hk_57 hf
            refine lv_bipush (v := 39) hx hb dX12_isCode_57 (by decide) ?_
            refine lv_goto (tgt := 63) hx hb dX12_isCode_59 (by decide) ?_
            exact hj_63 _ _ _ _ hf hC hl
          refine lv_icmp_eq (tgt := 57) hx hb dX12_isCode_48 (by decide) (fun c_11 => ?_) (fun c_11 => ?_)
          · have hf := it_t c_11 hf
            exact hj_57 _ _ _ hf hC (lv_sub hl [1] rfl)
          · have hf := it_f c_11 hf
            refine lv_iload_n hx hb dX12_isCode_51 rfl (lv_at hl 0 rfl) ?_
            refine lv_bipush (v := 122) hx hb dX12_isCode_52 (by decide) ?_
            refine lv_icmp_ne (tgt := 62) hx hb dX12_isCode_54 (by decide) (fun c_12 => ?_) (fun c_12 => ?_)
            · have hf := it_f c_12 hf
              refine lv_iconst (v := (-1)) hx hb dX12_isCode_62 (by decide) ?_
              exact hj_63 _ _ _ _ hf hC (lv_sub hl [1] rfl)
            · have hf := it_t c_12 hf
              exact hj_57 _ _ _ hf hC (lv_sub hl [1] rfl)
        · have hf := it_t c_9 hf
          exact hj_41 _ _ _ hf hC (lv_sub hl [1] rfl)
    · have hf := it_t c_6 hf
      refine lv_sipush (v := 999) hx hb dX12_isCode_23 (by decide) ?_
      refine lv_goto (tgt := 63) hx hb dX12_isCode_26 (by decide) ?_
      exact hj_63 _ _ _ _ hf hC (lv_sub hl [1] rfl)
  · have hf := it_f c_2 hf
    refine lv_iload_n hx hb dX12_isCode_7 rfl (lv_at hl 1 rfl) ?_
    refine lv_if_ne (tgt := 15) hx hb dX12_isCode_8 (by decide) (fun c_13 => ?_) (fun c_13 => ?_)
    · have hf := it_f c_13 hf
      refine lv_iconst (v := 0) hx hb dX12_isCode_15 (by decide) ?_
      exact hret _ _ _ _ _ _ (Option.some.inj hf) rfl rfl dX12_isCode_16 hC
    · have hf := it_t c_13 hf
      refine lv_iconst (v := 1) hx hb dX12_isCode_11 (by decide) ?_
      refine lv_goto (tgt := 16) hx hb dX12_isCode_12 (by decide) ?_
      exact hret _ _ _ _ _ _ (Option.some.inj hf) rfl rfl dX12_isCode_16 hC

set_option maxHeartbeats 8000000 in
set_option maxRecDepth 100000 in
theorem r_X12_tries_sign_number_handler {D : va_G} {y : Nat → ClassId} {o : Nat → Nat} {ad av : Nat → Nat} {x3 : Int32} {x5 : Int32} {σ : Sto} {σ2 : Sto} (hf : f_X12_tries_sign_number_handler x3 x5 σ = some σ2) (l : Launch) (sz : Nat) : Met l yX12_tries (Cond.code yX12_tries cX12_tries 7 none :: ALW) { frames := 0, cells := 0, slots := 0, locals := 0 } (va_Pc [.ref (o 0), .ref (o 5), .ref (o 6), .int x3, .ref (o 7), .int x5] (PZ D y ad av (WM y o σ) sz)) (QZv D (WM y o σ) (WM y o σ2) sz) 0 0 (va_A (WM y o σ) sz) := by
  refine met_v (by decide) (Nat.le_of_ble_eq_true rfl) ?_
  intro p e R s m args below meth c Q A ls hx hb hml hta hown hRc hRs hRf hRl hN hK hV hA hret hC hl
  have hl : lv_has ls 7 [(0, .ref (o 0)), (1, .ref (o 5)), (2, .ref (o 6)), (3, .int x3), (4, .ref (o 7)), (5, .int x5)] := hl
  unfold f_X12_tries_sign_number_handler at hf
  refine lv_iconst (v := 0) hx hb dX12_tries_0 (by decide) ?_
  refine lv_istore (lv' := [(6, .int 0), (0, .ref (o 0)), (1, .ref (o 5)), (2, .ref (o 6)), (3, .int x3), (4, .ref (o 7)), (5, .int x5)]) hx hb dX12_tries_1 hl (by decide) rfl (fun ls hl => ?_)
  refine itr_inv2 (P := fun (x6_1 : Int32) (s_1 : Sto) => ∀ (H : Heap) (locs : List Loc) (ls : Array Slot), CZ D A s H locs (WM y o s_1) → lv_has ls 7 [(0, .ref (o 0)), (1, .ref (o 5)), (2, .ref (o 6)), (3, .int x3), (4, .ref (o 7)), (5, .int x5), (6, .int x6_1)] → W p l e R s m args below meth c H locs 0 0 Q (F0 m 3 ls [])) hf ?_ _ _ _ hC (lv_sub hl [1, 2, 3, 4, 5, 6, 0] rfl)
  intro a_3 x6_1 s_1 ha_3 hf H locs ls hC hl
  refine lv_iload hx hb dX12_tries_3 (lv_at hl 6 rfl) ?_
  refine lv_bipush (v := 40) hx hb dX12_tries_5 (by decide) ?_
  refine lv_icmp_ge (tgt := 38) hx hb dX12_tries_7 (by decide) (fun c_2 => ?_) (fun c_2 => ?_)
  · have hf := it_t c_2 hf
    refine lv_iconst (v := 0) hx hb dX12_tries_38 (by decide) ?_
    refine lv_istore (lv' := [(6, .int 0), (0, .ref (o 0)), (1, .ref (o 5)), (2, .ref (o 6)), (3, .int x3), (4, .ref (o 7)), (5, .int x5)]) hx hb dX12_tries_39 hl (by decide) rfl (fun ls hl => ?_)
    refine itr_inv2 (P := fun (x6_3 : Int32) (s_3 : Sto) => ∀ (H : Heap) (locs : List Loc) (ls : Array Slot), CZ D A s H locs (WM y o s_3) → lv_has ls 7 [(0, .ref (o 0)), (3, .int x3), (4, .ref (o 7)), (5, .int x5), (6, .int x6_3)] → W p l e R s m args below meth c H locs 0 0 Q (F0 m 41 ls [])) hf ?_ _ _ _ hC (lv_sub hl [1, 4, 5, 6, 0] rfl)
    intro a_41 x6_3 s_3 ha_41 hf H locs ls hC hl
    refine lv_iload hx hb dX12_tries_41 (lv_at hl 4 rfl) ?_
    refine lv_bipush (v := 9) hx hb dX12_tries_43 (by decide) ?_
    refine lv_icmp_ge (tgt := 66) hx hb dX12_tries_45 (by decide) (fun c_4 => ?_) (fun c_4 => ?_)
    · have hf := it_t c_4 hf
      refine lv_aload_n hx hb dX12_tries_66 rfl (lv_at hl 0 rfl) ?_
      refine lv_iload_n hx hb dX12_tries_67 rfl (lv_at hl 1 rfl) ?_
      obtain ⟨s_5, e_5, hf⟩ := lt_inv hf
      refine pt_X12_254_m hx hb hta hown hK hC e_5 dX12_tries_68 (fun H locs hC => ?_)
      refine lv_aload_n hx hb dX12_tries_71 rfl (lv_at hl 0 rfl) ?_
      refine lv_iload hx hb dX12_tries_72 (lv_at hl 3 rfl) ?_
      obtain ⟨s_6, e_6, hf⟩ := lt_inv hf
      refine pt_X12_260_m hx hb hta hown hK hC e_6 dX12_tries_74 (fun H locs hC => ?_)
      exact hret _ _ _ _ _ (congrArg (WM y o) (Option.some.inj hf)) dX12_tries_77 hC
    · have hf := it_f c_4 hf
      refine lv_aload_n hx hb dX12_tries_48 rfl (lv_at hl 0 rfl) ?_
      refine gt_X12_38_m hx hb hta hown hK hC dX12_tries_49 ?_
      refine lv_iload hx hb dX12_tries_52 (lv_at hl 4 rfl) ?_
      refine lv_aload hx hb dX12_tries_54 (lv_at hl 2 rfl) ?_
      refine lv_iload hx hb dX12_tries_56 (lv_at hl 4 rfl) ?_
      obtain ⟨hi_7, hf⟩ := ix_inv hf
      obtain ⟨v_7, e_7, hf⟩ := lt_inv hf
      refine al_M_7 hx hb hK hC hi_7 e_7 dX12_tries_58 ?_
      obtain ⟨hi_8, hf⟩ := ix_inv hf
      obtain ⟨s_8, e_8, hf⟩ := lt_inv hf
      refine as_M_10 hx hb hK hC hi_8 e_8 dX12_tries_59 (fun H locs hC => ?_)
      obtain ⟨x6_9, e_9, hf⟩ := lt_inv hf
      refine lv_iinc (v := x6_9) (lv' := [(6, .int x6_9), (0, .ref (o 0)), (3, .int x3), (4, .ref (o 7)), (5, .int x5)]) hx hb dX12_tries_60 hl (k := 4) rfl e_9.symm (by decide) rfl (fun ls hl => ?_)
      refine lv_goto (tgt := 41) hx hb dX12_tries_63 (by decide) ?_
      exact ha_41 _ _ hf _ _ _ hC (lv_sub hl [1, 2, 3, 4, 0] rfl)
  · have hf := it_f c_2 hf
    refine lv_aload_n hx hb dX12_tries_10 rfl (lv_at hl 0 rfl) ?_
    refine gt_X12_32_m hx hb hta hown hK hC dX12_tries_11 ?_
    refine lv_iload hx hb dX12_tries_14 (lv_at hl 6 rfl) ?_
    refine lv_aload_n hx hb dX12_tries_16 rfl (lv_at hl 1 rfl) ?_
    refine lv_iload hx hb dX12_tries_17 (lv_at hl 6 rfl) ?_
    obtain ⟨hi_10, hf⟩ := ix_inv hf
    obtain ⟨v_10, e_10, hf⟩ := lt_inv hf
    refine al_M_5 hx hb hK hC hi_10 e_10 dX12_tries_19 ?_
    obtain ⟨hi_11, hf⟩ := ix_inv hf
    obtain ⟨s_11, e_11, hf⟩ := lt_inv hf
    refine as_M_8 hx hb hK hC hi_11 e_11 dX12_tries_20 (fun H locs hC => ?_)
    refine lv_aload_n hx hb dX12_tries_21 rfl (lv_at hl 0 rfl) ?_
    refine gt_X12_35_m hx hb hta hown hK hC dX12_tries_22 ?_
    refine lv_iload hx hb dX12_tries_25 (lv_at hl 6 rfl) ?_
    refine lv_aload_n hx hb dX12_tries_27 rfl (lv_at hl 2 rfl) ?_
    refine lv_iload hx hb dX12_tries_28 (lv_at hl 6 rfl) ?_
    obtain ⟨hi_12, hf⟩ := ix_inv hf
    obtain ⟨v_12, e_12, hf⟩ := lt_inv hf
    refine al_M_6 hx hb hK hC hi_12 e_12 dX12_tries_30 ?_
    obtain ⟨hi_13, hf⟩ := ix_inv hf
    obtain ⟨s_13, e_13, hf⟩ := lt_inv hf
    refine as_M_9 hx hb hK hC hi_13 e_13 dX12_tries_31 (fun H locs hC => ?_)
    obtain ⟨x6_14, e_14, hf⟩ := lt_inv hf
    refine lv_iinc (v := x6_14) (lv' := [(6, .int x6_14), (0, .ref (o 0)), (1, .ref (o 5)), (2, .ref (o 6)), (3, .int x3), (4, .ref (o 7)), (5, .int x5)]) hx hb dX12_tries_32 hl (k := 6) rfl e_14.symm (by decide) rfl (fun ls hl => ?_)
    refine lv_goto (tgt := 3) hx hb dX12_tries_35 (by decide) ?_
    exact ha_3 _ _ hf _ _ _ hC (lv_sub hl [1, 2, 3, 4, 5, 6, 0] rfl)

set_option maxHeartbeats 8000000 in
set_option maxRecDepth 100000 in
theorem r_X12_put {D : va_G} {y : Nat → ClassId} {o : Nat → Nat} {ad av : Nat → Nat} {x1 : Int32} {x2 : Int32} {x3 : Int32} {σ : Sto} {σ2 : Sto} {v : Int32} (hf : f_X12_put x1 x2 x3 σ = some (v, σ2)) (l : Launch) (sz : Nat) : Met l yX12_put (Cond.code yX12_put cX12_put 5 (some .int) :: ALW) { frames := 264, cells := 0, slots := 0, locals := 6325 } (va_Pc [.ref (o 0), .int x1, .int x2, .int x3] (PZ D y ad av (WM y o σ) sz)) (QZi D (WM y o σ) v (WM y o σ2) sz) 0 0 (va_A (WM y o σ) sz) := by
  refine met_i (by decide) (Nat.le_of_ble_eq_true rfl) ?_
  intro p e R s m args below meth c Q A ls hx hb hml hta hown hRc hRs hRf hRl hN hK hV hA hret hC hl
  have hl : lv_has ls 5 [(0, .ref (o 0)), (1, .int x1), (2, .int x2), (3, .int x3)] := hl
  unfold f_X12_put at hf
  refine lv_aload_n hx hb dX12_put_0 rfl (lv_at hl 0 rfl) ?_
  refine lv_iconst (v := 0) hx hb dX12_put_1 (by decide) ?_
  obtain ⟨s_1, e_1, hf⟩ := lt_inv hf
  refine pt_X12_169_m hx hb hta hown hK hC e_1 dX12_put_2 (fun H locs hC => ?_)
  refine lv_aload_n hx hb dX12_put_5 rfl (lv_at hl 0 rfl) ?_
  refine gt_X12_292_m hx hb hta hown hK hC dX12_put_6 ?_
  refine lv_if_eq (tgt := 36) hx hb dX12_put_9 (by decide) (fun c_2 => ?_) (fun c_2 => ?_)
  · have hf := it_t c_2 hf
    refine lv_iconst (v := (-1)) hx hb dX12_put_36 (by decide) ?_
    exact hret _ _ _ _ _ _ (rv_inv hf).1 (congrArg (WM y o) (rv_inv hf).2) rfl dX12_put_37 hC
  · have hf := it_f c_2 hf
    refine lv_iload_n hx hb dX12_put_12 rfl (lv_at hl 1 rfl) ?_
    refine lv_i2l hx hb dX12_put_13 rfl ?_
    refine lv_lconst (v := 0) hx hb dX12_put_14 rfl ?_
    refine lv_aload_n hx hb dX12_put_15 rfl (lv_at hl 0 rfl) ?_
    refine gt_X12_286_m hx hb hta hown hK hC dX12_put_16 ?_
    refine lv_iconst (v := 1) hx hb dX12_put_19 (by decide) ?_
    refine lv_isub hx hb dX12_put_20 ?_
    refine lv_i2l hx hb dX12_put_21 rfl ?_
    obtain ⟨v_3, hc_3, hf⟩ := calp_inv hf
    refine cc_Si (r_X12_isIn (D := D) (y := y) (w := WM y o s_1) (ad := ad) (av := av) hc_3 l) hx hb hml hta hown hK hN hV hA hC hRc hRs (by omega) (by omega) wq_1362 wq_1363 wq_1012 wq_1007 hd_X12_isIn (As := [.long x1.toInt64, .long 0, .long (((s_1.1 15 0) - 1).toInt64)]) (rest := []) rfl rfl hl.1 rfl dX12_put_22 (fun H locs hC => ?_)
    refine lv_if_eq (tgt := 36) hx hb dX12_put_25 (by decide) (fun c_4 => ?_) (fun c_4 => ?_)
    · have hf := it_t c_4 hf
      refine lv_iconst (v := (-1)) hx hb dX12_put_36 (by decide) ?_
      exact hret _ _ _ _ _ _ (rv_inv hf).1 (congrArg (WM y o) (rv_inv hf).2) rfl dX12_put_37 hC
    · have hf := it_f c_4 hf
      refine lv_iload_n hx hb dX12_put_28 rfl (lv_at hl 2 rfl) ?_
      refine lv_iload_n hx hb dX12_put_29 rfl (lv_at hl 3 rfl) ?_
      obtain ⟨v_5, hc_5, hf⟩ := calp_inv hf
      refine cc_Si (r_X12_isCode (D := D) (y := y) (w := WM y o s_1) (ad := ad) (av := av) hc_5 l) hx hb hml hta hown hK hN hV hA hC hRc hRs (by omega) (by omega) wq_1365 wq_1366 wq_1012 wq_1364 hd_X12_isCode (As := [.int x2, .int x3]) (rest := []) rfl rfl hl.1 rfl dX12_put_30 (fun H locs hC => ?_)
      refine lv_if_ne (tgt := 38) hx hb dX12_put_33 (by decide) (fun c_6 => ?_) (fun c_6 => ?_)
      · have hf := it_f c_6 hf
        refine lv_aload_n hx hb dX12_put_38 rfl (lv_at hl 0 rfl) ?_
        refine lv_aload_n hx hb dX12_put_39 rfl (lv_at hl 0 rfl) ?_
        refine gt_X12_23_m hx hb hta hown hK hC dX12_put_40 ?_
        refine lv_aload_n hx hb dX12_put_43 rfl (lv_at hl 0 rfl) ?_
        refine gt_X12_26_m hx hb hta hown hK hC dX12_put_44 ?_
        refine lv_aload_n hx hb dX12_put_47 rfl (lv_at hl 0 rfl) ?_
        refine gt_X12_286_m hx hb hta hown hK hC dX12_put_48 ?_
        refine lv_aload_n hx hb dX12_put_51 rfl (lv_at hl 0 rfl) ?_
        refine gt_X12_29_m hx hb hta hown hK hC dX12_put_52 ?_
        refine lv_aload_n hx hb dX12_put_55 rfl (lv_at hl 0 rfl) ?_
        refine gt_X12_289_m hx hb hta hown hK hC dX12_put_56 ?_
        obtain ⟨s_7, hc_7, hf⟩ := cals_inv hf
        refine cc_Vv (r_X12_tries_sign_number_handler (D := D) (y := y) (o := o) (ad := ad) (av := av) hc_7 l) hx hb hml hta hown hK hN hV hA hC hRc hRs (by omega) (by omega) wq_1352 (q := 0) (ci := 12) rfl rfl wq_1353 wq_1354 wq_1012 wq_1101 hd_X12_tries (As := [.ref (o 5), .ref (o 6), .int (s_1.1 15 0), .ref (o 7), .int (s_1.1 16 0)]) (rest := []) rfl rfl hl.1 rfl dX12_put_59 (fun H locs hC => ?_)
        refine lv_aload_n hx hb dX12_put_62 rfl (lv_at hl 0 rfl) ?_
        refine gt_X12_32_m hx hb hta hown hK hC dX12_put_63 ?_
        refine lv_iload_n hx hb dX12_put_66 rfl (lv_at hl 1 rfl) ?_
        refine lv_iload_n hx hb dX12_put_67 rfl (lv_at hl 2 rfl) ?_
        obtain ⟨hi_8, hf⟩ := ix_inv hf
        obtain ⟨s_8, e_8, hf⟩ := lt_inv hf
        refine as_M_8 hx hb hK hC hi_8 e_8 dX12_put_68 (fun H locs hC => ?_)
        refine lv_aload_n hx hb dX12_put_69 rfl (lv_at hl 0 rfl) ?_
        refine gt_X12_35_m hx hb hta hown hK hC dX12_put_70 ?_
        refine lv_iload_n hx hb dX12_put_73 rfl (lv_at hl 1 rfl) ?_
        refine lv_iload_n hx hb dX12_put_74 rfl (lv_at hl 3 rfl) ?_
        obtain ⟨hi_9, hf⟩ := ix_inv hf
        obtain ⟨s_9, e_9, hf⟩ := lt_inv hf
        refine as_M_9 hx hb hK hC hi_9 e_9 dX12_put_75 (fun H locs hC => ?_)
        refine lv_aload_n hx hb dX12_put_76 rfl (lv_at hl 0 rfl) ?_
        obtain ⟨v_10, s_10, hc_10, hf⟩ := calv_inv hf
        refine cc_Vi (r_X12_wrong (D := D) (y := y) (o := o) (ad := ad) (av := av) hc_10 l) hx hb hml hta hown hK hN hV hA hC hRc hRs (by omega) (by omega) wq_1355 (q := 0) (ci := 12) rfl rfl wq_1356 wq_1357 wq_1012 wq_1100 hd_X12_wrong (As := []) (rest := []) rfl rfl hl.1 rfl dX12_put_77 (fun H locs hC => ?_)
        refine lv_istore (lv' := [(4, .int v_10), (0, .ref (o 0)), (1, .int x1), (2, .int x2), (3, .int x3)]) hx hb dX12_put_80 hl (by decide) rfl (fun ls hl => ?_)
        refine lv_iload hx hb dX12_put_82 (lv_at hl 0 rfl) ?_
        refine lv_if_ge (tgt := 92) hx hb dX12_put_84 (by decide) (fun c_11 => ?_) (fun c_11 => ?_)
        · have hf := it_t c_11 hf
          refine lv_aload_n hx hb dX12_put_92 rfl (lv_at hl 1 rfl) ?_
          obtain ⟨v_12, s_12, hc_12, hf⟩ := calv_inv hf
          refine cc_Vi (r_X12_takes (D := D) (y := y) (o := o) (ad := ad) (av := av) hc_12 l) hx hb hml hta hown hK hN hV hA hC hRc hRs (by omega) (by omega) wq_1358 (q := 0) (ci := 12) rfl rfl wq_1359 wq_1360 wq_1012 wq_1351 hd_X12_takes (As := []) (rest := []) rfl rfl hl.1 rfl dX12_put_93 (fun H locs hC => ?_)
          exact hret _ _ _ _ _ _ (rv_inv hf).1 (congrArg (WM y o) (rv_inv hf).2) rfl dX12_put_96 hC
        · have hf := it_f c_11 hf
          refine lv_iload hx hb dX12_put_87 (lv_at hl 0 rfl) ?_
          refine lv_goto (tgt := 96) hx hb dX12_put_89 (by decide) ?_
          exact hret _ _ _ _ _ _ (rv_inv hf).1 (congrArg (WM y o) (rv_inv hf).2) rfl dX12_put_96 hC
      · have hf := it_t c_6 hf
        refine lv_iconst (v := (-1)) hx hb dX12_put_36 (by decide) ?_
        exact hret _ _ _ _ _ _ (rv_inv hf).1 (congrArg (WM y o) (rv_inv hf).2) rfl dX12_put_37 hC

set_option maxHeartbeats 8000000 in
set_option maxRecDepth 100000 in
theorem r_X12_countLoops {D : va_G} {y : Nat → ClassId} {o : Nat → Nat} {ad av : Nat → Nat} {σ : Sto} {v : Int32} (hf : f_X12_countLoops σ = some v) (l : Launch) (sz : Nat) : Met l yX12_countLoops (Cond.code yX12_countLoops cX12_countLoops 3 (some .int) :: ALW) { frames := 0, cells := 0, slots := 0, locals := 0 } (va_Pc [.ref (o 0)] (PZ D y ad av (WM y o σ) sz)) (QZi D (WM y o σ) v (WM y o σ) sz) 0 0 (va_A (WM y o σ) sz) := by
  refine met_i (by decide) (Nat.le_of_ble_eq_true rfl) ?_
  intro p e R s m args below meth c Q A ls hx hb hml hta hown hRc hRs hRf hRl hN hK hV hA hret hC hl
  have hl : lv_has ls 3 [(0, .ref (o 0))] := hl
  unfold f_X12_countLoops at hf
  refine lv_iconst (v := 0) hx hb dX12_countLoops_0 (by decide) ?_
  refine lv_istore_n (lv' := [(1, .int 0), (0, .ref (o 0))]) hx hb dX12_countLoops_1 rfl hl (by decide) rfl (fun ls hl => ?_)
  refine lv_iconst (v := 0) hx hb dX12_countLoops_2 (by decide) ?_
  refine lv_istore_n (lv' := [(2, .int 0), (1, .int 0), (0, .ref (o 0))]) hx hb dX12_countLoops_3 rfl hl (by decide) rfl (fun ls hl => ?_)
  refine itr_inv2 (P := fun (x1_1 : Int32) (x2_1 : Int32) => ∀ (H : Heap) (locs : List Loc) (ls : Array Slot), CZ D A s H locs (WM y o σ) → lv_has ls 3 [(0, .ref (o 0)), (1, .int x1_1), (2, .int x2_1)] → W p l e R s m args below meth c H locs 0 0 Q (F0 m 4 ls [])) hf ?_ _ _ _ hC (lv_sub hl [2, 1, 0] rfl)
  intro a_4 x1_1 x2_1 ha_4 hf H locs ls hC hl
  refine lv_iload_n hx hb dX12_countLoops_4 rfl (lv_at hl 2 rfl) ?_
  refine lv_aload_n hx hb dX12_countLoops_5 rfl (lv_at hl 0 rfl) ?_
  refine gt_X12_299_m hx hb hta hown hK hC dX12_countLoops_6 ?_
  refine lv_icmp_ge (tgt := 37) hx hb dX12_countLoops_9 (by decide) (fun c_2 => ?_) (fun c_2 => ?_)
  · have hf := it_t c_2 hf
    refine lv_iload_n hx hb dX12_countLoops_37 rfl (lv_at hl 1 rfl) ?_
    exact hret _ _ _ _ _ _ (Option.some.inj hf) rfl rfl dX12_countLoops_38 hC
  · have hf := it_f c_2 hf
    refine lv_iload_n hx hb dX12_countLoops_12 rfl (lv_at hl 1 rfl) ?_
    refine lv_aload_n hx hb dX12_countLoops_13 rfl (lv_at hl 0 rfl) ?_
    refine gt_X12_79_m hx hb hta hown hK hC dX12_countLoops_14 ?_
    refine lv_iload_n hx hb dX12_countLoops_17 rfl (lv_at hl 2 rfl) ?_
    obtain ⟨hi_3, hf⟩ := ix_inv hf
    obtain ⟨v_3, e_3, hf⟩ := lt_inv hf
    refine al_M_23 hx hb hK hC hi_3 e_3 dX12_countLoops_18 ?_
    refine lv_lconst (v := 0) hx hb dX12_countLoops_19 rfl ?_
    refine W.lcmp hx hb dX12_countLoops_20 ?_
    obtain ⟨k_29, hk_29, hf⟩ := jn_inv1 hf
    have hj_29 : ∀ (t0_4 : Int32) (H : Heap) (locs : List Loc) (ls : Array Slot), k_29 t0_4 = some v → CZ D A s H locs (WM y o σ) → lv_has ls 3 [(0, .ref (o 0)), (2, .int x2_1)] → W p l e R s m args below meth c H locs 0 0 Q (F0 m 29 ls [.int t0_4, .int x1_1]) := by
      intro t0_4 H locs ls hf hC hl
      have hf := hk_29 _ hf
      refine lv_iadd hx hb dX12_countLoops_29 ?_
      obtain ⟨x1_5, e_5, hf⟩ := lt_inv hf
      refine nmi e_5 ?_
      refine lv_istore_n (lv' := [(1, .int x1_5), (0, .ref (o 0)), (2, .int x2_1)]) hx hb dX12_countLoops_30 rfl hl (by decide) rfl (fun ls hl => ?_)
      obtain ⟨x2_6, e_6, hf⟩ := lt_inv hf
      refine lv_iinc (v := x2_6) (lv' := [(2, .int x2_6), (1, .int x1_5), (0, .ref (o 0))]) hx hb dX12_countLoops_31 hl (k := 2) rfl e_6.symm (by decide) rfl (fun ls hl => ?_)
      refine lv_goto (tgt := 4) hx hb dX12_countLoops_34 (by decide) ?_
      exact ha_4 _ _ hf _ _ _ hC (lv_sub hl [2, 1, 0] rfl)
    refine lv_if_ne (tgt := 28) hx hb dX12_countLoops_21 (by decide) (fun c_7 => ?_) (fun c_7 => ?_)
    · have hf := it_f c_7 hf
      refine lv_iconst (v := 1) hx hb dX12_countLoops_28 (by decide) ?_
      exact hj_29 _ _ _ _ hf hC (lv_sub hl [0, 2] rfl)
    · have hf := it_t c_7 hf
      refine lv_iconst (v := 0) hx hb dX12_countLoops_24 (by decide) ?_
      refine lv_goto (tgt := 29) hx hb dX12_countLoops_25 (by decide) ?_
      exact hj_29 _ _ _ _ hf hC (lv_sub hl [0, 2] rfl)

set_option maxHeartbeats 8000000 in
set_option maxRecDepth 100000 in
theorem r_X12_countMerges {D : va_G} {y : Nat → ClassId} {o : Nat → Nat} {ad av : Nat → Nat} {σ : Sto} {v : Int32} (hf : f_X12_countMerges σ = some v) (l : Launch) (sz : Nat) : Met l yX12_countMerges (Cond.code yX12_countMerges cX12_countMerges 3 (some .int) :: ALW) { frames := 1, cells := 0, slots := 0, locals := 23 } (va_Pc [.ref (o 0)] (PZ D y ad av (WM y o σ) sz)) (QZi D (WM y o σ) v (WM y o σ) sz) 0 0 (va_A (WM y o σ) sz) := by
  refine met_i (by decide) (Nat.le_of_ble_eq_true rfl) ?_
  intro p e R s m args below meth c Q A ls hx hb hml hta hown hRc hRs hRf hRl hN hK hV hA hret hC hl
  have hl : lv_has ls 3 [(0, .ref (o 0))] := hl
  unfold f_X12_countMerges at hf
  refine lv_iconst (v := 0) hx hb dX12_countMerges_0 (by decide) ?_
  refine lv_istore_n (lv' := [(1, .int 0), (0, .ref (o 0))]) hx hb dX12_countMerges_1 rfl hl (by decide) rfl (fun ls hl => ?_)
  refine lv_iconst (v := 0) hx hb dX12_countMerges_2 (by decide) ?_
  refine lv_istore_n (lv' := [(2, .int 0), (1, .int 0), (0, .ref (o 0))]) hx hb dX12_countMerges_3 rfl hl (by decide) rfl (fun ls hl => ?_)
  refine itr_inv2 (P := fun (x1_1 : Int32) (x2_1 : Int32) => ∀ (H : Heap) (locs : List Loc) (ls : Array Slot), CZ D A s H locs (WM y o σ) → lv_has ls 3 [(0, .ref (o 0)), (1, .int x1_1), (2, .int x2_1)] → W p l e R s m args below meth c H locs 0 0 Q (F0 m 4 ls [])) hf ?_ _ _ _ hC (lv_sub hl [2, 1, 0] rfl)
  intro a_4 x1_1 x2_1 ha_4 hf H locs ls hC hl
  refine lv_iload_n hx hb dX12_countMerges_4 rfl (lv_at hl 2 rfl) ?_
  refine lv_aload_n hx hb dX12_countMerges_5 rfl (lv_at hl 0 rfl) ?_
  refine gt_X12_299_m hx hb hta hown hK hC dX12_countMerges_6 ?_
  refine lv_icmp_ge (tgt := 34) hx hb dX12_countMerges_9 (by decide) (fun c_2 => ?_) (fun c_2 => ?_)
  · have hf := it_t c_2 hf
    refine lv_iload_n hx hb dX12_countMerges_34 rfl (lv_at hl 1 rfl) ?_
    exact hret _ _ _ _ _ _ (Option.some.inj hf) rfl rfl dX12_countMerges_35 hC
  · have hf := it_f c_2 hf
    refine lv_iload_n hx hb dX12_countMerges_12 rfl (lv_at hl 1 rfl) ?_
    refine lv_aload_n hx hb dX12_countMerges_13 rfl (lv_at hl 0 rfl) ?_
    refine lv_iload_n hx hb dX12_countMerges_14 rfl (lv_at hl 2 rfl) ?_
    obtain ⟨v_3, hc_3, hf⟩ := calp_inv hf
    refine cc_Vi (r_X12_isMerge (D := D) (y := y) (o := o) (ad := ad) (av := av) hc_3 l) hx hb hml hta hown hK hN hV hA hC hRc hRs (by omega) (by omega) wq_1278 (q := 0) (ci := 12) rfl rfl wq_1279 wq_1280 wq_1012 wq_1269 hd_X12_isMerge (As := [.int x2_1]) (rest := [.int x1_1]) rfl rfl hl.1 rfl dX12_countMerges_15 (fun H locs hC => ?_)
    obtain ⟨k_26, hk_26, hf⟩ := jn_inv1 hf
    have hj_26 : ∀ (t0_4 : Int32) (H : Heap) (locs : List Loc) (ls : Array Slot), k_26 t0_4 = some v → CZ D A s H locs (WM y o σ) → lv_has ls 3 [(0, .ref (o 0)), (2, .int x2_1)] → W p l e R s m args below meth c H locs 0 0 Q (F0 m 26 ls [.int t0_4, .int x1_1]) := by
      intro t0_4 H locs ls hf hC hl
      have hf := hk_26 _ hf
      refine lv_iadd hx hb dX12_countMerges_26 ?_
      obtain ⟨x1_5, e_5, hf⟩ := lt_inv hf
      refine nmi e_5 ?_
      refine lv_istore_n (lv' := [(1, .int x1_5), (0, .ref (o 0)), (2, .int x2_1)]) hx hb dX12_countMerges_27 rfl hl (by decide) rfl (fun ls hl => ?_)
      obtain ⟨x2_6, e_6, hf⟩ := lt_inv hf
      refine lv_iinc (v := x2_6) (lv' := [(2, .int x2_6), (1, .int x1_5), (0, .ref (o 0))]) hx hb dX12_countMerges_28 hl (k := 2) rfl e_6.symm (by decide) rfl (fun ls hl => ?_)
      refine lv_goto (tgt := 4) hx hb dX12_countMerges_31 (by decide) ?_
      exact ha_4 _ _ hf _ _ _ hC (lv_sub hl [2, 1, 0] rfl)
    refine lv_if_eq (tgt := 25) hx hb dX12_countMerges_18 (by decide) (fun c_7 => ?_) (fun c_7 => ?_)
    · have hf := it_t c_7 hf
      refine lv_iconst (v := 0) hx hb dX12_countMerges_25 (by decide) ?_
      exact hj_26 _ _ _ _ hf hC (lv_sub hl [0, 2] rfl)
    · have hf := it_f c_7 hf
      refine lv_iconst (v := 1) hx hb dX12_countMerges_21 (by decide) ?_
      refine lv_goto (tgt := 26) hx hb dX12_countMerges_22 (by decide) ?_
      exact hj_26 _ _ _ _ hf hC (lv_sub hl [0, 2] rfl)

set_option maxHeartbeats 8000000 in
set_option maxRecDepth 100000 in
theorem rg_X12_areAlike {D : va_G} {y : Nat → ClassId} {o : Nat → Nat} {ad av : Nat → Nat} : ∀ d : Nat, (∀ {x1 : Int32} {x2 : Int32} {σ : Sto} {v : Int32}, f_X12_areAlike d x1 x2 σ = some v → ∀ (l : Launch) (sz : Nat), Met l yX12_areAlike (Cond.code yX12_areAlike cX12_areAlike 3 (some .boolean) :: ALW) { frames := d + 1, cells := 0, slots := 0, locals := d * 22 + 21 } (va_Pc [.ref (o 0), .int x1, .int x2] (PZ D y ad av (WM y o σ) sz)) (QZi D (WM y o σ) v (WM y o σ) sz) 0 0 (va_A (WM y o σ) sz)) := by
  intro d
  induction d with
  | zero => exact fun hc => by have hc : (none : Option (Int32)) = some _ := hc; cases hc
  | succ d ih =>
    have h_X12_areAlike := @ih
    intro x1 x2 σ v hf l sz
    have hf : b_X12_areAlike (f_X12_areAlike d) x1 x2 σ = some v := hf
    refine met_i (by decide) (Nat.le_of_ble_eq_true rfl) ?_
    intro p e R s m args below meth c Q A ls hx hb hml hta hown hRc hRs hRf hRl hN hK hV hA hret hC hl
    have hl : lv_has ls 3 [(0, .ref (o 0)), (1, .int x1), (2, .int x2)] := hl
    unfold b_X12_areAlike at hf
    refine lv_aload_n hx hb dX12_areAlike_0 rfl (lv_at hl 0 rfl) ?_
    refine gt_X12_88_m hx hb hta hown hK hC dX12_areAlike_1 ?_
    refine lv_iload_n hx hb dX12_areAlike_4 rfl (lv_at hl 1 rfl) ?_
    obtain ⟨hi_1, hf⟩ := ix_inv hf
    obtain ⟨v_1, e_1, hf⟩ := lt_inv hf
    refine al_M_26 hx hb hK hC hi_1 e_1 dX12_areAlike_5 ?_
    refine lv_aload_n hx hb dX12_areAlike_6 rfl (lv_at hl 0 rfl) ?_
    refine gt_X12_88_m hx hb hta hown hK hC dX12_areAlike_7 ?_
    refine lv_iload_n hx hb dX12_areAlike_10 rfl (lv_at hl 2 rfl) ?_
    obtain ⟨hi_2, hf⟩ := ix_inv hf
    obtain ⟨v_2, e_2, hf⟩ := lt_inv hf
    refine al_M_26 hx hb hK hC hi_2 e_2 dX12_areAlike_11 ?_
    refine lv_icmp_eq (tgt := 17) hx hb dX12_areAlike_12 (by decide) (fun c_3 => ?_) (fun c_3 => ?_)
    · have hf := it_t c_3 hf
      refine lv_aload_n hx hb dX12_areAlike_17 rfl (lv_at hl 0 rfl) ?_
      refine lv_iload_n hx hb dX12_areAlike_18 rfl (lv_at hl 1 rfl) ?_
      obtain ⟨v_4, hc_4, hf⟩ := calp_inv hf
      refine cc_Vi (r_X12_isOne (D := D) (y := y) (o := o) (ad := ad) (av := av) hc_4 l) hx hb hml hta hown hK hN hV hA hC hRc hRs (by omega) (by omega) wq_1174 (q := 0) (ci := 12) rfl rfl wq_1175 wq_1176 wq_1012 wq_1171 hd_X12_isOne (As := [.int x1]) (rest := []) rfl rfl hl.1 rfl dX12_areAlike_19 (fun H locs hC => ?_)
      refine lv_if_eq (tgt := 42) hx hb dX12_areAlike_22 (by decide) (fun c_5 => ?_) (fun c_5 => ?_)
      · have hf := it_t c_5 hf
        refine lv_aload_n hx hb dX12_areAlike_42 rfl (lv_at hl 0 rfl) ?_
        refine lv_iload_n hx hb dX12_areAlike_43 rfl (lv_at hl 1 rfl) ?_
        obtain ⟨v_6, hc_6, hf⟩ := calp_inv hf
        refine cc_Vi (r_X12_isBoth (D := D) (y := y) (o := o) (ad := ad) (av := av) hc_6 l) hx hb hml hta hown hK hN hV hA hC hRc hRs (by omega) (by omega) wq_1180 (q := 0) (ci := 12) rfl rfl wq_1181 wq_1182 wq_1012 wq_1172 hd_X12_isBoth (As := [.int x1]) (rest := []) rfl rfl hl.1 rfl dX12_areAlike_44 (fun H locs hC => ?_)
        refine lv_if_eq (tgt := 96) hx hb dX12_areAlike_47 (by decide) (fun c_7 => ?_) (fun c_7 => ?_)
        · have hf := it_t c_7 hf
          refine lv_aload_n hx hb dX12_areAlike_96 rfl (lv_at hl 0 rfl) ?_
          refine gt_X12_91_m hx hb hta hown hK hC dX12_areAlike_97 ?_
          refine lv_iload_n hx hb dX12_areAlike_100 rfl (lv_at hl 1 rfl) ?_
          obtain ⟨hi_8, hf⟩ := ix_inv hf
          obtain ⟨v_8, e_8, hf⟩ := lt_inv hf
          refine al_M_27 hx hb hK hC hi_8 e_8 dX12_areAlike_101 ?_
          refine lv_aload_n hx hb dX12_areAlike_102 rfl (lv_at hl 0 rfl) ?_
          refine gt_X12_91_m hx hb hta hown hK hC dX12_areAlike_103 ?_
          refine lv_iload_n hx hb dX12_areAlike_106 rfl (lv_at hl 2 rfl) ?_
          obtain ⟨hi_9, hf⟩ := ix_inv hf
          obtain ⟨v_9, e_9, hf⟩ := lt_inv hf
          refine al_M_27 hx hb hK hC hi_9 e_9 dX12_areAlike_107 ?_
          refine lv_icmp_ne (tgt := 115) hx hb dX12_areAlike_108 (by decide) (fun c_10 => ?_) (fun c_10 => ?_)
          · have hf := it_f c_10 hf
            refine lv_iconst (v := 0) hx hb dX12_areAlike_115 (by decide) ?_
            exact hret _ _ _ _ _ _ (Option.some.inj hf) rfl rfl dX12_areAlike_116 hC
          · have hf := it_t c_10 hf
            refine lv_iconst (v := 1) hx hb dX12_areAlike_111 (by decide) ?_
            refine lv_goto (tgt := 116) hx hb dX12_areAlike_112 (by decide) ?_
            exact hret _ _ _ _ _ _ (Option.some.inj hf) rfl rfl dX12_areAlike_116 hC
        · have hf := it_f c_7 hf
          refine lv_aload_n hx hb dX12_areAlike_50 rfl (lv_at hl 0 rfl) ?_
          refine lv_aload_n hx hb dX12_areAlike_51 rfl (lv_at hl 0 rfl) ?_
          refine gt_X12_91_m hx hb hta hown hK hC dX12_areAlike_52 ?_
          refine lv_iload_n hx hb dX12_areAlike_55 rfl (lv_at hl 1 rfl) ?_
          obtain ⟨hi_11, hf⟩ := ix_inv hf
          obtain ⟨v_11, e_11, hf⟩ := lt_inv hf
          refine al_M_27 hx hb hK hC hi_11 e_11 dX12_areAlike_56 ?_
          refine lv_aload_n hx hb dX12_areAlike_57 rfl (lv_at hl 0 rfl) ?_
          refine gt_X12_91_m hx hb hta hown hK hC dX12_areAlike_58 ?_
          refine lv_iload_n hx hb dX12_areAlike_61 rfl (lv_at hl 2 rfl) ?_
          obtain ⟨hi_12, hf⟩ := ix_inv hf
          obtain ⟨v_12, e_12, hf⟩ := lt_inv hf
          refine al_M_27 hx hb hK hC hi_12 e_12 dX12_areAlike_62 ?_
          obtain ⟨v_13, hc_13, hf⟩ := calp_inv hf
          refine cc_Vi (h_X12_areAlike hc_13 l) hx hb hml hta hown hK hN hV hA hC hRc hRs (by omega) (by omega) wq_1373 (q := 0) (ci := 12) rfl rfl wq_1374 wq_1375 wq_1012 wq_1372 hd_X12_areAlike (As := [.int v_11, .int v_12]) (rest := []) rfl rfl hl.1 rfl dX12_areAlike_63 (fun H locs hC => ?_)
          obtain ⟨k_92, hk_92, hf⟩ := jn_inv0 hf
          have hj_92 : ∀  (H : Heap) (locs : List Loc) (ls : Array Slot), k_92 = some v → CZ D A s H locs (WM y o σ) → lv_has ls 3 [] → W p l e R s m args below meth c H locs 0 0 Q (F0 m 92 ls []) := by
            intro H locs ls hf hC hl
            have hf := hk_92 hf
            refine lv_iconst (v := 0) hx hb dX12_areAlike_92 (by decide) ?_
            refine lv_goto (tgt := 116) hx hb dX12_areAlike_93 (by decide) ?_
            exact hret _ _ _ _ _ _ (Option.some.inj hf) rfl rfl dX12_areAlike_116 hC
          refine lv_if_eq (tgt := 92) hx hb dX12_areAlike_66 (by decide) (fun c_15 => ?_) (fun c_15 => ?_)
          · have hf := it_t c_15 hf
            exact hj_92 _ _ _ hf hC (lv_sub hl [] rfl)
          · have hf := it_f c_15 hf
            refine lv_aload_n hx hb dX12_areAlike_69 rfl (lv_at hl 0 rfl) ?_
            refine lv_aload_n hx hb dX12_areAlike_70 rfl (lv_at hl 0 rfl) ?_
            refine gt_X12_94_m hx hb hta hown hK hC dX12_areAlike_71 ?_
            refine lv_iload_n hx hb dX12_areAlike_74 rfl (lv_at hl 1 rfl) ?_
            obtain ⟨hi_16, hf⟩ := ix_inv hf
            obtain ⟨v_16, e_16, hf⟩ := lt_inv hf
            refine al_M_28 hx hb hK hC hi_16 e_16 dX12_areAlike_75 ?_
            refine lv_aload_n hx hb dX12_areAlike_76 rfl (lv_at hl 0 rfl) ?_
            refine gt_X12_94_m hx hb hta hown hK hC dX12_areAlike_77 ?_
            refine lv_iload_n hx hb dX12_areAlike_80 rfl (lv_at hl 2 rfl) ?_
            obtain ⟨hi_17, hf⟩ := ix_inv hf
            obtain ⟨v_17, e_17, hf⟩ := lt_inv hf
            refine al_M_28 hx hb hK hC hi_17 e_17 dX12_areAlike_81 ?_
            obtain ⟨v_18, hc_18, hf⟩ := calp_inv hf
            refine cc_Vi (h_X12_areAlike hc_18 l) hx hb hml hta hown hK hN hV hA hC hRc hRs (by omega) (by omega) wq_1373 (q := 0) (ci := 12) rfl rfl wq_1374 wq_1375 wq_1012 wq_1372 hd_X12_areAlike (As := [.int v_16, .int v_17]) (rest := []) rfl rfl hl.1 rfl dX12_areAlike_82 (fun H locs hC => ?_)
            refine lv_if_eq (tgt := 92) hx hb dX12_areAlike_85 (by decide) (fun c_19 => ?_) (fun c_19 => ?_)
            · have hf := it_t c_19 hf
              exact hj_92 _ _ _ hf hC (lv_sub hl [] rfl)
            · have hf := it_f c_19 hf
              refine lv_iconst (v := 1) hx hb dX12_areAlike_88 (by decide) ?_
              refine lv_goto (tgt := 116) hx hb dX12_areAlike_89 (by decide) ?_
              exact hret _ _ _ _ _ _ (Option.some.inj hf) rfl rfl dX12_areAlike_116 hC
      · have hf := it_f c_5 hf
        refine lv_aload_n hx hb dX12_areAlike_25 rfl (lv_at hl 0 rfl) ?_
        refine lv_aload_n hx hb dX12_areAlike_26 rfl (lv_at hl 0 rfl) ?_
        refine gt_X12_91_m hx hb hta hown hK hC dX12_areAlike_27 ?_
        refine lv_iload_n hx hb dX12_areAlike_30 rfl (lv_at hl 1 rfl) ?_
        obtain ⟨hi_20, hf⟩ := ix_inv hf
        obtain ⟨v_20, e_20, hf⟩ := lt_inv hf
        refine al_M_27 hx hb hK hC hi_20 e_20 dX12_areAlike_31 ?_
        refine lv_aload_n hx hb dX12_areAlike_32 rfl (lv_at hl 0 rfl) ?_
        refine gt_X12_91_m hx hb hta hown hK hC dX12_areAlike_33 ?_
        refine lv_iload_n hx hb dX12_areAlike_36 rfl (lv_at hl 2 rfl) ?_
        obtain ⟨hi_21, hf⟩ := ix_inv hf
        obtain ⟨v_21, e_21, hf⟩ := lt_inv hf
        refine al_M_27 hx hb hK hC hi_21 e_21 dX12_areAlike_37 ?_
        obtain ⟨v_22, hc_22, hf⟩ := calp_inv hf
        refine cc_Vi (h_X12_areAlike hc_22 l) hx hb hml hta hown hK hN hV hA hC hRc hRs (by omega) (by omega) wq_1373 (q := 0) (ci := 12) rfl rfl wq_1374 wq_1375 wq_1012 wq_1372 hd_X12_areAlike (As := [.int v_20, .int v_21]) (rest := []) rfl rfl hl.1 rfl dX12_areAlike_38 (fun H locs hC => ?_)
        obtain ⟨hb_23, hf⟩ := bz_inv hf
        exact hret _ _ _ _ _ _ (Option.some.inj hf) rfl (bz_nar hb_23) dX12_areAlike_41 hC
    · have hf := it_f c_3 hf
      refine lv_iconst (v := 0) hx hb dX12_areAlike_15 (by decide) ?_
      exact hret _ _ _ _ _ _ (Option.some.inj hf) rfl rfl dX12_areAlike_16 hC
theorem r_X12_areAlike (d : Nat) {D : va_G} {y : Nat → ClassId} {o : Nat → Nat} {ad av : Nat → Nat} {x1 : Int32} {x2 : Int32} {σ : Sto} {v : Int32} (hf : f_X12_areAlike d x1 x2 σ = some v) (l : Launch) (sz : Nat) : Met l yX12_areAlike (Cond.code yX12_areAlike cX12_areAlike 3 (some .boolean) :: ALW) { frames := d + 1, cells := 0, slots := 0, locals := d * 22 + 21 } (va_Pc [.ref (o 0), .int x1, .int x2] (PZ D y ad av (WM y o σ) sz)) (QZi D (WM y o σ) v (WM y o σ) sz) 0 0 (va_A (WM y o σ) sz) := (rg_X12_areAlike d) hf l sz

set_option maxHeartbeats 8000000 in
set_option maxRecDepth 100000 in
theorem rg_X12_meets {D : va_G} {y : Nat → ClassId} {o : Nat → Nat} {ad av : Nat → Nat} : ∀ d : Nat, (∀ {x1 : Int32} {σ : Sto} {σ2 : Sto}, f_X12_meets d x1 σ = some σ2 → ∀ (l : Launch) (sz : Nat), Met l yX12_meets (Cond.code yX12_meets cX12_meets 3 none :: ALW) { frames := d + 252, cells := 0, slots := 0, locals := d * 22 + 5543 } (va_Pc [.ref (o 0), .int x1] (PZ D y ad av (WM y o σ) sz)) (QZv D (WM y o σ) (WM y o σ2) sz) 0 0 (va_A (WM y o σ) sz)) := by
  intro d
  induction d with
  | zero => exact fun hc => by have hc : (none : Option (Sto)) = some _ := hc; cases hc
  | succ d ih =>
    have h_X12_meets := @ih
    intro x1 σ σ2 hf l sz
    have hf : b_X12_meets (f_X12_meets d) x1 σ = some σ2 := hf
    refine met_v (by decide) (Nat.le_of_ble_eq_true rfl) ?_
    intro p e R s m args below meth c Q A ls hx hb hml hta hown hRc hRs hRf hRl hN hK hV hA hret hC hl
    have hl : lv_has ls 3 [(0, .ref (o 0)), (1, .int x1)] := hl
    unfold b_X12_meets at hf
    refine lv_aload_n hx hb dX12_meets_0 rfl (lv_at hl 0 rfl) ?_
    refine lv_iload_n hx hb dX12_meets_1 rfl (lv_at hl 1 rfl) ?_
    obtain ⟨v_1, hc_1, hf⟩ := calp_inv hf
    refine cc_Vi (r_X12_isOne (D := D) (y := y) (o := o) (ad := ad) (av := av) hc_1 l) hx hb hml hta hown hK hN hV hA hC hRc hRs (by omega) (by omega) wq_1174 (q := 0) (ci := 12) rfl rfl wq_1175 wq_1176 wq_1012 wq_1171 hd_X12_isOne (As := [.int x1]) (rest := []) rfl rfl hl.1 rfl dX12_meets_2 (fun H locs hC => ?_)
    obtain ⟨k_26, hk_26, hf⟩ := jn_inv1 hf
    have hj_26 : ∀ (s_2 : Sto) (H : Heap) (locs : List Loc) (ls : Array Slot), k_26 s_2 = some σ2 → CZ D A s H locs (WM y o s_2) → lv_has ls 3 [(0, .ref (o 0)), (1, .int x1)] → W p l e R s m args below meth c H locs 0 0 Q (F0 m 26 ls []) := by
      intro s_2 H locs ls hf hC hl
      have hf := hk_26 _ hf
      refine lv_aload_n hx hb dX12_meets_26 rfl (lv_at hl 0 rfl) ?_
      refine lv_iload_n hx hb dX12_meets_27 rfl (lv_at hl 1 rfl) ?_
      obtain ⟨v_3, hc_3, hf⟩ := calp_inv hf
      refine cc_Vi (r_X12_isBoth (D := D) (y := y) (o := o) (ad := ad) (av := av) hc_3 l) hx hb hml hta hown hK hN hV hA hC hRc hRs (by omega) (by omega) wq_1180 (q := 0) (ci := 12) rfl rfl wq_1181 wq_1182 wq_1012 wq_1172 hd_X12_isBoth (As := [.int x1]) (rest := []) rfl rfl hl.1 rfl dX12_meets_28 (fun H locs hC => ?_)
      obtain ⟨k_44, hk_44, hf⟩ := jn_inv1 hf
      have hj_44 : ∀ (s_4 : Sto) (H : Heap) (locs : List Loc) (ls : Array Slot), k_44 s_4 = some σ2 → CZ D A s H locs (WM y o s_4) → lv_has ls 3 [(0, .ref (o 0)), (1, .int x1)] → W p l e R s m args below meth c H locs 0 0 Q (F0 m 44 ls []) := by
        intro s_4 H locs ls hf hC hl
        have hf := hk_44 _ hf
        refine lv_aload_n hx hb dX12_meets_44 rfl (lv_at hl 0 rfl) ?_
        refine lv_iload_n hx hb dX12_meets_45 rfl (lv_at hl 1 rfl) ?_
        obtain ⟨v_5, hc_5, hf⟩ := calp_inv hf
        refine cc_Vi (r_X12_isName (D := D) (y := y) (o := o) (ad := ad) (av := av) hc_5 l) hx hb hml hta hown hK hN hV hA hC hRc hRs (by omega) (by omega) wq_1204 (q := 0) (ci := 12) rfl rfl wq_1205 wq_1206 wq_1012 wq_1170 hd_X12_isName (As := [.int x1]) (rest := []) rfl rfl hl.1 rfl dX12_meets_46 (fun H locs hC => ?_)
        refine lv_if_eq (tgt := 53) hx hb dX12_meets_49 (by decide) (fun c_6 => ?_) (fun c_6 => ?_)
        · have hf := it_t c_6 hf
          refine lv_iconst (v := 0) hx hb dX12_meets_53 (by decide) ?_
          refine lv_istore_n (lv' := [(2, .int 0), (0, .ref (o 0)), (1, .int x1)]) hx hb dX12_meets_54 rfl hl (by decide) rfl (fun ls hl => ?_)
          refine itr_inv1 (P := fun (x2_7 : Int32) => ∀ (H : Heap) (locs : List Loc) (ls : Array Slot), CZ D A s H locs (WM y o s_4) → lv_has ls 3 [(0, .ref (o 0)), (1, .int x1), (2, .int x2_7)] → W p l e R s m args below meth c H locs 0 0 Q (F0 m 55 ls [])) hf ?_ _ _ _ hC (lv_sub hl [1, 2, 0] rfl)
          intro a_55 x2_7 ha_55 hf H locs ls hC hl
          refine lv_iload_n hx hb dX12_meets_55 rfl (lv_at hl 2 rfl) ?_
          refine lv_aload_n hx hb dX12_meets_56 rfl (lv_at hl 0 rfl) ?_
          refine gt_X12_623_m hx hb hta hown hK hC dX12_meets_57 ?_
          refine lv_icmp_ge (tgt := 84) hx hb dX12_meets_60 (by decide) (fun c_8 => ?_) (fun c_8 => ?_)
          · have hf := it_t c_8 hf
            refine lv_aload_n hx hb dX12_meets_84 rfl (lv_at hl 0 rfl) ?_
            refine gt_X12_151_m hx hb hta hown hK hC dX12_meets_85 ?_
            refine lv_aload_n hx hb dX12_meets_88 rfl (lv_at hl 0 rfl) ?_
            refine gt_X12_623_m hx hb hta hown hK hC dX12_meets_89 ?_
            refine lv_iload_n hx hb dX12_meets_92 rfl (lv_at hl 1 rfl) ?_
            obtain ⟨hi_9, hf⟩ := ix_inv hf
            obtain ⟨s_9, e_9, hf⟩ := lt_inv hf
            refine as_M_47 hx hb hK hC hi_9 e_9 dX12_meets_93 (fun H locs hC => ?_)
            refine lv_aload_n hx hb dX12_meets_94 rfl (lv_at hl 0 rfl) ?_
            refine lv_dup hx hb dX12_meets_95 rfl ?_
            refine gt_X12_623_m hx hb hta hown hK hC dX12_meets_96 ?_
            refine lv_iconst (v := 1) hx hb dX12_meets_99 (by decide) ?_
            refine lv_iadd hx hb dX12_meets_100 ?_
            obtain ⟨s_10, e_10, hf⟩ := lt_inv hf
            refine pt_X12_623_m hx hb hta hown hK hC e_10 dX12_meets_101 (fun H locs hC => ?_)
            exact hret _ _ _ _ _ (congrArg (WM y o) (Option.some.inj hf)) dX12_meets_104 hC
          · have hf := it_f c_8 hf
            refine lv_aload_n hx hb dX12_meets_63 rfl (lv_at hl 0 rfl) ?_
            refine lv_aload_n hx hb dX12_meets_64 rfl (lv_at hl 0 rfl) ?_
            refine gt_X12_151_m hx hb hta hown hK hC dX12_meets_65 ?_
            refine lv_iload_n hx hb dX12_meets_68 rfl (lv_at hl 2 rfl) ?_
            obtain ⟨hi_11, hf⟩ := ix_inv hf
            obtain ⟨v_11, e_11, hf⟩ := lt_inv hf
            refine al_M_47 hx hb hK hC hi_11 e_11 dX12_meets_69 ?_
            refine lv_iload_n hx hb dX12_meets_70 rfl (lv_at hl 1 rfl) ?_
            obtain ⟨v_12, hc_12, hf⟩ := calp_inv hf
            refine cc_Vi (r_X12_areAlike 250 (D := D) (y := y) (o := o) (ad := ad) (av := av) hc_12 l) hx hb hml hta hown hK hN hV hA hC hRc hRs (by omega) (by omega) wq_1373 (q := 0) (ci := 12) rfl rfl wq_1374 wq_1375 wq_1012 wq_1372 hd_X12_areAlike (As := [.int v_11, .int x1]) (rest := []) rfl rfl hl.1 rfl dX12_meets_71 (fun H locs hC => ?_)
            refine lv_if_eq (tgt := 78) hx hb dX12_meets_74 (by decide) (fun c_13 => ?_) (fun c_13 => ?_)
            · have hf := it_t c_13 hf
              obtain ⟨x2_14, e_14, hf⟩ := lt_inv hf
              refine lv_iinc (v := x2_14) (lv' := [(2, .int x2_14), (0, .ref (o 0)), (1, .int x1)]) hx hb dX12_meets_78 hl (k := 2) rfl e_14.symm (by decide) rfl (fun ls hl => ?_)
              refine lv_goto (tgt := 55) hx hb dX12_meets_81 (by decide) ?_
              exact ha_55 _ hf _ _ _ hC (lv_sub hl [1, 2, 0] rfl)
            · have hf := it_f c_13 hf
              exact hret _ _ _ _ _ (congrArg (WM y o) (Option.some.inj hf)) dX12_meets_77 hC
        · have hf := it_f c_6 hf
          exact hret _ _ _ _ _ (congrArg (WM y o) (Option.some.inj hf)) dX12_meets_52 hC
      refine lv_if_eq (tgt := 44) hx hb dX12_meets_31 (by decide) (fun c_15 => ?_) (fun c_15 => ?_)
      · have hf := it_t c_15 hf
        exact hj_44 _ _ _ _ hf hC hl
      · have hf := it_f c_15 hf
        refine lv_aload_n hx hb dX12_meets_34 rfl (lv_at hl 0 rfl) ?_
        refine lv_aload_n hx hb dX12_meets_35 rfl (lv_at hl 0 rfl) ?_
        refine gt_X12_94_m hx hb hta hown hK hC dX12_meets_36 ?_
        refine lv_iload_n hx hb dX12_meets_39 rfl (lv_at hl 1 rfl) ?_
        obtain ⟨hi_16, hf⟩ := ix_inv hf
        obtain ⟨v_16, e_16, hf⟩ := lt_inv hf
        refine al_M_28 hx hb hK hC hi_16 e_16 dX12_meets_40 ?_
        obtain ⟨s_17, hc_17, hf⟩ := cals_inv hf
        refine cc_Vv (h_X12_meets hc_17 l) hx hb hml hta hown hK hN hV hA hC hRc hRs (by omega) (by omega) wq_1432 (q := 0) (ci := 12) rfl rfl wq_1433 wq_1434 wq_1012 wq_1435 hd_X12_meets (As := [.int v_16]) (rest := []) rfl rfl hl.1 rfl dX12_meets_41 (fun H locs hC => ?_)
        exact hj_44 _ _ _ _ hf hC hl
    obtain ⟨k_16, hk_16, hf⟩ := jn_inv0 hf
    have hj_16 : ∀  (H : Heap) (locs : List Loc) (ls : Array Slot), k_16 = some σ2 → CZ D A s H locs (WM y o σ) → lv_has ls 3 [(0, .ref (o 0)), (1, .int x1)] → W p l e R s m args below meth c H locs 0 0 Q (F0 m 16 ls []) := by
      intro H locs ls hf hC hl
      have hf := hk_16 hf
      refine lv_aload_n hx hb dX12_meets_16 rfl (lv_at hl 0 rfl) ?_
      refine lv_aload_n hx hb dX12_meets_17 rfl (lv_at hl 0 rfl) ?_
      refine gt_X12_91_m hx hb hta hown hK hC dX12_meets_18 ?_
      refine lv_iload_n hx hb dX12_meets_21 rfl (lv_at hl 1 rfl) ?_
      obtain ⟨hi_19, hf⟩ := ix_inv hf
      obtain ⟨v_19, e_19, hf⟩ := lt_inv hf
      refine al_M_27 hx hb hK hC hi_19 e_19 dX12_meets_22 ?_
      obtain ⟨s_20, hc_20, hf⟩ := cals_inv hf
      refine cc_Vv (h_X12_meets hc_20 l) hx hb hml hta hown hK hN hV hA hC hRc hRs (by omega) (by omega) wq_1432 (q := 0) (ci := 12) rfl rfl wq_1433 wq_1434 wq_1012 wq_1435 hd_X12_meets (As := [.int v_19]) (rest := []) rfl rfl hl.1 rfl dX12_meets_23 (fun H locs hC => ?_)
      exact hj_26 _ _ _ _ hf hC hl
    refine lv_if_ne (tgt := 16) hx hb dX12_meets_5 (by decide) (fun c_21 => ?_) (fun c_21 => ?_)
    · have hf := it_f c_21 hf
      exact hj_16 _ _ _ hf hC hl
    · have hf := it_t c_21 hf
      refine lv_aload_n hx hb dX12_meets_8 rfl (lv_at hl 0 rfl) ?_
      refine lv_iload_n hx hb dX12_meets_9 rfl (lv_at hl 1 rfl) ?_
      obtain ⟨v_22, hc_22, hf⟩ := calp_inv hf
      refine cc_Vi (r_X12_isBoth (D := D) (y := y) (o := o) (ad := ad) (av := av) hc_22 l) hx hb hml hta hown hK hN hV hA hC hRc hRs (by omega) (by omega) wq_1180 (q := 0) (ci := 12) rfl rfl wq_1181 wq_1182 wq_1012 wq_1172 hd_X12_isBoth (As := [.int x1]) (rest := []) rfl rfl hl.1 rfl dX12_meets_10 (fun H locs hC => ?_)
      refine lv_if_eq (tgt := 26) hx hb dX12_meets_13 (by decide) (fun c_23 => ?_) (fun c_23 => ?_)
      · have hf := it_t c_23 hf
        exact hj_26 _ _ _ _ hf hC hl
      · have hf := it_f c_23 hf
        exact hj_16 _ _ _ hf hC hl
theorem r_X12_meets (d : Nat) {D : va_G} {y : Nat → ClassId} {o : Nat → Nat} {ad av : Nat → Nat} {x1 : Int32} {σ : Sto} {σ2 : Sto} (hf : f_X12_meets d x1 σ = some σ2) (l : Launch) (sz : Nat) : Met l yX12_meets (Cond.code yX12_meets cX12_meets 3 none :: ALW) { frames := d + 252, cells := 0, slots := 0, locals := d * 22 + 5543 } (va_Pc [.ref (o 0), .int x1] (PZ D y ad av (WM y o σ) sz)) (QZv D (WM y o σ) (WM y o σ2) sz) 0 0 (va_A (WM y o σ) sz) := (rg_X12_meets d) hf l sz

set_option maxHeartbeats 8000000 in
set_option maxRecDepth 100000 in
theorem r_X12_unlike {D : va_G} {y : Nat → ClassId} {o : Nat → Nat} {ad av : Nat → Nat} {σ : Sto} {σ2 : Sto} {v : Int32} (hf : f_X12_unlike σ = some (v, σ2)) (l : Launch) (sz : Nat) : Met l yX12_unlike (Cond.code yX12_unlike cX12_unlike 2 (some .int) :: ALW) { frames := 503, cells := 0, slots := 0, locals := 11065 } (va_Pc [.ref (o 0)] (PZ D y ad av (WM y o σ) sz)) (QZi D (WM y o σ) v (WM y o σ2) sz) 0 0 (va_A (WM y o σ) sz) := by
  refine met_i (by decide) (Nat.le_of_ble_eq_true rfl) ?_
  intro p e R s m args below meth c Q A ls hx hb hml hta hown hRc hRs hRf hRl hN hK hV hA hret hC hl
  have hl : lv_has ls 2 [(0, .ref (o 0))] := hl
  unfold f_X12_unlike at hf
  refine lv_aload_n hx hb dX12_unlike_0 rfl (lv_at hl 0 rfl) ?_
  refine lv_iconst (v := 0) hx hb dX12_unlike_1 (by decide) ?_
  obtain ⟨s_1, e_1, hf⟩ := lt_inv hf
  refine pt_X12_623_m hx hb hta hown hK hC e_1 dX12_unlike_2 (fun H locs hC => ?_)
  refine lv_iconst (v := 0) hx hb dX12_unlike_5 (by decide) ?_
  refine lv_istore_n (lv' := [(1, .int 0), (0, .ref (o 0))]) hx hb dX12_unlike_6 rfl hl (by decide) rfl (fun ls hl => ?_)
  refine itr_inv2 (P := fun (x1_2 : Int32) (s_2 : Sto) => ∀ (H : Heap) (locs : List Loc) (ls : Array Slot), CZ D A s H locs (WM y o s_2) → lv_has ls 2 [(0, .ref (o 0)), (1, .int x1_2)] → W p l e R s m args below meth c H locs 0 0 Q (F0 m 7 ls [])) hf ?_ _ _ _ hC (lv_sub hl [1, 0] rfl)
  intro a_7 x1_2 s_2 ha_7 hf H locs ls hC hl
  refine lv_iload_n hx hb dX12_unlike_7 rfl (lv_at hl 1 rfl) ?_
  refine lv_aload_n hx hb dX12_unlike_8 rfl (lv_at hl 0 rfl) ?_
  refine gt_X12_407_m hx hb hta hown hK hC dX12_unlike_9 ?_
  refine lv_icmp_ge (tgt := 41) hx hb dX12_unlike_12 (by decide) (fun c_3 => ?_) (fun c_3 => ?_)
  · have hf := it_t c_3 hf
    refine lv_iconst (v := 0) hx hb dX12_unlike_41 (by decide) ?_
    refine lv_istore_n (lv' := [(1, .int 0), (0, .ref (o 0))]) hx hb dX12_unlike_42 rfl hl (by decide) rfl (fun ls hl => ?_)
    refine itr_inv2 (P := fun (x1_4 : Int32) (s_4 : Sto) => ∀ (H : Heap) (locs : List Loc) (ls : Array Slot), CZ D A s H locs (WM y o s_4) → lv_has ls 2 [(0, .ref (o 0)), (1, .int x1_4)] → W p l e R s m args below meth c H locs 0 0 Q (F0 m 43 ls [])) hf ?_ _ _ _ hC (lv_sub hl [1, 0] rfl)
    intro a_43 x1_4 s_4 ha_43 hf H locs ls hC hl
    refine lv_iload_n hx hb dX12_unlike_43 rfl (lv_at hl 1 rfl) ?_
    refine lv_aload_n hx hb dX12_unlike_44 rfl (lv_at hl 0 rfl) ?_
    refine gt_X12_299_m hx hb hta hown hK hC dX12_unlike_45 ?_
    refine lv_icmp_ge (tgt := 77) hx hb dX12_unlike_48 (by decide) (fun c_5 => ?_) (fun c_5 => ?_)
    · have hf := it_t c_5 hf
      refine lv_aload_n hx hb dX12_unlike_77 rfl (lv_at hl 0 rfl) ?_
      refine gt_X12_623_m hx hb hta hown hK hC dX12_unlike_78 ?_
      exact hret _ _ _ _ _ _ (rv_inv hf).1 (congrArg (WM y o) (rv_inv hf).2) rfl dX12_unlike_81 hC
    · have hf := it_f c_5 hf
      refine lv_aload_n hx hb dX12_unlike_51 rfl (lv_at hl 0 rfl) ?_
      refine gt_X12_109_m hx hb hta hown hK hC dX12_unlike_52 ?_
      refine lv_iload_n hx hb dX12_unlike_55 rfl (lv_at hl 1 rfl) ?_
      obtain ⟨hi_6, hf⟩ := ix_inv hf
      obtain ⟨v_6, e_6, hf⟩ := lt_inv hf
      refine al_M_33 hx hb hK hC hi_6 e_6 dX12_unlike_56 ?_
      refine lv_iconst (v := (-1)) hx hb dX12_unlike_57 (by decide) ?_
      obtain ⟨k_71, hk_71, hf⟩ := jn_inv1 hf
      have hj_71 : ∀ (s_7 : Sto) (H : Heap) (locs : List Loc) (ls : Array Slot), k_71 s_7 = some (v, σ2) → CZ D A s H locs (WM y o s_7) → lv_has ls 2 [(0, .ref (o 0)), (1, .int x1_4)] → W p l e R s m args below meth c H locs 0 0 Q (F0 m 71 ls []) := by
        intro s_7 H locs ls hf hC hl
        have hf := hk_71 _ hf
        obtain ⟨x1_8, e_8, hf⟩ := lt_inv hf
        refine lv_iinc (v := x1_8) (lv' := [(1, .int x1_8), (0, .ref (o 0))]) hx hb dX12_unlike_71 hl (k := 1) rfl e_8.symm (by decide) rfl (fun ls hl => ?_)
        refine lv_goto (tgt := 43) hx hb dX12_unlike_74 (by decide) ?_
        exact ha_43 _ _ hf _ _ _ hC (lv_sub hl [1, 0] rfl)
      refine lv_icmp_eq (tgt := 71) hx hb dX12_unlike_58 (by decide) (fun c_9 => ?_) (fun c_9 => ?_)
      · have hf := it_t c_9 hf
        exact hj_71 _ _ _ _ hf hC hl
      · have hf := it_f c_9 hf
        refine lv_aload_n hx hb dX12_unlike_61 rfl (lv_at hl 0 rfl) ?_
        refine lv_aload_n hx hb dX12_unlike_62 rfl (lv_at hl 0 rfl) ?_
        refine gt_X12_109_m hx hb hta hown hK hC dX12_unlike_63 ?_
        refine lv_iload_n hx hb dX12_unlike_66 rfl (lv_at hl 1 rfl) ?_
        obtain ⟨hi_10, hf⟩ := ix_inv hf
        obtain ⟨v_10, e_10, hf⟩ := lt_inv hf
        refine al_M_33 hx hb hK hC hi_10 e_10 dX12_unlike_67 ?_
        obtain ⟨s_11, hc_11, hf⟩ := cals_inv hf
        refine cc_Vv (r_X12_meets 250 (D := D) (y := y) (o := o) (ad := ad) (av := av) hc_11 l) hx hb hml hta hown hK hN hV hA hC hRc hRs (by omega) (by omega) wq_1432 (q := 0) (ci := 12) rfl rfl wq_1433 wq_1434 wq_1012 wq_1435 hd_X12_meets (As := [.int v_10]) (rest := []) rfl rfl hl.1 rfl dX12_unlike_68 (fun H locs hC => ?_)
        exact hj_71 _ _ _ _ hf hC hl
  · have hf := it_f c_3 hf
    refine lv_aload_n hx hb dX12_unlike_15 rfl (lv_at hl 0 rfl) ?_
    refine gt_X12_103_m hx hb hta hown hK hC dX12_unlike_16 ?_
    refine lv_iload_n hx hb dX12_unlike_19 rfl (lv_at hl 1 rfl) ?_
    obtain ⟨hi_12, hf⟩ := ix_inv hf
    obtain ⟨v_12, e_12, hf⟩ := lt_inv hf
    refine al_M_31 hx hb hK hC hi_12 e_12 dX12_unlike_20 ?_
    refine lv_iconst (v := (-1)) hx hb dX12_unlike_21 (by decide) ?_
    obtain ⟨k_35, hk_35, hf⟩ := jn_inv1 hf
    have hj_35 : ∀ (s_13 : Sto) (H : Heap) (locs : List Loc) (ls : Array Slot), k_35 s_13 = some (v, σ2) → CZ D A s H locs (WM y o s_13) → lv_has ls 2 [(0, .ref (o 0)), (1, .int x1_2)] → W p l e R s m args below meth c H locs 0 0 Q (F0 m 35 ls []) := by
      intro s_13 H locs ls hf hC hl
      have hf := hk_35 _ hf
      obtain ⟨x1_14, e_14, hf⟩ := lt_inv hf
      refine lv_iinc (v := x1_14) (lv' := [(1, .int x1_14), (0, .ref (o 0))]) hx hb dX12_unlike_35 hl (k := 1) rfl e_14.symm (by decide) rfl (fun ls hl => ?_)
      refine lv_goto (tgt := 7) hx hb dX12_unlike_38 (by decide) ?_
      exact ha_7 _ _ hf _ _ _ hC (lv_sub hl [1, 0] rfl)
    refine lv_icmp_eq (tgt := 35) hx hb dX12_unlike_22 (by decide) (fun c_15 => ?_) (fun c_15 => ?_)
    · have hf := it_t c_15 hf
      exact hj_35 _ _ _ _ hf hC hl
    · have hf := it_f c_15 hf
      refine lv_aload_n hx hb dX12_unlike_25 rfl (lv_at hl 0 rfl) ?_
      refine lv_aload_n hx hb dX12_unlike_26 rfl (lv_at hl 0 rfl) ?_
      refine gt_X12_103_m hx hb hta hown hK hC dX12_unlike_27 ?_
      refine lv_iload_n hx hb dX12_unlike_30 rfl (lv_at hl 1 rfl) ?_
      obtain ⟨hi_16, hf⟩ := ix_inv hf
      obtain ⟨v_16, e_16, hf⟩ := lt_inv hf
      refine al_M_31 hx hb hK hC hi_16 e_16 dX12_unlike_31 ?_
      obtain ⟨s_17, hc_17, hf⟩ := cals_inv hf
      refine cc_Vv (r_X12_meets 250 (D := D) (y := y) (o := o) (ad := ad) (av := av) hc_17 l) hx hb hml hta hown hK hN hV hA hC hRc hRs (by omega) (by omega) wq_1432 (q := 0) (ci := 12) rfl rfl wq_1433 wq_1434 wq_1012 wq_1435 hd_X12_meets (As := [.int v_16]) (rest := []) rfl rfl hl.1 rfl dX12_unlike_32 (fun H locs hC => ?_)
      exact hj_35 _ _ _ _ hf hC hl

set_option maxHeartbeats 8000000 in
set_option maxRecDepth 100000 in
theorem r_X12_countDead {D : va_G} {y : Nat → ClassId} {o : Nat → Nat} {ad av : Nat → Nat} {σ : Sto} {v : Int32} (hf : f_X12_countDead σ = some v) (l : Launch) (sz : Nat) : Met l yX12_countDead (Cond.code yX12_countDead cX12_countDead 3 (some .int) :: ALW) { frames := 0, cells := 0, slots := 0, locals := 0 } (va_Pc [.ref (o 0)] (PZ D y ad av (WM y o σ) sz)) (QZi D (WM y o σ) v (WM y o σ) sz) 0 0 (va_A (WM y o σ) sz) := by
  refine met_i (by decide) (Nat.le_of_ble_eq_true rfl) ?_
  intro p e R s m args below meth c Q A ls hx hb hml hta hown hRc hRs hRf hRl hN hK hV hA hret hC hl
  have hl : lv_has ls 3 [(0, .ref (o 0))] := hl
  unfold f_X12_countDead at hf
  refine lv_iconst (v := 0) hx hb dX12_countDead_0 (by decide) ?_
  refine lv_istore_n (lv' := [(1, .int 0), (0, .ref (o 0))]) hx hb dX12_countDead_1 rfl hl (by decide) rfl (fun ls hl => ?_)
  refine lv_iconst (v := 0) hx hb dX12_countDead_2 (by decide) ?_
  refine lv_istore_n (lv' := [(2, .int 0), (1, .int 0), (0, .ref (o 0))]) hx hb dX12_countDead_3 rfl hl (by decide) rfl (fun ls hl => ?_)
  refine itr_inv2 (P := fun (x1_1 : Int32) (x2_1 : Int32) => ∀ (H : Heap) (locs : List Loc) (ls : Array Slot), CZ D A s H locs (WM y o σ) → lv_has ls 3 [(0, .ref (o 0)), (1, .int x1_1), (2, .int x2_1)] → W p l e R s m args below meth c H locs 0 0 Q (F0 m 4 ls [])) hf ?_ _ _ _ hC (lv_sub hl [2, 1, 0] rfl)
  intro a_4 x1_1 x2_1 ha_4 hf H locs ls hC hl
  refine lv_iload_n hx hb dX12_countDead_4 rfl (lv_at hl 2 rfl) ?_
  refine lv_aload_n hx hb dX12_countDead_5 rfl (lv_at hl 0 rfl) ?_
  refine gt_X12_286_m hx hb hta hown hK hC dX12_countDead_6 ?_
  refine lv_icmp_ge (tgt := 35) hx hb dX12_countDead_9 (by decide) (fun c_2 => ?_) (fun c_2 => ?_)
  · have hf := it_t c_2 hf
    refine lv_iload_n hx hb dX12_countDead_35 rfl (lv_at hl 1 rfl) ?_
    exact hret _ _ _ _ _ _ (Option.some.inj hf) rfl rfl dX12_countDead_36 hC
  · have hf := it_f c_2 hf
    refine lv_iload_n hx hb dX12_countDead_12 rfl (lv_at hl 1 rfl) ?_
    refine lv_aload_n hx hb dX12_countDead_13 rfl (lv_at hl 0 rfl) ?_
    refine gt_X12_130_m hx hb hta hown hK hC dX12_countDead_14 ?_
    refine lv_iload_n hx hb dX12_countDead_17 rfl (lv_at hl 2 rfl) ?_
    obtain ⟨hi_3, hf⟩ := ix_inv hf
    obtain ⟨v_3, e_3, hf⟩ := lt_inv hf
    refine al_M_40 hx hb hK hC hi_3 e_3 dX12_countDead_18 ?_
    obtain ⟨k_27, hk_27, hf⟩ := jn_inv1 hf
    have hj_27 : ∀ (t0_4 : Int32) (H : Heap) (locs : List Loc) (ls : Array Slot), k_27 t0_4 = some v → CZ D A s H locs (WM y o σ) → lv_has ls 3 [(0, .ref (o 0)), (2, .int x2_1)] → W p l e R s m args below meth c H locs 0 0 Q (F0 m 27 ls [.int t0_4, .int x1_1]) := by
      intro t0_4 H locs ls hf hC hl
      have hf := hk_27 _ hf
      refine lv_iadd hx hb dX12_countDead_27 ?_
      obtain ⟨x1_5, e_5, hf⟩ := lt_inv hf
      refine nmi e_5 ?_
      refine lv_istore_n (lv' := [(1, .int x1_5), (0, .ref (o 0)), (2, .int x2_1)]) hx hb dX12_countDead_28 rfl hl (by decide) rfl (fun ls hl => ?_)
      obtain ⟨x2_6, e_6, hf⟩ := lt_inv hf
      refine lv_iinc (v := x2_6) (lv' := [(2, .int x2_6), (1, .int x1_5), (0, .ref (o 0))]) hx hb dX12_countDead_29 hl (k := 2) rfl e_6.symm (by decide) rfl (fun ls hl => ?_)
      refine lv_goto (tgt := 4) hx hb dX12_countDead_32 (by decide) ?_
      exact ha_4 _ _ hf _ _ _ hC (lv_sub hl [2, 1, 0] rfl)
    refine lv_if_eq (tgt := 26) hx hb dX12_countDead_19 (by decide) (fun c_7 => ?_) (fun c_7 => ?_)
    · have hf := it_t c_7 hf
      refine lv_iconst (v := 0) hx hb dX12_countDead_26 (by decide) ?_
      exact hj_27 _ _ _ _ hf hC (lv_sub hl [0, 2] rfl)
    · have hf := it_f c_7 hf
      refine lv_iconst (v := 1) hx hb dX12_countDead_22 (by decide) ?_
      refine lv_goto (tgt := 27) hx hb dX12_countDead_23 (by decide) ?_
      exact hj_27 _ _ _ _ hf hC (lv_sub hl [0, 2] rfl)

set_option maxHeartbeats 8000000 in
set_option maxRecDepth 100000 in
theorem r_X12_count {D : va_G} {y : Nat → ClassId} {o : Nat → Nat} {ad av : Nat → Nat} {x1 : Int32} {σ : Sto} {σ2 : Sto} {v : Int32} (hf : f_X12_count x1 σ = some (v, σ2)) (l : Launch) (sz : Nat) : Met l yX12_count (Cond.code yX12_count cX12_count 2 (some .int) :: ALW) { frames := 504, cells := 0, slots := 0, locals := 11086 } (va_Pc [.ref (o 0), .int x1] (PZ D y ad av (WM y o σ) sz)) (QZi D (WM y o σ) v (WM y o σ2) sz) 0 0 (va_A (WM y o σ) sz) := by
  refine met_i (by decide) (Nat.le_of_ble_eq_true rfl) ?_
  intro p e R s m args below meth c Q A ls hx hb hml hta hown hRc hRs hRf hRl hN hK hV hA hret hC hl
  have hl : lv_has ls 2 [(0, .ref (o 0)), (1, .int x1)] := hl
  unfold f_X12_count at hf
  refine lv_aload_n hx hb dX12_count_0 rfl (lv_at hl 0 rfl) ?_
  refine lv_iconst (v := 0) hx hb dX12_count_1 (by decide) ?_
  obtain ⟨s_1, e_1, hf⟩ := lt_inv hf
  refine pt_X12_169_m hx hb hta hown hK hC e_1 dX12_count_2 (fun H locs hC => ?_)
  refine lv_iload_n hx hb dX12_count_5 rfl (lv_at hl 1 rfl) ?_
  refine lv_bipush (v := 12) hx hb dX12_count_6 (by decide) ?_
  refine lv_icmp_ne (tgt := 16) hx hb dX12_count_8 (by decide) (fun c_2 => ?_) (fun c_2 => ?_)
  · have hf := it_f c_2 hf
    refine lv_aload_n hx hb dX12_count_16 rfl (lv_at hl 0 rfl) ?_
    refine gt_X12_292_m hx hb hta hown hK hC dX12_count_17 ?_
    refine lv_if_ne (tgt := 27) hx hb dX12_count_20 (by decide) (fun c_3 => ?_) (fun c_3 => ?_)
    · have hf := it_f c_3 hf
      refine lv_iload_n hx hb dX12_count_27 rfl (lv_at hl 1 rfl) ?_
      by_cases h_4_0 : x1.toInt = 0
      · have hf := it_t h_4_0 hf
        refine lv_tab (tgt := 104) hx hb dX12_count_28 (Or.inr ⟨76, by omega, by omega, by (rw [h_4_0]; decide), by decide⟩) ?_
        refine lv_aload_n hx hb dX12_count_104 rfl (lv_at hl 0 rfl) ?_
        refine gt_X12_286_m hx hb hta hown hK hC dX12_count_105 ?_
        exact hret _ _ _ _ _ _ (rv_inv hf).1 (congrArg (WM y o) (rv_inv hf).2) rfl dX12_count_108 hC
      have hf := it_f h_4_0 hf
      by_cases h_4_1 : x1.toInt = 1
      · have hf := it_t h_4_1 hf
        refine lv_tab (tgt := 109) hx hb dX12_count_28 (Or.inr ⟨81, by omega, by omega, by (rw [h_4_1]; decide), by decide⟩) ?_
        refine lv_aload_n hx hb dX12_count_109 rfl (lv_at hl 0 rfl) ?_
        refine gt_X12_299_m hx hb hta hown hK hC dX12_count_110 ?_
        exact hret _ _ _ _ _ _ (rv_inv hf).1 (congrArg (WM y o) (rv_inv hf).2) rfl dX12_count_113 hC
      have hf := it_f h_4_1 hf
      by_cases h_4_2 : x1.toInt = 2
      · have hf := it_t h_4_2 hf
        refine lv_tab (tgt := 114) hx hb dX12_count_28 (Or.inr ⟨86, by omega, by omega, by (rw [h_4_2]; decide), by decide⟩) ?_
        refine lv_aload_n hx hb dX12_count_114 rfl (lv_at hl 0 rfl) ?_
        refine gt_X12_327_m hx hb hta hown hK hC dX12_count_115 ?_
        exact hret _ _ _ _ _ _ (rv_inv hf).1 (congrArg (WM y o) (rv_inv hf).2) rfl dX12_count_118 hC
      have hf := it_f h_4_2 hf
      by_cases h_4_3 : x1.toInt = 3
      · have hf := it_t h_4_3 hf
        refine lv_tab (tgt := 119) hx hb dX12_count_28 (Or.inr ⟨91, by omega, by omega, by (rw [h_4_3]; decide), by decide⟩) ?_
        refine lv_aload_n hx hb dX12_count_119 rfl (lv_at hl 0 rfl) ?_
        refine gt_X12_289_m hx hb hta hown hK hC dX12_count_120 ?_
        exact hret _ _ _ _ _ _ (rv_inv hf).1 (congrArg (WM y o) (rv_inv hf).2) rfl dX12_count_123 hC
      have hf := it_f h_4_3 hf
      by_cases h_4_4 : x1.toInt = 4
      · have hf := it_t h_4_4 hf
        refine lv_tab (tgt := 124) hx hb dX12_count_28 (Or.inr ⟨96, by omega, by omega, by (rw [h_4_4]; decide), by decide⟩) ?_
        refine lv_aload_n hx hb dX12_count_124 rfl (lv_at hl 0 rfl) ?_
        obtain ⟨v_5, hc_5, hf⟩ := calp_inv hf
        refine cc_Vi (r_X12_countLoops (D := D) (y := y) (o := o) (ad := ad) (av := av) hc_5 l) hx hb hml hta hown hK hN hV hA hC hRc hRs (by omega) (by omega) wq_1437 (q := 0) (ci := 12) rfl rfl wq_1438 wq_1439 wq_1012 wq_1428 hd_X12_countLoops (As := []) (rest := []) rfl rfl hl.1 rfl dX12_count_125 (fun H locs hC => ?_)
        exact hret _ _ _ _ _ _ (rv_inv hf).1 (congrArg (WM y o) (rv_inv hf).2) rfl dX12_count_128 hC
      have hf := it_f h_4_4 hf
      by_cases h_4_5 : x1.toInt = 5
      · have hf := it_t h_4_5 hf
        refine lv_tab (tgt := 129) hx hb dX12_count_28 (Or.inr ⟨101, by omega, by omega, by (rw [h_4_5]; decide), by decide⟩) ?_
        refine lv_aload_n hx hb dX12_count_129 rfl (lv_at hl 0 rfl) ?_
        obtain ⟨v_6, hc_6, hf⟩ := calp_inv hf
        refine cc_Vi (r_X12_countMerges (D := D) (y := y) (o := o) (ad := ad) (av := av) hc_6 l) hx hb hml hta hown hK hN hV hA hC hRc hRs (by omega) (by omega) wq_1440 (q := 0) (ci := 12) rfl rfl wq_1441 wq_1442 wq_1012 wq_1429 hd_X12_countMerges (As := []) (rest := []) rfl rfl hl.1 rfl dX12_count_130 (fun H locs hC => ?_)
        exact hret _ _ _ _ _ _ (rv_inv hf).1 (congrArg (WM y o) (rv_inv hf).2) rfl dX12_count_133 hC
      have hf := it_f h_4_5 hf
      by_cases h_4_6 : x1.toInt = 6
      · have hf := it_t h_4_6 hf
        refine lv_tab (tgt := 134) hx hb dX12_count_28 (Or.inr ⟨106, by omega, by omega, by (rw [h_4_6]; decide), by decide⟩) ?_
        refine lv_aload_n hx hb dX12_count_134 rfl (lv_at hl 0 rfl) ?_
        refine gt_X12_358_m hx hb hta hown hK hC dX12_count_135 ?_
        exact hret _ _ _ _ _ _ (rv_inv hf).1 (congrArg (WM y o) (rv_inv hf).2) rfl dX12_count_138 hC
      have hf := it_f h_4_6 hf
      by_cases h_4_7 : x1.toInt = 7
      · have hf := it_t h_4_7 hf
        refine lv_tab (tgt := 139) hx hb dX12_count_28 (Or.inr ⟨111, by omega, by omega, by (rw [h_4_7]; decide), by decide⟩) ?_
        refine lv_aload_n hx hb dX12_count_139 rfl (lv_at hl 0 rfl) ?_
        refine gt_X12_355_m hx hb hta hown hK hC dX12_count_140 ?_
        refine lv_if_eq (tgt := 150) hx hb dX12_count_143 (by decide) (fun c_7 => ?_) (fun c_7 => ?_)
        · have hf := it_t c_7 hf
          refine lv_iconst (v := 0) hx hb dX12_count_150 (by decide) ?_
          exact hret _ _ _ _ _ _ (rv_inv hf).1 (congrArg (WM y o) (rv_inv hf).2) rfl dX12_count_151 hC
        · have hf := it_f c_7 hf
          refine lv_iconst (v := 1) hx hb dX12_count_146 (by decide) ?_
          refine lv_goto (tgt := 151) hx hb dX12_count_147 (by decide) ?_
          exact hret _ _ _ _ _ _ (rv_inv hf).1 (congrArg (WM y o) (rv_inv hf).2) rfl dX12_count_151 hC
      have hf := it_f h_4_7 hf
      by_cases h_4_8 : x1.toInt = 8
      · have hf := it_t h_4_8 hf
        refine lv_tab (tgt := 152) hx hb dX12_count_28 (Or.inr ⟨124, by omega, by omega, by (rw [h_4_8]; decide), by decide⟩) ?_
        refine lv_aload_n hx hb dX12_count_152 rfl (lv_at hl 0 rfl) ?_
        refine gt_X12_358_m hx hb hta hown hK hC dX12_count_153 ?_
        refine lv_iconst (v := (-1)) hx hb dX12_count_156 (by decide) ?_
        refine lv_icmp_ne (tgt := 164) hx hb dX12_count_157 (by decide) (fun c_8 => ?_) (fun c_8 => ?_)
        · have hf := it_f c_8 hf
          refine lv_aload_n hx hb dX12_count_164 rfl (lv_at hl 0 rfl) ?_
          refine gt_X12_479_m hx hb hta hown hK hC dX12_count_165 ?_
          exact hret _ _ _ _ _ _ (rv_inv hf).1 (congrArg (WM y o) (rv_inv hf).2) rfl dX12_count_168 hC
        · have hf := it_t c_8 hf
          refine lv_iconst (v := (-1)) hx hb dX12_count_160 (by decide) ?_
          refine lv_goto (tgt := 168) hx hb dX12_count_161 (by decide) ?_
          exact hret _ _ _ _ _ _ (rv_inv hf).1 (congrArg (WM y o) (rv_inv hf).2) rfl dX12_count_168 hC
      have hf := it_f h_4_8 hf
      by_cases h_4_9 : x1.toInt = 9
      · have hf := it_t h_4_9 hf
        refine lv_tab (tgt := 169) hx hb dX12_count_28 (Or.inr ⟨141, by omega, by omega, by (rw [h_4_9]; decide), by decide⟩) ?_
        refine lv_aload_n hx hb dX12_count_169 rfl (lv_at hl 0 rfl) ?_
        refine gt_X12_407_m hx hb hta hown hK hC dX12_count_170 ?_
        exact hret _ _ _ _ _ _ (rv_inv hf).1 (congrArg (WM y o) (rv_inv hf).2) rfl dX12_count_173 hC
      have hf := it_f h_4_9 hf
      by_cases h_4_10 : x1.toInt = 10
      · have hf := it_t h_4_10 hf
        refine lv_tab (tgt := 174) hx hb dX12_count_28 (Or.inr ⟨146, by omega, by omega, by (rw [h_4_10]; decide), by decide⟩) ?_
        refine lv_aload_n hx hb dX12_count_174 rfl (lv_at hl 0 rfl) ?_
        refine gt_X12_410_m hx hb hta hown hK hC dX12_count_175 ?_
        exact hret _ _ _ _ _ _ (rv_inv hf).1 (congrArg (WM y o) (rv_inv hf).2) rfl dX12_count_178 hC
      have hf := it_f h_4_10 hf
      by_cases h_4_11 : x1.toInt = 11
      · have hf := it_t h_4_11 hf
        refine lv_tab (tgt := 179) hx hb dX12_count_28 (Or.inr ⟨151, by omega, by omega, by (rw [h_4_11]; decide), by decide⟩) ?_
        refine lv_aload_n hx hb dX12_count_179 rfl (lv_at hl 0 rfl) ?_
        refine gt_X12_447_m hx hb hta hown hK hC dX12_count_180 ?_
        exact hret _ _ _ _ _ _ (rv_inv hf).1 (congrArg (WM y o) (rv_inv hf).2) rfl dX12_count_183 hC
      have hf := it_f h_4_11 hf
      by_cases h_4_12 : x1.toInt = 13
      · have hf := it_t h_4_12 hf
        refine lv_tab (tgt := 184) hx hb dX12_count_28 (Or.inr ⟨156, by omega, by omega, by (rw [h_4_12]; decide), by decide⟩) ?_
        refine lv_aload_n hx hb dX12_count_184 rfl (lv_at hl 0 rfl) ?_
        obtain ⟨v_9, s_9, hc_9, hf⟩ := calv_inv hf
        refine cc_Vi (r_X12_unlike (D := D) (y := y) (o := o) (ad := ad) (av := av) hc_9 l) hx hb hml hta hown hK hN hV hA hC hRc hRs (by omega) (by omega) wq_1443 (q := 0) (ci := 12) rfl rfl wq_1444 wq_1445 wq_1012 wq_1436 hd_X12_unlike (As := []) (rest := []) rfl rfl hl.1 rfl dX12_count_185 (fun H locs hC => ?_)
        exact hret _ _ _ _ _ _ (rv_inv hf).1 (congrArg (WM y o) (rv_inv hf).2) rfl dX12_count_188 hC
      have hf := it_f h_4_12 hf
      by_cases h_4_13 : x1.toInt = 14
      · have hf := it_t h_4_13 hf
        refine lv_tab (tgt := 189) hx hb dX12_count_28 (Or.inr ⟨161, by omega, by omega, by (rw [h_4_13]; decide), by decide⟩) ?_
        refine lv_aload_n hx hb dX12_count_189 rfl (lv_at hl 0 rfl) ?_
        obtain ⟨v_10, hc_10, hf⟩ := calp_inv hf
        refine cc_Vi (r_X12_countDead (D := D) (y := y) (o := o) (ad := ad) (av := av) hc_10 l) hx hb hml hta hown hK hN hV hA hC hRc hRs (by omega) (by omega) wq_1446 (q := 0) (ci := 12) rfl rfl wq_1447 wq_1448 wq_1012 wq_1430 hd_X12_countDead (As := []) (rest := []) rfl rfl hl.1 rfl dX12_count_190 (fun H locs hC => ?_)
        exact hret _ _ _ _ _ _ (rv_inv hf).1 (congrArg (WM y o) (rv_inv hf).2) rfl dX12_count_193 hC
      have hf := it_f h_4_13 hf
      refine lv_tab (tgt := 194) hx hb dX12_count_28 (by rcases (show (x1.toInt < 0 ∨ 14 < x1.toInt ∨ x1.toInt = 12) by omega) with h | h | h; exact Or.inl ⟨Or.inl h, by decide⟩; exact Or.inl ⟨Or.inr h, by decide⟩; all_goals exact Or.inr ⟨166, by omega, by omega, by rw [h]; decide, by decide⟩) ?_
      refine lv_ldcw hx hb hown (hta _ wq_1420) dX12_count_194 ?_
      exact hret _ _ _ _ _ _ (rv_inv hf).1 (congrArg (WM y o) (rv_inv hf).2) rfl dX12_count_197 hC
    · have hf := it_t c_3 hf
      refine lv_ldcw hx hb hown (hta _ wq_1420) dX12_count_23 ?_
      exact hret _ _ _ _ _ _ (rv_inv hf).1 (congrArg (WM y o) (rv_inv hf).2) rfl dX12_count_26 hC
  · have hf := it_t c_2 hf
    refine lv_aload_n hx hb dX12_count_11 rfl (lv_at hl 0 rfl) ?_
    refine gt_X12_177_m hx hb hta hown hK hC dX12_count_12 ?_
    exact hret _ _ _ _ _ _ (rv_inv hf).1 (congrArg (WM y o) (rv_inv hf).2) rfl dX12_count_15 hC

set_option maxHeartbeats 8000000 in
set_option maxRecDepth 100000 in
theorem r_X12_instruction_ {D : va_G} {y : Nat → ClassId} {o : Nat → Nat} {ad av : Nat → Nat} {x1 : Int32} {x2 : Int32} {σ : Sto} {σ2 : Sto} {v : Int32} (hf : f_X12_instruction_ x1 x2 σ = some (v, σ2)) (l : Launch) (sz : Nat) : Met l yX12_instruction_ (Cond.code yX12_instruction_ cX12_instruction_ 3 (some .int) :: ALW) { frames := 1, cells := 0, slots := 0, locals := 25 } (va_Pc [.ref (o 0), .int x1, .int x2] (PZ D y ad av (WM y o σ) sz)) (QZi D (WM y o σ) v (WM y o σ2) sz) 0 0 (va_A (WM y o σ) sz) := by
  refine met_i (by decide) (Nat.le_of_ble_eq_true rfl) ?_
  intro p e R s m args below meth c Q A ls hx hb hml hta hown hRc hRs hRf hRl hN hK hV hA hret hC hl
  have hl : lv_has ls 3 [(0, .ref (o 0)), (1, .int x1), (2, .int x2)] := hl
  unfold f_X12_instruction_ at hf
  refine lv_aload_n hx hb dX12_instruction__0 rfl (lv_at hl 0 rfl) ?_
  refine lv_aload_n hx hb dX12_instruction__1 rfl (lv_at hl 0 rfl) ?_
  refine gt_X12_292_m hx hb hta hown hK hC dX12_instruction__2 ?_
  obtain ⟨k_41, hk_41, hf⟩ := jn_inv1 hf
  have hj_41 : ∀ (t0_1 : Int32) (H : Heap) (locs : List Loc) (ls : Array Slot), k_41 t0_1 = some (v, σ2) → CZ D A s H locs (WM y o σ) → lv_has ls 3 [(0, .ref (o 0)), (1, .int x1), (2, .int x2)] → W p l e R s m args below meth c H locs 0 0 Q (F0 m 41 ls [.int t0_1, .ref (o 0)]) := by
    intro t0_1 H locs ls hf hC hl
    have hf := hk_41 _ hf
    obtain ⟨s_2, e_2, hf⟩ := lt_inv hf
    refine pt_X12_169_m hx hb hta hown hK hC e_2 dX12_instruction__41 (fun H locs hC => ?_)
    refine lv_aload_n hx hb dX12_instruction__44 rfl (lv_at hl 0 rfl) ?_
    refine gt_X12_169_m hx hb hta hown hK hC dX12_instruction__45 ?_
    refine lv_if_le (tgt := 53) hx hb dX12_instruction__48 (by decide) (fun c_3 => ?_) (fun c_3 => ?_)
    · have hf := it_t c_3 hf
      refine lv_iload_n hx hb dX12_instruction__53 rfl (lv_at hl 2 rfl) ?_
      by_cases h_4_0 : x2.toInt = 0
      · have hf := it_t h_4_0 hf
        refine lv_tab (tgt := 88) hx hb dX12_instruction__54 (Or.inr ⟨34, by omega, by omega, by (rw [h_4_0]; decide), by decide⟩) ?_
        refine lv_aload_n hx hb dX12_instruction__88 rfl (lv_at hl 0 rfl) ?_
        refine gt_X12_23_m hx hb hta hown hK hC dX12_instruction__89 ?_
        refine lv_iload_n hx hb dX12_instruction__92 rfl (lv_at hl 1 rfl) ?_
        obtain ⟨hi_5, hf⟩ := ix_inv hf
        obtain ⟨v_5, e_5, hf⟩ := lt_inv hf
        refine al_M_5 hx hb hK hC hi_5 e_5 dX12_instruction__93 ?_
        exact hret _ _ _ _ _ _ (rv_inv hf).1 (congrArg (WM y o) (rv_inv hf).2) rfl dX12_instruction__94 hC
      have hf := it_f h_4_0 hf
      by_cases h_4_1 : x2.toInt = 1
      · have hf := it_t h_4_1 hf
        refine lv_tab (tgt := 95) hx hb dX12_instruction__54 (Or.inr ⟨41, by omega, by omega, by (rw [h_4_1]; decide), by decide⟩) ?_
        refine lv_aload_n hx hb dX12_instruction__95 rfl (lv_at hl 0 rfl) ?_
        refine gt_X12_26_m hx hb hta hown hK hC dX12_instruction__96 ?_
        refine lv_iload_n hx hb dX12_instruction__99 rfl (lv_at hl 1 rfl) ?_
        obtain ⟨hi_6, hf⟩ := ix_inv hf
        obtain ⟨v_6, e_6, hf⟩ := lt_inv hf
        refine al_M_6 hx hb hK hC hi_6 e_6 dX12_instruction__100 ?_
        exact hret _ _ _ _ _ _ (rv_inv hf).1 (congrArg (WM y o) (rv_inv hf).2) rfl dX12_instruction__101 hC
      have hf := it_f h_4_1 hf
      by_cases h_4_2 : x2.toInt = 2
      · have hf := it_t h_4_2 hf
        refine lv_tab (tgt := 102) hx hb dX12_instruction__54 (Or.inr ⟨48, by omega, by omega, by (rw [h_4_2]; decide), by decide⟩) ?_
        refine lv_aload_n hx hb dX12_instruction__102 rfl (lv_at hl 0 rfl) ?_
        refine gt_X12_44_m hx hb hta hown hK hC dX12_instruction__103 ?_
        refine lv_iload_n hx hb dX12_instruction__106 rfl (lv_at hl 1 rfl) ?_
        obtain ⟨hi_7, hf⟩ := ix_inv hf
        obtain ⟨v_7, e_7, hf⟩ := lt_inv hf
        refine al_M_12 hx hb hK hC hi_7 e_7 dX12_instruction__107 ?_
        exact hret _ _ _ _ _ _ (rv_inv hf).1 (congrArg (WM y o) (rv_inv hf).2) rfl dX12_instruction__108 hC
      have hf := it_f h_4_2 hf
      by_cases h_4_3 : x2.toInt = 3
      · have hf := it_t h_4_3 hf
        refine lv_tab (tgt := 109) hx hb dX12_instruction__54 (Or.inr ⟨55, by omega, by omega, by (rw [h_4_3]; decide), by decide⟩) ?_
        refine lv_aload_n hx hb dX12_instruction__109 rfl (lv_at hl 0 rfl) ?_
        refine gt_X12_53_m hx hb hta hown hK hC dX12_instruction__110 ?_
        refine lv_iload_n hx hb dX12_instruction__113 rfl (lv_at hl 1 rfl) ?_
        obtain ⟨hi_8, hf⟩ := ix_inv hf
        obtain ⟨v_8, e_8, hf⟩ := lt_inv hf
        refine al_M_15 hx hb hK hC hi_8 e_8 dX12_instruction__114 ?_
        exact hret _ _ _ _ _ _ (rv_inv hf).1 (congrArg (WM y o) (rv_inv hf).2) rfl dX12_instruction__115 hC
      have hf := it_f h_4_3 hf
      by_cases h_4_4 : x2.toInt = 4
      · have hf := it_t h_4_4 hf
        refine lv_tab (tgt := 116) hx hb dX12_instruction__54 (Or.inr ⟨62, by omega, by omega, by (rw [h_4_4]; decide), by decide⟩) ?_
        refine lv_aload_n hx hb dX12_instruction__116 rfl (lv_at hl 0 rfl) ?_
        refine gt_X12_29_m hx hb hta hown hK hC dX12_instruction__117 ?_
        refine lv_aload_n hx hb dX12_instruction__120 rfl (lv_at hl 0 rfl) ?_
        refine gt_X12_289_m hx hb hta hown hK hC dX12_instruction__121 ?_
        refine lv_iload_n hx hb dX12_instruction__124 rfl (lv_at hl 1 rfl) ?_
        obtain ⟨v_9, hc_9, hf⟩ := calp_inv hf
        refine cc_Si (r_X12_handlerOf_handler (D := D) (y := y) (o := o) (ad := ad) (av := av) hc_9 l) hx hb hml hta hown hK hN hV hA hC hRc hRs (by omega) (by omega) wq_1092 wq_1093 wq_1012 wq_1077 hd_X12_handlerOf (As := [.ref (o 7), .int (s_2.1 16 0), .int x1]) (rest := []) rfl rfl hl.1 rfl dX12_instruction__125 (fun H locs hC => ?_)
        exact hret _ _ _ _ _ _ (rv_inv hf).1 (congrArg (WM y o) (rv_inv hf).2) rfl dX12_instruction__128 hC
      have hf := it_f h_4_4 hf
      refine lv_tab (tgt := 129) hx hb dX12_instruction__54 (Or.inl ⟨by omega, by decide⟩) ?_
      refine lv_aload_n hx hb dX12_instruction__129 rfl (lv_at hl 0 rfl) ?_
      refine gt_X12_130_m hx hb hta hown hK hC dX12_instruction__130 ?_
      refine lv_iload_n hx hb dX12_instruction__133 rfl (lv_at hl 1 rfl) ?_
      obtain ⟨hi_10, hf⟩ := ix_inv hf
      obtain ⟨v_10, e_10, hf⟩ := lt_inv hf
      refine al_M_40 hx hb hK hC hi_10 e_10 dX12_instruction__134 ?_
      refine lv_if_eq (tgt := 142) hx hb dX12_instruction__135 (by decide) (fun c_11 => ?_) (fun c_11 => ?_)
      · have hf := it_t c_11 hf
        refine lv_iconst (v := 0) hx hb dX12_instruction__142 (by decide) ?_
        exact hret _ _ _ _ _ _ (rv_inv hf).1 (congrArg (WM y o) (rv_inv hf).2) rfl dX12_instruction__143 hC
      · have hf := it_f c_11 hf
        refine lv_iconst (v := 1) hx hb dX12_instruction__138 (by decide) ?_
        refine lv_goto (tgt := 143) hx hb dX12_instruction__139 (by decide) ?_
        exact hret _ _ _ _ _ _ (rv_inv hf).1 (congrArg (WM y o) (rv_inv hf).2) rfl dX12_instruction__143 hC
    · have hf := it_f c_3 hf
      refine lv_iconst (v := 0) hx hb dX12_instruction__51 (by decide) ?_
      exact hret _ _ _ _ _ _ (rv_inv hf).1 (congrArg (WM y o) (rv_inv hf).2) rfl dX12_instruction__52 hC
  obtain ⟨k_40, hk_40, hf⟩ := jn_inv0 hf
  have hj_40 : ∀  (H : Heap) (locs : List Loc) (ls : Array Slot), k_40 = some (v, σ2) → CZ D A s H locs (WM y o σ) → lv_has ls 3 [(0, .ref (o 0)), (1, .int x1), (2, .int x2)] → W p l e R s m args below meth c H locs 0 0 Q (F0 m 40 ls [.ref (o 0)]) := by
    intro H locs ls hf hC hl
    have hf := hk_40 hf
    refine lv_iconst (v := 1) hx hb dX12_instruction__40 (by decide) ?_
    exact hj_41 _ _ _ _ hf hC hl
  refine lv_if_eq (tgt := 40) hx hb dX12_instruction__5 (by decide) (fun c_13 => ?_) (fun c_13 => ?_)
  · have hf := it_t c_13 hf
    exact hj_40 _ _ _ hf hC hl
  · have hf := it_f c_13 hf
    refine lv_iload_n hx hb dX12_instruction__8 rfl (lv_at hl 1 rfl) ?_
    refine lv_i2l hx hb dX12_instruction__9 rfl ?_
    refine lv_lconst (v := 0) hx hb dX12_instruction__10 rfl ?_
    refine lv_aload_n hx hb dX12_instruction__11 rfl (lv_at hl 0 rfl) ?_
    refine gt_X12_286_m hx hb hta hown hK hC dX12_instruction__12 ?_
    refine lv_iconst (v := 1) hx hb dX12_instruction__15 (by decide) ?_
    refine lv_isub hx hb dX12_instruction__16 ?_
    refine lv_i2l hx hb dX12_instruction__17 rfl ?_
    obtain ⟨v_14, hc_14, hf⟩ := calp_inv hf
    refine cc_Si (r_X12_isIn (D := D) (y := y) (w := WM y o σ) (ad := ad) (av := av) hc_14 l) hx hb hml hta hown hK hN hV hA hC hRc hRs (by omega) (by omega) wq_1362 wq_1363 wq_1012 wq_1007 hd_X12_isIn (As := [.long x1.toInt64, .long 0, .long (((σ.1 15 0) - 1).toInt64)]) (rest := [.ref (o 0)]) rfl rfl hl.1 rfl dX12_instruction__18 (fun H locs hC => ?_)
    refine lv_if_eq (tgt := 40) hx hb dX12_instruction__21 (by decide) (fun c_15 => ?_) (fun c_15 => ?_)
    · have hf := it_t c_15 hf
      exact hj_40 _ _ _ hf hC hl
    · have hf := it_f c_15 hf
      refine lv_iload_n hx hb dX12_instruction__24 rfl (lv_at hl 2 rfl) ?_
      refine lv_i2l hx hb dX12_instruction__25 rfl ?_
      refine lv_lconst (v := 0) hx hb dX12_instruction__26 rfl ?_
      refine lv_ldc2 hx hb hown (hta _ wq_1451) dX12_instruction__27 ?_
      obtain ⟨v_16, hc_16, hf⟩ := calp_inv hf
      refine cc_Si (r_X12_isIn (D := D) (y := y) (w := WM y o σ) (ad := ad) (av := av) hc_16 l) hx hb hml hta hown hK hN hV hA hC hRc hRs (by omega) (by omega) wq_1362 wq_1363 wq_1012 wq_1007 hd_X12_isIn (As := [.long x2.toInt64, .long 0, .long 5]) (rest := [.ref (o 0)]) rfl rfl hl.1 rfl dX12_instruction__30 (fun H locs hC => ?_)
      refine lv_if_eq (tgt := 40) hx hb dX12_instruction__33 (by decide) (fun c_17 => ?_) (fun c_17 => ?_)
      · have hf := it_t c_17 hf
        exact hj_40 _ _ _ hf hC hl
      · have hf := it_f c_17 hf
        refine lv_iconst (v := 0) hx hb dX12_instruction__36 (by decide) ?_
        refine lv_goto (tgt := 41) hx hb dX12_instruction__37 (by decide) ?_
        exact hj_41 _ _ _ _ hf hC hl

set_option maxHeartbeats 8000000 in
set_option maxRecDepth 100000 in
theorem r_X12_isBlock {D : va_G} {y : Nat → ClassId} {o : Nat → Nat} {ad av : Nat → Nat} {x1 : Int32} {σ : Sto} {v : Int32} (hf : f_X12_isBlock x1 σ = some v) (l : Launch) (sz : Nat) : Met l yX12_isBlock (Cond.code yX12_isBlock cX12_isBlock 2 (some .boolean) :: ALW) { frames := 1, cells := 0, slots := 0, locals := 25 } (va_Pc [.ref (o 0), .int x1] (PZ D y ad av (WM y o σ) sz)) (QZi D (WM y o σ) v (WM y o σ) sz) 0 0 (va_A (WM y o σ) sz) := by
  refine met_i (by decide) (Nat.le_of_ble_eq_true rfl) ?_
  intro p e R s m args below meth c Q A ls hx hb hml hta hown hRc hRs hRf hRl hN hK hV hA hret hC hl
  have hl : lv_has ls 2 [(0, .ref (o 0)), (1, .int x1)] := hl
  unfold f_X12_isBlock at hf
  refine lv_aload_n hx hb dX12_isBlock_0 rfl (lv_at hl 0 rfl) ?_
  refine gt_X12_292_m hx hb hta hown hK hC dX12_isBlock_1 ?_
  obtain ⟨k_27, hk_27, hf⟩ := jn_inv0 hf
  have hj_27 : ∀  (H : Heap) (locs : List Loc) (ls : Array Slot), k_27 = some v → CZ D A s H locs (WM y o σ) → lv_has ls 2 [] → W p l e R s m args below meth c H locs 0 0 Q (F0 m 27 ls []) := by
    intro H locs ls hf hC hl
    have hf := hk_27 hf
    refine lv_iconst (v := 0) hx hb dX12_isBlock_27 (by decide) ?_
    exact hret _ _ _ _ _ _ (Option.some.inj hf) rfl rfl dX12_isBlock_28 hC
  refine lv_if_eq (tgt := 27) hx hb dX12_isBlock_4 (by decide) (fun c_2 => ?_) (fun c_2 => ?_)
  · have hf := it_t c_2 hf
    exact hj_27 _ _ _ hf hC (lv_sub hl [] rfl)
  · have hf := it_f c_2 hf
    refine lv_iload_n hx hb dX12_isBlock_7 rfl (lv_at hl 1 rfl) ?_
    refine lv_i2l hx hb dX12_isBlock_8 rfl ?_
    refine lv_lconst (v := 0) hx hb dX12_isBlock_9 rfl ?_
    refine lv_aload_n hx hb dX12_isBlock_10 rfl (lv_at hl 0 rfl) ?_
    refine gt_X12_299_m hx hb hta hown hK hC dX12_isBlock_11 ?_
    refine lv_iconst (v := 1) hx hb dX12_isBlock_14 (by decide) ?_
    refine lv_isub hx hb dX12_isBlock_15 ?_
    refine lv_i2l hx hb dX12_isBlock_16 rfl ?_
    obtain ⟨v_3, hc_3, hf⟩ := calp_inv hf
    refine cc_Si (r_X12_isIn (D := D) (y := y) (w := WM y o σ) (ad := ad) (av := av) hc_3 l) hx hb hml hta hown hK hN hV hA hC hRc hRs (by omega) (by omega) wq_1362 wq_1363 wq_1012 wq_1007 hd_X12_isIn (As := [.long x1.toInt64, .long 0, .long (((σ.1 26 0) - 1).toInt64)]) (rest := []) rfl rfl hl.1 rfl dX12_isBlock_17 (fun H locs hC => ?_)
    refine lv_if_eq (tgt := 27) hx hb dX12_isBlock_20 (by decide) (fun c_4 => ?_) (fun c_4 => ?_)
    · have hf := it_t c_4 hf
      exact hj_27 _ _ _ hf hC (lv_sub hl [] rfl)
    · have hf := it_f c_4 hf
      refine lv_iconst (v := 1) hx hb dX12_isBlock_23 (by decide) ?_
      refine lv_goto (tgt := 28) hx hb dX12_isBlock_24 (by decide) ?_
      exact hret _ _ _ _ _ _ (Option.some.inj hf) rfl rfl dX12_isBlock_28 hC

set_option maxHeartbeats 8000000 in
set_option maxRecDepth 100000 in
theorem r_X12_ones {D : va_G} {y : Nat → ClassId} {ad av : Nat → Nat} {w : va_W} {x1 : Int64} {v : Int32} (hf : f_X12_ones x1 = some v) (l : Launch) (sz : Nat) : Met l yX12_ones (Cond.code yX12_ones cX12_ones 4 (some .int) :: ALW) { frames := 1, cells := 0, slots := 0, locals := 22 } (va_Pc [.long x1] (PZ D y ad av (w) sz)) (QZi D (w) v (w) sz) 0 0 (va_A (w) sz) := by
  refine met_i (by decide) (Nat.le_of_ble_eq_true rfl) ?_
  intro p e R s m args below meth c Q A ls hx hb hml hta hown hRc hRs hRf hRl hN hK hV hA hret hC hl
  have hl : lv_has ls 4 [(0, .long x1)] := hl
  unfold f_X12_ones at hf
  refine lv_iconst (v := 0) hx hb dX12_ones_0 (by decide) ?_
  refine lv_istore_n (lv' := [(2, .int 0), (0, .long x1)]) hx hb dX12_ones_1 rfl hl (by decide) rfl (fun ls hl => ?_)
  refine lv_iconst (v := 0) hx hb dX12_ones_2 (by decide) ?_
  refine lv_istore_n (lv' := [(3, .int 0), (2, .int 0), (0, .long x1)]) hx hb dX12_ones_3 rfl hl (by decide) rfl (fun ls hl => ?_)
  refine itr_inv2 (P := fun (x2_1 : Int32) (x3_1 : Int32) => ∀ (H : Heap) (locs : List Loc) (ls : Array Slot), CZ D A s H locs w → lv_has ls 4 [(0, .long x1), (2, .int x2_1), (3, .int x3_1)] → W p l e R s m args below meth c H locs 0 0 Q (F0 m 4 ls [])) hf ?_ _ _ _ hC (lv_sub hl [2, 1, 0] rfl)
  intro a_4 x2_1 x3_1 ha_4 hf H locs ls hC hl
  refine lv_iload_n hx hb dX12_ones_4 rfl (lv_at hl 2 rfl) ?_
  refine lv_bipush (v := 40) hx hb dX12_ones_5 (by decide) ?_
  refine lv_icmp_ge (tgt := 32) hx hb dX12_ones_7 (by decide) (fun c_2 => ?_) (fun c_2 => ?_)
  · have hf := it_t c_2 hf
    refine lv_iload_n hx hb dX12_ones_32 rfl (lv_at hl 1 rfl) ?_
    exact hret _ _ _ _ _ _ (Option.some.inj hf) rfl rfl dX12_ones_33 hC
  · have hf := it_f c_2 hf
    refine lv_iload_n hx hb dX12_ones_10 rfl (lv_at hl 1 rfl) ?_
    refine lv_lload_n hx hb dX12_ones_11 rfl (lv_at hl 0 rfl) ?_
    refine lv_iload_n hx hb dX12_ones_12 rfl (lv_at hl 2 rfl) ?_
    obtain ⟨v_3, hc_3, hf⟩ := calp_inv hf
    refine cc_Si (r_X12_has (D := D) (y := y) (w := w) (ad := ad) (av := av) hc_3 l) hx hb hml hta hown hK hN hV hA hC hRc hRs (by omega) (by omega) wq_1010 wq_1011 wq_1012 wq_1008 hd_X12_has (As := [.long x1, .int x3_1]) (rest := [.int x2_1]) rfl rfl hl.1 rfl dX12_ones_13 (fun H locs hC => ?_)
    obtain ⟨k_24, hk_24, hf⟩ := jn_inv1 hf
    have hj_24 : ∀ (t0_4 : Int32) (H : Heap) (locs : List Loc) (ls : Array Slot), k_24 t0_4 = some v → CZ D A s H locs w → lv_has ls 4 [(0, .long x1), (3, .int x3_1)] → W p l e R s m args below meth c H locs 0 0 Q (F0 m 24 ls [.int t0_4, .int x2_1]) := by
      intro t0_4 H locs ls hf hC hl
      have hf := hk_24 _ hf
      refine lv_iadd hx hb dX12_ones_24 ?_
      obtain ⟨x2_5, e_5, hf⟩ := lt_inv hf
      refine nmi e_5 ?_
      refine lv_istore_n (lv' := [(2, .int x2_5), (0, .long x1), (3, .int x3_1)]) hx hb dX12_ones_25 rfl hl (by decide) rfl (fun ls hl => ?_)
      obtain ⟨x3_6, e_6, hf⟩ := lt_inv hf
      refine lv_iinc (v := x3_6) (lv' := [(3, .int x3_6), (2, .int x2_5), (0, .long x1)]) hx hb dX12_ones_26 hl (k := 2) rfl e_6.symm (by decide) rfl (fun ls hl => ?_)
      refine lv_goto (tgt := 4) hx hb dX12_ones_29 (by decide) ?_
      exact ha_4 _ _ hf _ _ _ hC (lv_sub hl [2, 1, 0] rfl)
    refine lv_if_eq (tgt := 23) hx hb dX12_ones_16 (by decide) (fun c_7 => ?_) (fun c_7 => ?_)
    · have hf := it_t c_7 hf
      refine lv_iconst (v := 0) hx hb dX12_ones_23 (by decide) ?_
      exact hj_24 _ _ _ _ hf hC (lv_sub hl [0, 2] rfl)
    · have hf := it_f c_7 hf
      refine lv_iconst (v := 1) hx hb dX12_ones_19 (by decide) ?_
      refine lv_goto (tgt := 24) hx hb dX12_ones_20 (by decide) ?_
      exact hj_24 _ _ _ _ hf hC (lv_sub hl [0, 2] rfl)

set_option maxHeartbeats 8000000 in
set_option maxRecDepth 100000 in
theorem r_X12_innermost {D : va_G} {y : Nat → ClassId} {o : Nat → Nat} {ad av : Nat → Nat} {x1 : Int32} {σ : Sto} {v : Int32} (hf : f_X12_innermost x1 σ = some v) (l : Launch) (sz : Nat) : Met l yX12_innermost (Cond.code yX12_innermost cX12_innermost 4 (some .int) :: ALW) { frames := 2, cells := 0, slots := 0, locals := 45 } (va_Pc [.ref (o 0), .int x1] (PZ D y ad av (WM y o σ) sz)) (QZi D (WM y o σ) v (WM y o σ) sz) 0 0 (va_A (WM y o σ) sz) := by
  refine met_i (by decide) (Nat.le_of_ble_eq_true rfl) ?_
  intro p e R s m args below meth c Q A ls hx hb hml hta hown hRc hRs hRf hRl hN hK hV hA hret hC hl
  have hl : lv_has ls 4 [(0, .ref (o 0)), (1, .int x1)] := hl
  unfold f_X12_innermost at hf
  refine lv_iconst (v := (-1)) hx hb dX12_innermost_0 (by decide) ?_
  refine lv_istore_n (lv' := [(2, .int (-1)), (0, .ref (o 0)), (1, .int x1)]) hx hb dX12_innermost_1 rfl hl (by decide) rfl (fun ls hl => ?_)
  refine lv_iconst (v := 0) hx hb dX12_innermost_2 (by decide) ?_
  refine lv_istore_n (lv' := [(3, .int 0), (2, .int (-1)), (0, .ref (o 0)), (1, .int x1)]) hx hb dX12_innermost_3 rfl hl (by decide) rfl (fun ls hl => ?_)
  refine itr_inv2 (P := fun (x2_1 : Int32) (x3_1 : Int32) => ∀ (H : Heap) (locs : List Loc) (ls : Array Slot), CZ D A s H locs (WM y o σ) → lv_has ls 4 [(0, .ref (o 0)), (1, .int x1), (2, .int x2_1), (3, .int x3_1)] → W p l e R s m args below meth c H locs 0 0 Q (F0 m 4 ls [])) hf ?_ _ _ _ hC (lv_sub hl [2, 3, 1, 0] rfl)
  intro a_4 x2_1 x3_1 ha_4 hf H locs ls hC hl
  refine lv_iload_n hx hb dX12_innermost_4 rfl (lv_at hl 3 rfl) ?_
  refine lv_aload_n hx hb dX12_innermost_5 rfl (lv_at hl 0 rfl) ?_
  refine gt_X12_299_m hx hb hta hown hK hC dX12_innermost_6 ?_
  refine lv_icmp_ge (tgt := 59) hx hb dX12_innermost_9 (by decide) (fun c_2 => ?_) (fun c_2 => ?_)
  · have hf := it_t c_2 hf
    refine lv_iload_n hx hb dX12_innermost_59 rfl (lv_at hl 2 rfl) ?_
    exact hret _ _ _ _ _ _ (Option.some.inj hf) rfl rfl dX12_innermost_60 hC
  · have hf := it_f c_2 hf
    refine lv_aload_n hx hb dX12_innermost_12 rfl (lv_at hl 0 rfl) ?_
    refine gt_X12_79_m hx hb hta hown hK hC dX12_innermost_13 ?_
    refine lv_iload_n hx hb dX12_innermost_16 rfl (lv_at hl 3 rfl) ?_
    obtain ⟨hi_3, hf⟩ := ix_inv hf
    obtain ⟨v_3, e_3, hf⟩ := lt_inv hf
    refine al_M_23 hx hb hK hC hi_3 e_3 dX12_innermost_17 ?_
    refine lv_iload_n hx hb dX12_innermost_18 rfl (lv_at hl 1 rfl) ?_
    obtain ⟨v_4, hc_4, hf⟩ := calp_inv hf
    refine cc_Si (r_X12_has (D := D) (y := y) (w := WM y o σ) (ad := ad) (av := av) hc_4 l) hx hb hml hta hown hK hN hV hA hC hRc hRs (by omega) (by omega) wq_1010 wq_1011 wq_1012 wq_1008 hd_X12_has (As := [.long v_3, .int x1]) (rest := []) rfl rfl hl.1 rfl dX12_innermost_19 (fun H locs hC => ?_)
    obtain ⟨k_53, hk_53, hf⟩ := jn_inv1 hf
    have hj_53 : ∀ (x2_5 : Int32) (H : Heap) (locs : List Loc) (ls : Array Slot), k_53 x2_5 = some v → CZ D A s H locs (WM y o σ) → lv_has ls 4 [(0, .ref (o 0)), (1, .int x1), (2, .int x2_5), (3, .int x3_1)] → W p l e R s m args below meth c H locs 0 0 Q (F0 m 53 ls []) := by
      intro x2_5 H locs ls hf hC hl
      have hf := hk_53 _ hf
      obtain ⟨x3_6, e_6, hf⟩ := lt_inv hf
      refine lv_iinc (v := x3_6) (lv' := [(3, .int x3_6), (0, .ref (o 0)), (1, .int x1), (2, .int x2_5)]) hx hb dX12_innermost_53 hl (k := 3) rfl e_6.symm (by decide) rfl (fun ls hl => ?_)
      refine lv_goto (tgt := 4) hx hb dX12_innermost_56 (by decide) ?_
      exact ha_4 _ _ hf _ _ _ hC (lv_sub hl [1, 2, 3, 0] rfl)
    refine lv_if_eq (tgt := 53) hx hb dX12_innermost_22 (by decide) (fun c_7 => ?_) (fun c_7 => ?_)
    · have hf := it_t c_7 hf
      exact hj_53 _ _ _ _ hf hC hl
    · have hf := it_f c_7 hf
      refine lv_iload_n hx hb dX12_innermost_25 rfl (lv_at hl 2 rfl) ?_
      refine lv_iconst (v := (-1)) hx hb dX12_innermost_26 (by decide) ?_
      obtain ⟨k_51, hk_51, hf⟩ := jn_inv0 hf
      have hj_51 : ∀  (H : Heap) (locs : List Loc) (ls : Array Slot), k_51 = some v → CZ D A s H locs (WM y o σ) → lv_has ls 4 [(0, .ref (o 0)), (1, .int x1), (3, .int x3_1)] → W p l e R s m args below meth c H locs 0 0 Q (F0 m 51 ls []) := by
        intro H locs ls hf hC hl
        have hf := hk_51 hf
        refine lv_iload_n hx hb dX12_innermost_51 rfl (lv_at hl 2 rfl) ?_
        refine lv_istore_n (lv' := [(2, .int x3_1), (0, .ref (o 0)), (1, .int x1), (3, .int x3_1)]) hx hb dX12_innermost_52 rfl hl (by decide) rfl (fun ls hl => ?_)
        exact hj_53 _ _ _ _ hf hC (lv_sub hl [1, 2, 0, 3] rfl)
      refine lv_icmp_eq (tgt := 51) hx hb dX12_innermost_27 (by decide) (fun c_9 => ?_) (fun c_9 => ?_)
      · have hf := it_t c_9 hf
        exact hj_51 _ _ _ hf hC (lv_sub hl [0, 1, 3] rfl)
      · have hf := it_f c_9 hf
        refine lv_aload_n hx hb dX12_innermost_30 rfl (lv_at hl 0 rfl) ?_
        refine gt_X12_79_m hx hb hta hown hK hC dX12_innermost_31 ?_
        refine lv_iload_n hx hb dX12_innermost_34 rfl (lv_at hl 3 rfl) ?_
        obtain ⟨hi_10, hf⟩ := ix_inv hf
        obtain ⟨v_10, e_10, hf⟩ := lt_inv hf
        refine al_M_23 hx hb hK hC hi_10 e_10 dX12_innermost_35 ?_
        obtain ⟨v_11, hc_11, hf⟩ := calp_inv hf
        refine cc_Si (r_X12_ones (D := D) (y := y) (w := WM y o σ) (ad := ad) (av := av) hc_11 l) hx hb hml hta hown hK hN hV hA hC hRc hRs (by omega) (by omega) wq_1454 wq_1455 wq_1012 wq_1009 hd_X12_ones (As := [.long v_10]) (rest := []) rfl rfl hl.1 rfl dX12_innermost_36 (fun H locs hC => ?_)
        refine lv_aload_n hx hb dX12_innermost_39 rfl (lv_at hl 0 rfl) ?_
        refine gt_X12_79_m hx hb hta hown hK hC dX12_innermost_40 ?_
        refine lv_iload_n hx hb dX12_innermost_43 rfl (lv_at hl 2 rfl) ?_
        obtain ⟨hi_12, hf⟩ := ix_inv hf
        obtain ⟨v_12, e_12, hf⟩ := lt_inv hf
        refine al_M_23 hx hb hK hC hi_12 e_12 dX12_innermost_44 ?_
        obtain ⟨v_13, hc_13, hf⟩ := calp_inv hf
        refine cc_Si (r_X12_ones (D := D) (y := y) (w := WM y o σ) (ad := ad) (av := av) hc_13 l) hx hb hml hta hown hK hN hV hA hC hRc hRs (by omega) (by omega) wq_1454 wq_1455 wq_1012 wq_1009 hd_X12_ones (As := [.long v_12]) (rest := [.int v_11]) rfl rfl hl.1 rfl dX12_innermost_45 (fun H locs hC => ?_)
        refine lv_icmp_ge (tgt := 53) hx hb dX12_innermost_48 (by decide) (fun c_14 => ?_) (fun c_14 => ?_)
        · have hf := it_t c_14 hf
          exact hj_53 _ _ _ _ hf hC hl
        · have hf := it_f c_14 hf
          exact hj_51 _ _ _ hf hC (lv_sub hl [0, 1, 3] rfl)

set_option maxHeartbeats 8000000 in
set_option maxRecDepth 100000 in
theorem r_X12_loopsOf {D : va_G} {y : Nat → ClassId} {o : Nat → Nat} {ad av : Nat → Nat} {x1 : Int32} {σ : Sto} {v : Int32} (hf : f_X12_loopsOf x1 σ = some v) (l : Launch) (sz : Nat) : Met l yX12_loopsOf (Cond.code yX12_loopsOf cX12_loopsOf 4 (some .int) :: ALW) { frames := 1, cells := 0, slots := 0, locals := 22 } (va_Pc [.ref (o 0), .int x1] (PZ D y ad av (WM y o σ) sz)) (QZi D (WM y o σ) v (WM y o σ) sz) 0 0 (va_A (WM y o σ) sz) := by
  refine met_i (by decide) (Nat.le_of_ble_eq_true rfl) ?_
  intro p e R s m args below meth c Q A ls hx hb hml hta hown hRc hRs hRf hRl hN hK hV hA hret hC hl
  have hl : lv_has ls 4 [(0, .ref (o 0)), (1, .int x1)] := hl
  unfold f_X12_loopsOf at hf
  refine lv_iconst (v := 0) hx hb dX12_loopsOf_0 (by decide) ?_
  refine lv_istore_n (lv' := [(2, .int 0), (0, .ref (o 0)), (1, .int x1)]) hx hb dX12_loopsOf_1 rfl hl (by decide) rfl (fun ls hl => ?_)
  refine lv_iconst (v := 0) hx hb dX12_loopsOf_2 (by decide) ?_
  refine lv_istore_n (lv' := [(3, .int 0), (2, .int 0), (0, .ref (o 0)), (1, .int x1)]) hx hb dX12_loopsOf_3 rfl hl (by decide) rfl (fun ls hl => ?_)
  refine itr_inv2 (P := fun (x2_1 : Int32) (x3_1 : Int32) => ∀ (H : Heap) (locs : List Loc) (ls : Array Slot), CZ D A s H locs (WM y o σ) → lv_has ls 4 [(0, .ref (o 0)), (1, .int x1), (2, .int x2_1), (3, .int x3_1)] → W p l e R s m args below meth c H locs 0 0 Q (F0 m 4 ls [])) hf ?_ _ _ _ hC (lv_sub hl [2, 3, 1, 0] rfl)
  intro a_4 x2_1 x3_1 ha_4 hf H locs ls hC hl
  refine lv_iload_n hx hb dX12_loopsOf_4 rfl (lv_at hl 3 rfl) ?_
  refine lv_aload_n hx hb dX12_loopsOf_5 rfl (lv_at hl 0 rfl) ?_
  refine gt_X12_299_m hx hb hta hown hK hC dX12_loopsOf_6 ?_
  refine lv_icmp_ge (tgt := 39) hx hb dX12_loopsOf_9 (by decide) (fun c_2 => ?_) (fun c_2 => ?_)
  · have hf := it_t c_2 hf
    refine lv_iload_n hx hb dX12_loopsOf_39 rfl (lv_at hl 2 rfl) ?_
    exact hret _ _ _ _ _ _ (Option.some.inj hf) rfl rfl dX12_loopsOf_40 hC
  · have hf := it_f c_2 hf
    refine lv_iload_n hx hb dX12_loopsOf_12 rfl (lv_at hl 2 rfl) ?_
    refine lv_aload_n hx hb dX12_loopsOf_13 rfl (lv_at hl 0 rfl) ?_
    refine gt_X12_79_m hx hb hta hown hK hC dX12_loopsOf_14 ?_
    refine lv_iload_n hx hb dX12_loopsOf_17 rfl (lv_at hl 3 rfl) ?_
    obtain ⟨hi_3, hf⟩ := ix_inv hf
    obtain ⟨v_3, e_3, hf⟩ := lt_inv hf
    refine al_M_23 hx hb hK hC hi_3 e_3 dX12_loopsOf_18 ?_
    refine lv_iload_n hx hb dX12_loopsOf_19 rfl (lv_at hl 1 rfl) ?_
    obtain ⟨v_4, hc_4, hf⟩ := calp_inv hf
    refine cc_Si (r_X12_has (D := D) (y := y) (w := WM y o σ) (ad := ad) (av := av) hc_4 l) hx hb hml hta hown hK hN hV hA hC hRc hRs (by omega) (by omega) wq_1010 wq_1011 wq_1012 wq_1008 hd_X12_has (As := [.long v_3, .int x1]) (rest := [.int x2_1]) rfl rfl hl.1 rfl dX12_loopsOf_20 (fun H locs hC => ?_)
    obtain ⟨k_31, hk_31, hf⟩ := jn_inv1 hf
    have hj_31 : ∀ (t0_5 : Int32) (H : Heap) (locs : List Loc) (ls : Array Slot), k_31 t0_5 = some v → CZ D A s H locs (WM y o σ) → lv_has ls 4 [(0, .ref (o 0)), (1, .int x1), (3, .int x3_1)] → W p l e R s m args below meth c H locs 0 0 Q (F0 m 31 ls [.int t0_5, .int x2_1]) := by
      intro t0_5 H locs ls hf hC hl
      have hf := hk_31 _ hf
      refine lv_iadd hx hb dX12_loopsOf_31 ?_
      obtain ⟨x2_6, e_6, hf⟩ := lt_inv hf
      refine nmi e_6 ?_
      refine lv_istore_n (lv' := [(2, .int x2_6), (0, .ref (o 0)), (1, .int x1), (3, .int x3_1)]) hx hb dX12_loopsOf_32 rfl hl (by decide) rfl (fun ls hl => ?_)
      obtain ⟨x3_7, e_7, hf⟩ := lt_inv hf
      refine lv_iinc (v := x3_7) (lv' := [(3, .int x3_7), (2, .int x2_6), (0, .ref (o 0)), (1, .int x1)]) hx hb dX12_loopsOf_33 hl (k := 3) rfl e_7.symm (by decide) rfl (fun ls hl => ?_)
      refine lv_goto (tgt := 4) hx hb dX12_loopsOf_36 (by decide) ?_
      exact ha_4 _ _ hf _ _ _ hC (lv_sub hl [2, 3, 1, 0] rfl)
    refine lv_if_eq (tgt := 30) hx hb dX12_loopsOf_23 (by decide) (fun c_8 => ?_) (fun c_8 => ?_)
    · have hf := it_t c_8 hf
      refine lv_iconst (v := 0) hx hb dX12_loopsOf_30 (by decide) ?_
      exact hj_31 _ _ _ _ hf hC (lv_sub hl [0, 1, 3] rfl)
    · have hf := it_f c_8 hf
      refine lv_iconst (v := 1) hx hb dX12_loopsOf_26 (by decide) ?_
      refine lv_goto (tgt := 31) hx hb dX12_loopsOf_27 (by decide) ?_
      exact hj_31 _ _ _ _ hf hC (lv_sub hl [0, 1, 3] rfl)
