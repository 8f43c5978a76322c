set_option maxHeartbeats 8000000 in
set_option maxRecDepth 100000 in
theorem r_X3_lowestOpen_draft {D : va_G} {y : Nat → ClassId} {o : Nat → Nat} {ad av : Nat → Nat} {x1 : Int64} {σ : Sto} {v : Int32} (hf : f_X3_lowestOpen_draft x1 σ = some v) (l : Launch) (sz : Nat) : Met l yX3_lowestOpen (Cond.code yX3_lowestOpen cX3_lowestOpen 4 (some .int) :: ALW) { frames := 1, cells := 0, slots := 0, locals := 22 } (va_Pc [.ref (o 10), .long x1] (PZ D y ad av (WX y o σ) sz)) (QZi D (WX y o σ) v (WX y o σ) sz) 0 0 (va_A (WX y o σ) sz) := by
  refine met_i (by decide) (Nat.le_of_ble_eq_true rfl) ?_
  intro p e R s m args below meth c Q A ls hx hb hml hta hown hRc hRs hRf hRl hN hK hV hA hret hC hl
  have hl : lv_has ls 4 [(0, .ref (o 10)), (1, .long x1)] := hl
  unfold f_X3_lowestOpen_draft at hf
  refine lv_iconst (v := 0) hx hb dX3_lowestOpen_0 (by decide) ?_
  refine lv_istore_n (lv' := [(3, .int 0), (0, .ref (o 10)), (1, .long x1)]) hx hb dX3_lowestOpen_1 rfl hl (by decide) rfl (fun ls hl => ?_)
  refine itr_inv1 (P := fun (x3_1 : Int32) => ∀ (H : Heap) (locs : List Loc) (ls : Array Slot), CZ D A s H locs (WX y o σ) → lv_has ls 4 [(0, .ref (o 10)), (1, .long x1), (3, .int x3_1)] → W p l e R s m args below meth c H locs 0 0 Q (F0 m 2 ls [])) hf ?_ _ _ _ hC (lv_sub hl [1, 2, 0] rfl)
  intro a_2 x3_1 ha_2 hf H locs ls hC hl
  refine lv_iload_n hx hb dX3_lowestOpen_2 rfl (lv_at hl 2 rfl) ?_
  refine lv_aload_n hx hb dX3_lowestOpen_3 rfl (lv_at hl 0 rfl) ?_
  refine gt_X3_30_draft hx hb hta hown hK hC dX3_lowestOpen_4 ?_
  refine lv_icmp_ge (tgt := 36) hx hb dX3_lowestOpen_7 (by decide) (fun c_2 => ?_) (fun c_2 => ?_)
  · have hf := it_t c_2 hf
    refine lv_iconst (v := (-1)) hx hb dX3_lowestOpen_36 (by decide) ?_
    exact hret _ _ _ _ _ _ (Option.some.inj hf) rfl rfl dX3_lowestOpen_37 hC
  · have hf := it_f c_2 hf
    refine lv_aload_n hx hb dX3_lowestOpen_10 rfl (lv_at hl 0 rfl) ?_
    refine gt_X3_18_draft hx hb hta hown hK hC dX3_lowestOpen_11 ?_
    refine lv_iload_n hx hb dX3_lowestOpen_14 rfl (lv_at hl 2 rfl) ?_
    obtain ⟨hi_3, hf⟩ := ix_inv hf
    obtain ⟨v_3, e_3, hf⟩ := lt_inv hf
    refine al_X_13 hx hb hK hC hi_3 e_3 dX3_lowestOpen_15 ?_
    refine lv_iconst (v := (-1)) hx hb dX3_lowestOpen_16 (by decide) ?_
    obtain ⟨k_30, hk_30, hf⟩ := jn_inv0 hf
    have hj_30 : ∀  (H : Heap) (locs : List Loc) (ls : Array Slot), k_30 = some v → CZ D A s H locs (WX y o σ) → lv_has ls 4 [(0, .ref (o 10)), (1, .long x1), (3, .int x3_1)] → W p l e R s m args below meth c H locs 0 0 Q (F0 m 30 ls []) := by
      intro H locs ls hf hC hl
      have hf := hk_30 hf
      obtain ⟨x3_5, e_5, hf⟩ := lt_inv hf
      refine lv_iinc (v := x3_5) (lv' := [(3, .int x3_5), (0, .ref (o 10)), (1, .long x1)]) hx hb dX3_lowestOpen_30 hl (k := 2) rfl e_5.symm (by decide) rfl (fun ls hl => ?_)
      refine lv_goto (tgt := 2) hx hb dX3_lowestOpen_33 (by decide) ?_
      exact ha_2 _ hf _ _ _ hC (lv_sub hl [1, 2, 0] rfl)
    refine lv_icmp_eq (tgt := 30) hx hb dX3_lowestOpen_17 (by decide) (fun c_6 => ?_) (fun c_6 => ?_)
    · have hf := it_t c_6 hf
      exact hj_30 _ _ _ hf hC hl
    · have hf := it_f c_6 hf
      refine lv_lload_n hx hb dX3_lowestOpen_20 rfl (lv_at hl 1 rfl) ?_
      refine lv_iload_n hx hb dX3_lowestOpen_21 rfl (lv_at hl 2 rfl) ?_
      obtain ⟨v_7, hc_7, hf⟩ := calp_inv hf
      refine cc_SiN (r_X11_isIn (D := D) (y := y) (w := WX y o σ) (ad := ad) (av := av) hc_7 l) hx hb hml hta hown hK hN hV hA hC hRc hRs (by omega) (by omega) (nw_X3_59 hN) wq_37 wq_38 wq_33 hd_X11_isIn (As := [.long x1, .int x3_1]) (rest := []) rfl rfl hl.1 rfl dX3_lowestOpen_22 (fun H locs hC => ?_)
      refine lv_if_ne (tgt := 30) hx hb dX3_lowestOpen_25 (by decide) (fun c_8 => ?_) (fun c_8 => ?_)
      · have hf := it_f c_8 hf
        exact hj_30 _ _ _ hf hC hl
      · have hf := it_t c_8 hf
        refine lv_iload_n hx hb dX3_lowestOpen_28 rfl (lv_at hl 2 rfl) ?_
        exact hret _ _ _ _ _ _ (Option.some.inj hf) rfl rfl dX3_lowestOpen_29 hC

set_option maxHeartbeats 8000000 in
set_option maxRecDepth 100000 in
theorem r_X3_needs {D : va_G} {y : Nat → ClassId} {ad av : Nat → Nat} {w : va_W} {x1 : Int32} {v : Int32} (hf : f_X3_needs x1 = some v) (l : Launch) (sz : Nat) : Met l yX3_needs (Cond.code yX3_needs cX3_needs 1 (some .int) :: ALW) { frames := 1, cells := 0, slots := 0, locals := 20 } (va_Pc [.int x1] (PZ D y ad av (w) sz)) (QZi D (w) v (w) sz) 0 0 (va_A (w) sz) := by
  refine met_i (by decide) (Nat.le_of_ble_eq_true rfl) ?_
  intro p e R s m args below meth c Q A ls hx hb hml hta hown hRc hRs hRf hRl hN hK hV hA hret hC hl
  have hl : lv_has ls 1 [(0, .int x1)] := hl
  unfold f_X3_needs at hf
  refine lv_iload_n hx hb dX3_needs_0 rfl (lv_at hl 0 rfl) ?_
  by_cases h_1_0 : x1.toInt = 33 ∨ x1.toInt = 100 ∨ x1.toInt = 110 ∨ x1.toInt = 111 ∨ x1.toInt = 112 ∨ x1.toInt = 115 ∨ x1.toInt = 116 ∨ x1.toInt = 122
  · have hf := it_t h_1_0 hf
    refine lv_lookup (off := 83) (tgt := 84) hx hb dX3_needs_1 (by decide) (by rcases h_1_0 with h_1_0 | h_1_0 | h_1_0 | h_1_0 | h_1_0 | h_1_0 | h_1_0 | h_1_0 <;> (rw [h_1_0]; decide)) (by decide) ?_
    refine lv_iconst (v := 1) hx hb dX3_needs_84 (by decide) ?_
    exact hret _ _ _ _ _ _ (Option.some.inj hf) rfl rfl dX3_needs_85 hC
  have hf := it_f h_1_0 hf
  by_cases h_1_1 : x1.toInt = 119
  · have hf := it_t h_1_1 hf
    refine lv_lookup (off := 85) (tgt := 86) hx hb dX3_needs_1 (by decide) (by (rw [h_1_1]; decide)) (by decide) ?_
    refine lv_iconst (v := 2) hx hb dX3_needs_86 (by decide) ?_
    exact hret _ _ _ _ _ _ (Option.some.inj hf) rfl rfl dX3_needs_87 hC
  have hf := it_f h_1_1 hf
  refine lv_lookup (off := 87) (tgt := 88) hx hb dX3_needs_1 (by decide) (lk_none (by intro a ha; simp only [List.mem_cons, List.not_mem_nil, or_false] at ha; rcases ha with rfl | rfl | rfl | rfl | rfl | rfl | rfl | rfl | rfl <;> (simp only; omega))) (by decide) ?_
  refine lv_iload_n hx hb dX3_needs_88 rfl (lv_at hl 0 rfl) ?_
  obtain ⟨v_2, hc_2, hf⟩ := calp_inv hf
  refine cc_SiN (r_X11_isBinary (D := D) (y := y) (w := w) (ad := ad) (av := av) hc_2 l) hx hb hml hta hown hK hN hV hA hC hRc hRs (by omega) (by omega) (nw_X3_94 hN) wq_67 wq_38 wq_65 hd_X11_isBinary (As := [.int x1]) (rest := []) rfl rfl hl.1 rfl dX3_needs_89 (fun H locs hC => ?_)
  refine lv_if_eq (tgt := 99) hx hb dX3_needs_92 (by decide) (fun c_3 => ?_) (fun c_3 => ?_)
  · have hf := it_t c_3 hf
    refine lv_iconst (v := 0) hx hb dX3_needs_99 (by decide) ?_
    exact hret _ _ _ _ _ _ (Option.some.inj hf) rfl rfl dX3_needs_100 hC
  · have hf := it_f c_3 hf
    refine lv_iconst (v := 2) hx hb dX3_needs_95 (by decide) ?_
    refine lv_goto (tgt := 100) hx hb dX3_needs_96 (by decide) ?_
    exact hret _ _ _ _ _ _ (Option.some.inj hf) rfl rfl dX3_needs_100 hC

set_option maxHeartbeats 8000000 in
set_option maxRecDepth 100000 in
theorem r_X3_gives {D : va_G} {y : Nat → ClassId} {ad av : Nat → Nat} {w : va_W} {x1 : Int32} {v : Int32} (hf : f_X3_gives x1 = some v) (l : Launch) (sz : Nat) : Met l yX3_gives (Cond.code yX3_gives cX3_gives 1 (some .int) :: ALW) { frames := 1, cells := 0, slots := 0, locals := 20 } (va_Pc [.int x1] (PZ D y ad av (w) sz)) (QZi D (w) v (w) sz) 0 0 (va_A (w) sz) := by
  refine met_i (by decide) (Nat.le_of_ble_eq_true rfl) ?_
  intro p e R s m args below meth c Q A ls hx hb hml hta hown hRc hRs hRf hRl hN hK hV hA hret hC hl
  have hl : lv_has ls 1 [(0, .int x1)] := hl
  unfold f_X3_gives at hf
  refine lv_iload_n hx hb dX3_gives_0 rfl (lv_at hl 0 rfl) ?_
  by_cases h_1_0 : x1.toInt = 33 ∨ x1.toInt = 105 ∨ x1.toInt = 107 ∨ x1.toInt = 108 ∨ x1.toInt = 110
  · have hf := it_t h_1_0 hf
    refine lv_lookup (off := 67) (tgt := 68) hx hb dX3_gives_1 (by decide) (by rcases h_1_0 with h_1_0 | h_1_0 | h_1_0 | h_1_0 | h_1_0 <;> (rw [h_1_0]; decide)) (by decide) ?_
    refine lv_iconst (v := 1) hx hb dX3_gives_68 (by decide) ?_
    exact hret _ _ _ _ _ _ (Option.some.inj hf) rfl rfl dX3_gives_69 hC
  have hf := it_f h_1_0 hf
  by_cases h_1_1 : x1.toInt = 100 ∨ x1.toInt = 119
  · have hf := it_t h_1_1 hf
    refine lv_lookup (off := 69) (tgt := 70) hx hb dX3_gives_1 (by decide) (by rcases h_1_1 with h_1_1 | h_1_1 <;> (rw [h_1_1]; decide)) (by decide) ?_
    refine lv_iconst (v := 2) hx hb dX3_gives_70 (by decide) ?_
    exact hret _ _ _ _ _ _ (Option.some.inj hf) rfl rfl dX3_gives_71 hC
  have hf := it_f h_1_1 hf
  refine lv_lookup (off := 71) (tgt := 72) hx hb dX3_gives_1 (by decide) (lk_none (by intro a ha; simp only [List.mem_cons, List.not_mem_nil, or_false] at ha; rcases ha with rfl | rfl | rfl | rfl | rfl | rfl | rfl <;> (simp only; omega))) (by decide) ?_
  refine lv_iload_n hx hb dX3_gives_72 rfl (lv_at hl 0 rfl) ?_
  obtain ⟨v_2, hc_2, hf⟩ := calp_inv hf
  refine cc_SiN (r_X11_isBinary (D := D) (y := y) (w := w) (ad := ad) (av := av) hc_2 l) hx hb hml hta hown hK hN hV hA hC hRc hRs (by omega) (by omega) (nw_X3_94 hN) wq_67 wq_38 wq_65 hd_X11_isBinary (As := [.int x1]) (rest := []) rfl rfl hl.1 rfl dX3_gives_73 (fun H locs hC => ?_)
  refine lv_if_eq (tgt := 83) hx hb dX3_gives_76 (by decide) (fun c_3 => ?_) (fun c_3 => ?_)
  · have hf := it_t c_3 hf
    refine lv_iconst (v := 0) hx hb dX3_gives_83 (by decide) ?_
    exact hret _ _ _ _ _ _ (Option.some.inj hf) rfl rfl dX3_gives_84 hC
  · have hf := it_f c_3 hf
    refine lv_iconst (v := 1) hx hb dX3_gives_79 (by decide) ?_
    refine lv_goto (tgt := 84) hx hb dX3_gives_80 (by decide) ?_
    exact hret _ _ _ _ _ _ (Option.some.inj hf) rfl rfl dX3_gives_84 hC

set_option maxHeartbeats 8000000 in
set_option maxRecDepth 100000 in
theorem r_X3_depthBehind_draft {D : va_G} {y : Nat → ClassId} {o : Nat → Nat} {ad av : Nat → Nat} {x1 : Int32} {σ : Sto} {v : Int32} (hf : f_X3_depthBehind_draft x1 σ = some v) (l : Launch) (sz : Nat) : Met l yX3_depthBehind (Cond.code yX3_depthBehind cX3_depthBehind 2 (some .int) :: ALW) { frames := 2, cells := 0, slots := 0, locals := 40 } (va_Pc [.ref (o 10), .int x1] (PZ D y ad av (WX y o σ) sz)) (QZi D (WX y o σ) v (WX y o σ) sz) 0 0 (va_A (WX y o σ) sz) := by
  refine met_i (by decide) (Nat.le_of_ble_eq_true rfl) ?_
  intro p e R s m args below meth c Q A ls hx hb hml hta hown hRc hRs hRf hRl hN hK hV hA hret hC hl
  have hl : lv_has ls 2 [(0, .ref (o 10)), (1, .int x1)] := hl
  unfold f_X3_depthBehind_draft at hf
  refine lv_aload_n hx hb dX3_depthBehind_0 rfl (lv_at hl 0 rfl) ?_
  refine gt_X3_18_draft hx hb hta hown hK hC dX3_depthBehind_1 ?_
  refine lv_iload_n hx hb dX3_depthBehind_4 rfl (lv_at hl 1 rfl) ?_
  obtain ⟨hi_1, hf⟩ := ix_inv hf
  obtain ⟨v_1, e_1, hf⟩ := lt_inv hf
  refine al_X_13 hx hb hK hC hi_1 e_1 dX3_depthBehind_5 ?_
  refine lv_aload_n hx hb dX3_depthBehind_6 rfl (lv_at hl 0 rfl) ?_
  refine gt_X3_9_draft hx hb hta hown hK hC dX3_depthBehind_7 ?_
  refine lv_iload_n hx hb dX3_depthBehind_10 rfl (lv_at hl 1 rfl) ?_
  obtain ⟨hi_2, hf⟩ := ix_inv hf
  obtain ⟨v_2, e_2, hf⟩ := lt_inv hf
  refine al_X_11 hx hb hK hC hi_2 e_2 dX3_depthBehind_11 ?_
  obtain ⟨v_3, hc_3, hf⟩ := calp_inv hf
  refine cc_Si (r_X3_needs (D := D) (y := y) (w := WX y o σ) (ad := ad) (av := av) hc_3 l) hx hb hml hta hown hK hN hV hA hC hRc hRs (by omega) (by omega) wq_71 wq_72 wq_27 wq_66 hd_X3_needs (As := [.int v_2]) (rest := [.int v_1]) rfl rfl hl.1 rfl dX3_depthBehind_12 (fun H locs hC => ?_)
  refine lv_isub hx hb dX3_depthBehind_15 ?_
  refine lv_aload_n hx hb dX3_depthBehind_16 rfl (lv_at hl 0 rfl) ?_
  refine gt_X3_9_draft hx hb hta hown hK hC dX3_depthBehind_17 ?_
  refine lv_iload_n hx hb dX3_depthBehind_20 rfl (lv_at hl 1 rfl) ?_
  obtain ⟨hi_4, hf⟩ := ix_inv hf
  obtain ⟨v_4, e_4, hf⟩ := lt_inv hf
  refine al_X_11 hx hb hK hC hi_4 e_4 dX3_depthBehind_21 ?_
  obtain ⟨v_5, hc_5, hf⟩ := calp_inv hf
  refine cc_Si (r_X3_gives (D := D) (y := y) (w := WX y o σ) (ad := ad) (av := av) hc_5 l) hx hb hml hta hown hK hN hV hA hC hRc hRs (by omega) (by omega) wq_73 wq_74 wq_27 wq_68 hd_X3_gives (As := [.int v_4]) (rest := [.int (v_1 - v_3)]) rfl rfl hl.1 rfl dX3_depthBehind_22 (fun H locs hC => ?_)
  refine lv_iadd hx hb dX3_depthBehind_25 ?_
  exact hret _ _ _ _ _ _ (Option.some.inj hf) rfl rfl dX3_depthBehind_26 hC

set_option maxHeartbeats 8000000 in
set_option maxRecDepth 100000 in
theorem r_X3_ends_draft {D : va_G} {y : Nat → ClassId} {o : Nat → Nat} {ad av : Nat → Nat} {x1 : Int32} {σ : Sto} {v : Int32} (hf : f_X3_ends_draft x1 σ = some v) (l : Launch) (sz : Nat) : Met l yX3_ends (Cond.code yX3_ends cX3_ends 2 (some .boolean) :: ALW) { frames := 0, cells := 0, slots := 0, locals := 0 } (va_Pc [.ref (o 10), .int x1] (PZ D y ad av (WX y o σ) sz)) (QZi D (WX y o σ) v (WX y o σ) sz) 0 0 (va_A (WX y o σ) sz) := by
  refine met_i (by decide) (Nat.le_of_ble_eq_true rfl) ?_
  intro p e R s m args below meth c Q A ls hx hb hml hta hown hRc hRs hRf hRl hN hK hV hA hret hC hl
  have hl : lv_has ls 2 [(0, .ref (o 10)), (1, .int x1)] := hl
  unfold f_X3_ends_draft at hf
  refine lv_aload_n hx hb dX3_ends_0 rfl (lv_at hl 0 rfl) ?_
  refine gt_X3_9_draft hx hb hta hown hK hC dX3_ends_1 ?_
  refine lv_iload_n hx hb dX3_ends_4 rfl (lv_at hl 1 rfl) ?_
  obtain ⟨hi_1, hf⟩ := ix_inv hf
  obtain ⟨v_1, e_1, hf⟩ := lt_inv hf
  refine al_X_11 hx hb hK hC hi_1 e_1 dX3_ends_5 ?_
  refine lv_bipush (v := 116) hx hb dX3_ends_6 (by decide) ?_
  obtain ⟨k_22, hk_22, hf⟩ := jn_inv0 hf
  have hj_22 : ∀  (H : Heap) (locs : List Loc) (ls : Array Slot), k_22 = some v → CZ D A s H locs (WX y o σ) → lv_has ls 2 [] → W p l e R s m args below meth c H locs 0 0 Q (F0 m 22 ls []) := by
    intro H locs ls hf hC hl
    have hf := hk_22 hf
    refine lv_iconst (v := 1) hx hb dX3_ends_22 (by decide) ?_
    refine lv_goto (tgt := 27) hx hb dX3_ends_23 (by decide) ?_
    exact hret _ _ _ _ _ _ (Option.some.inj hf) rfl rfl dX3_ends_27 hC
  refine lv_icmp_eq (tgt := 22) hx hb dX3_ends_8 (by decide) (fun c_3 => ?_) (fun c_3 => ?_)
  · have hf := it_t c_3 hf
    exact hj_22 _ _ _ hf hC (lv_sub hl [] rfl)
  · have hf := it_f c_3 hf
    refine lv_aload_n hx hb dX3_ends_11 rfl (lv_at hl 0 rfl) ?_
    refine gt_X3_9_draft hx hb hta hown hK hC dX3_ends_12 ?_
    refine lv_iload_n hx hb dX3_ends_15 rfl (lv_at hl 1 rfl) ?_
    obtain ⟨hi_4, hf⟩ := ix_inv hf
    obtain ⟨v_4, e_4, hf⟩ := lt_inv hf
    refine al_X_11 hx hb hK hC hi_4 e_4 dX3_ends_16 ?_
    refine lv_bipush (v := 114) hx hb dX3_ends_17 (by decide) ?_
    refine lv_icmp_ne (tgt := 26) hx hb dX3_ends_19 (by decide) (fun c_5 => ?_) (fun c_5 => ?_)
    · have hf := it_f c_5 hf
      refine lv_iconst (v := 0) hx hb dX3_ends_26 (by decide) ?_
      exact hret _ _ _ _ _ _ (Option.some.inj hf) rfl rfl dX3_ends_27 hC
    · have hf := it_t c_5 hf
      exact hj_22 _ _ _ hf hC (lv_sub hl [] rfl)

set_option maxHeartbeats 8000000 in
set_option maxRecDepth 100000 in
theorem r_X3_goesOn_draft {D : va_G} {y : Nat → ClassId} {o : Nat → Nat} {ad av : Nat → Nat} {x1 : Int32} {σ : Sto} {v : Int32} (hf : f_X3_goesOn_draft x1 σ = some v) (l : Launch) (sz : Nat) : Met l yX3_goesOn (Cond.code yX3_goesOn cX3_goesOn 2 (some .boolean) :: ALW) { frames := 1, cells := 0, slots := 0, locals := 21 } (va_Pc [.ref (o 10), .int x1] (PZ D y ad av (WX y o σ) sz)) (QZi D (WX y o σ) v (WX y o σ) sz) 0 0 (va_A (WX y o σ) sz) := by
  refine met_i (by decide) (Nat.le_of_ble_eq_true rfl) ?_
  intro p e R s m args below meth c Q A ls hx hb hml hta hown hRc hRs hRf hRl hN hK hV hA hret hC hl
  have hl : lv_has ls 2 [(0, .ref (o 10)), (1, .int x1)] := hl
  unfold f_X3_goesOn_draft at hf
  refine lv_aload_n hx hb dX3_goesOn_0 rfl (lv_at hl 0 rfl) ?_
  refine gt_X3_9_draft hx hb hta hown hK hC dX3_goesOn_1 ?_
  refine lv_iload_n hx hb dX3_goesOn_4 rfl (lv_at hl 1 rfl) ?_
  obtain ⟨hi_1, hf⟩ := ix_inv hf
  obtain ⟨v_1, e_1, hf⟩ := lt_inv hf
  refine al_X_11 hx hb hK hC hi_1 e_1 dX3_goesOn_5 ?_
  refine lv_bipush (v := 103) hx hb dX3_goesOn_6 (by decide) ?_
  obtain ⟨k_23, hk_23, hf⟩ := jn_inv0 hf
  have hj_23 : ∀  (H : Heap) (locs : List Loc) (ls : Array Slot), k_23 = some v → CZ D A s H locs (WX y o σ) → lv_has ls 2 [] → W p l e R s m args below meth c H locs 0 0 Q (F0 m 23 ls []) := by
    intro H locs ls hf hC hl
    have hf := hk_23 hf
    refine lv_iconst (v := 0) hx hb dX3_goesOn_23 (by decide) ?_
    exact hret _ _ _ _ _ _ (Option.some.inj hf) rfl rfl dX3_goesOn_24 hC
  refine lv_icmp_eq (tgt := 23) hx hb dX3_goesOn_8 (by decide) (fun c_3 => ?_) (fun c_3 => ?_)
  · have hf := it_t c_3 hf
    exact hj_23 _ _ _ hf hC (lv_sub hl [] rfl)
  · have hf := it_f c_3 hf
    refine lv_aload_n hx hb dX3_goesOn_11 rfl (lv_at hl 0 rfl) ?_
    refine lv_iload_n hx hb dX3_goesOn_12 rfl (lv_at hl 1 rfl) ?_
    obtain ⟨v_4, hc_4, hf⟩ := calp_inv hf
    refine cc_Vi (r_X3_ends_draft (D := D) (y := y) (o := o) (ad := ad) (av := av) hc_4 l) hx hb hml hta hown hK hN hV hA hC hRc hRs (by omega) (by omega) wq_32 (q := 10) (ci := 3) rfl rfl wq_29 wq_30 wq_27 wq_15 hd_X3_ends (As := [.int x1]) (rest := []) rfl rfl hl.1 rfl dX3_goesOn_13 (fun H locs hC => ?_)
    refine lv_if_ne (tgt := 23) hx hb dX3_goesOn_16 (by decide) (fun c_5 => ?_) (fun c_5 => ?_)
    · have hf := it_f c_5 hf
      exact hj_23 _ _ _ hf hC (lv_sub hl [] rfl)
    · have hf := it_t c_5 hf
      refine lv_iconst (v := 1) hx hb dX3_goesOn_19 (by decide) ?_
      refine lv_goto (tgt := 24) hx hb dX3_goesOn_20 (by decide) ?_
      exact hret _ _ _ _ _ _ (Option.some.inj hf) rfl rfl dX3_goesOn_24 hC

set_option maxHeartbeats 8000000 in
set_option maxRecDepth 100000 in
theorem r_X3_canThrow_draft {D : va_G} {y : Nat → ClassId} {o : Nat → Nat} {ad av : Nat → Nat} {x1 : Int32} {σ : Sto} {v : Int32} (hf : f_X3_canThrow_draft x1 σ = some v) (l : Launch) (sz : Nat) : Met l yX3_canThrow (Cond.code yX3_canThrow cX3_canThrow 2 (some .boolean) :: ALW) { frames := 0, cells := 0, slots := 0, locals := 0 } (va_Pc [.ref (o 10), .int x1] (PZ D y ad av (WX y o σ) sz)) (QZi D (WX y o σ) v (WX y o σ) sz) 0 0 (va_A (WX y o σ) sz) := by
  refine met_i (by decide) (Nat.le_of_ble_eq_true rfl) ?_
  intro p e R s m args below meth c Q A ls hx hb hml hta hown hRc hRs hRf hRl hN hK hV hA hret hC hl
  have hl : lv_has ls 2 [(0, .ref (o 10)), (1, .int x1)] := hl
  unfold f_X3_canThrow_draft at hf
  refine lv_aload_n hx hb dX3_canThrow_0 rfl (lv_at hl 0 rfl) ?_
  refine gt_X3_9_draft hx hb hta hown hK hC dX3_canThrow_1 ?_
  refine lv_iload_n hx hb dX3_canThrow_4 rfl (lv_at hl 1 rfl) ?_
  obtain ⟨hi_1, hf⟩ := ix_inv hf
  obtain ⟨v_1, e_1, hf⟩ := lt_inv hf
  refine al_X_11 hx hb hK hC hi_1 e_1 dX3_canThrow_5 ?_
  refine lv_bipush (v := 47) hx hb dX3_canThrow_6 (by decide) ?_
  obtain ⟨k_33, hk_33, hf⟩ := jn_inv0 hf
  have hj_33 : ∀  (H : Heap) (locs : List Loc) (ls : Array Slot), k_33 = some v → CZ D A s H locs (WX y o σ) → lv_has ls 2 [] → W p l e R s m args below meth c H locs 0 0 Q (F0 m 33 ls []) := by
    intro H locs ls hf hC hl
    have hf := hk_33 hf
    refine lv_iconst (v := 1) hx hb dX3_canThrow_33 (by decide) ?_
    refine lv_goto (tgt := 38) hx hb dX3_canThrow_34 (by decide) ?_
    exact hret _ _ _ _ _ _ (Option.some.inj hf) rfl rfl dX3_canThrow_38 hC
  refine lv_icmp_eq (tgt := 33) hx hb dX3_canThrow_8 (by decide) (fun c_3 => ?_) (fun c_3 => ?_)
  · have hf := it_t c_3 hf
    exact hj_33 _ _ _ hf hC (lv_sub hl [] rfl)
  · have hf := it_f c_3 hf
    refine lv_aload_n hx hb dX3_canThrow_11 rfl (lv_at hl 0 rfl) ?_
    refine gt_X3_9_draft hx hb hta hown hK hC dX3_canThrow_12 ?_
    refine lv_iload_n hx hb dX3_canThrow_15 rfl (lv_at hl 1 rfl) ?_
    obtain ⟨hi_4, hf⟩ := ix_inv hf
    obtain ⟨v_4, e_4, hf⟩ := lt_inv hf
    refine al_X_11 hx hb hK hC hi_4 e_4 dX3_canThrow_16 ?_
    refine lv_bipush (v := 37) hx hb dX3_canThrow_17 (by decide) ?_
    refine lv_icmp_eq (tgt := 33) hx hb dX3_canThrow_19 (by decide) (fun c_5 => ?_) (fun c_5 => ?_)
    · have hf := it_t c_5 hf
      exact hj_33 _ _ _ hf hC (lv_sub hl [] rfl)
    · have hf := it_f c_5 hf
      refine lv_aload_n hx hb dX3_canThrow_22 rfl (lv_at hl 0 rfl) ?_
      refine gt_X3_9_draft hx hb hta hown hK hC dX3_canThrow_23 ?_
      refine lv_iload_n hx hb dX3_canThrow_26 rfl (lv_at hl 1 rfl) ?_
      obtain ⟨hi_6, hf⟩ := ix_inv hf
      obtain ⟨v_6, e_6, hf⟩ := lt_inv hf
      refine al_X_11 hx hb hK hC hi_6 e_6 dX3_canThrow_27 ?_
      refine lv_bipush (v := 116) hx hb dX3_canThrow_28 (by decide) ?_
      refine lv_icmp_ne (tgt := 37) hx hb dX3_canThrow_30 (by decide) (fun c_7 => ?_) (fun c_7 => ?_)
      · have hf := it_f c_7 hf
        refine lv_iconst (v := 0) hx hb dX3_canThrow_37 (by decide) ?_
        exact hret _ _ _ _ _ _ (Option.some.inj hf) rfl rfl dX3_canThrow_38 hC
      · have hf := it_t c_7 hf
        exact hj_33 _ _ _ hf hC (lv_sub hl [] rfl)

set_option maxHeartbeats 8000000 in
set_option maxRecDepth 100000 in
theorem r_X3_arrive_draft {D : va_G} {y : Nat → ClassId} {o : Nat → Nat} {ad av : Nat → Nat} {x1 : Int32} {x2 : Int32} {σ : Sto} {σ2 : Sto} {v : Int32} (hf : f_X3_arrive_draft x1 x2 σ = some (v, σ2)) (l : Launch) (sz : Nat) : Met l yX3_arrive (Cond.code yX3_arrive cX3_arrive 3 (some .boolean) :: ALW) { frames := 0, cells := 0, slots := 0, locals := 0 } (va_Pc [.ref (o 10), .int x1, .int x2] (PZ D y ad av (WX y o σ) sz)) (QZi D (WX y o σ) v (WX y o σ2) sz) 0 0 (va_A (WX y o σ) sz) := by
  refine met_i (by decide) (Nat.le_of_ble_eq_true rfl) ?_
  intro p e R s m args below meth c Q A ls hx hb hml hta hown hRc hRs hRf hRl hN hK hV hA hret hC hl
  have hl : lv_has ls 3 [(0, .ref (o 10)), (1, .int x1), (2, .int x2)] := hl
  unfold f_X3_arrive_draft at hf
  refine lv_aload_n hx hb dX3_arrive_0 rfl (lv_at hl 0 rfl) ?_
  refine gt_X3_18_draft hx hb hta hown hK hC dX3_arrive_1 ?_
  refine lv_iload_n hx hb dX3_arrive_4 rfl (lv_at hl 1 rfl) ?_
  obtain ⟨hi_1, hf⟩ := ix_inv hf
  obtain ⟨v_1, e_1, hf⟩ := lt_inv hf
  refine al_X_13 hx hb hK hC hi_1 e_1 dX3_arrive_5 ?_
  refine lv_iconst (v := (-1)) hx hb dX3_arrive_6 (by decide) ?_
  obtain ⟨k_17, hk_17, hf⟩ := jn_inv1 hf
  have hj_17 : ∀ (s_2 : Sto) (H : Heap) (locs : List Loc) (ls : Array Slot), k_17 s_2 = some (v, σ2) → CZ D A s H locs (WX y o s_2) → lv_has ls 3 [(0, .ref (o 10)), (1, .int x1), (2, .int x2)] → W p l e R s m args below meth c H locs 0 0 Q (F0 m 17 ls []) := by
    intro s_2 H locs ls hf hC hl
    have hf := hk_17 _ hf
    refine lv_aload_n hx hb dX3_arrive_17 rfl (lv_at hl 0 rfl) ?_
    refine gt_X3_18_draft hx hb hta hown hK hC dX3_arrive_18 ?_
    refine lv_iload_n hx hb dX3_arrive_21 rfl (lv_at hl 1 rfl) ?_
    obtain ⟨hi_3, hf⟩ := ix_inv hf
    obtain ⟨v_3, e_3, hf⟩ := lt_inv hf
    refine al_X_13 hx hb hK hC hi_3 e_3 dX3_arrive_22 ?_
    refine lv_iload_n hx hb dX3_arrive_23 rfl (lv_at hl 2 rfl) ?_
    refine lv_icmp_ne (tgt := 31) hx hb dX3_arrive_24 (by decide) (fun c_4 => ?_) (fun c_4 => ?_)
    · have hf := it_f c_4 hf
      refine lv_iconst (v := 0) hx hb dX3_arrive_31 (by decide) ?_
      exact hret _ _ _ _ _ _ (rv_inv hf).1 (congrArg (WX y o) (rv_inv hf).2) rfl dX3_arrive_32 hC
    · have hf := it_t c_4 hf
      refine lv_iconst (v := 1) hx hb dX3_arrive_27 (by decide) ?_
      refine lv_goto (tgt := 32) hx hb dX3_arrive_28 (by decide) ?_
      exact hret _ _ _ _ _ _ (rv_inv hf).1 (congrArg (WX y o) (rv_inv hf).2) rfl dX3_arrive_32 hC
  refine lv_icmp_ne (tgt := 17) hx hb dX3_arrive_7 (by decide) (fun c_5 => ?_) (fun c_5 => ?_)
  · have hf := it_f c_5 hf
    exact hj_17 _ _ _ _ hf hC hl
  · have hf := it_t c_5 hf
    refine lv_aload_n hx hb dX3_arrive_10 rfl (lv_at hl 0 rfl) ?_
    refine gt_X3_18_draft hx hb hta hown hK hC dX3_arrive_11 ?_
    refine lv_iload_n hx hb dX3_arrive_14 rfl (lv_at hl 1 rfl) ?_
    refine lv_iload_n hx hb dX3_arrive_15 rfl (lv_at hl 2 rfl) ?_
    obtain ⟨hi_6, hf⟩ := ix_inv hf
    obtain ⟨s_6, e_6, hf⟩ := lt_inv hf
    refine as_X_13 hx hb hK hC hi_6 e_6 dX3_arrive_16 (fun H locs hC => ?_)
    exact hj_17 _ _ _ _ hf hC hl

set_option maxHeartbeats 8000000 in
set_option maxRecDepth 100000 in
theorem r_X3_handlerOf_draft {D : va_G} {y : Nat → ClassId} {o : Nat → Nat} {ad av : Nat → Nat} {x1 : Int32} {σ : Sto} {v : Int32} (hf : f_X3_handlerOf_draft x1 σ = some v) (l : Launch) (sz : Nat) : Met l yX3_handlerOf (Cond.code yX3_handlerOf cX3_handlerOf 3 (some .int) :: ALW) { frames := 0, cells := 0, slots := 0, locals := 0 } (va_Pc [.ref (o 10), .int x1] (PZ D y ad av (WX y o σ) sz)) (QZi D (WX y o σ) v (WX y o σ) sz) 0 0 (va_A (WX y o σ) sz) := by
  refine met_i (by decide) (Nat.le_of_ble_eq_true rfl) ?_
  intro p e R s m args below meth c Q A ls hx hb hml hta hown hRc hRs hRf hRl hN hK hV hA hret hC hl
  have hl : lv_has ls 3 [(0, .ref (o 10)), (1, .int x1)] := hl
  unfold f_X3_handlerOf_draft at hf
  refine lv_iconst (v := 0) hx hb dX3_handlerOf_0 (by decide) ?_
  refine lv_istore_n (lv' := [(2, .int 0), (0, .ref (o 10)), (1, .int x1)]) hx hb dX3_handlerOf_1 rfl hl (by decide) rfl (fun ls hl => ?_)
  refine itr_inv1 (P := fun (x2_1 : Int32) => ∀ (H : Heap) (locs : List Loc) (ls : Array Slot), CZ D A s H locs (WX y o σ) → lv_has ls 3 [(0, .ref (o 10)), (1, .int x1), (2, .int x2_1)] → W p l e R s m args below meth c H locs 0 0 Q (F0 m 2 ls [])) hf ?_ _ _ _ hC (lv_sub hl [1, 2, 0] rfl)
  intro a_2 x2_1 ha_2 hf H locs ls hC hl
  refine lv_iload_n hx hb dX3_handlerOf_2 rfl (lv_at hl 2 rfl) ?_
  refine lv_aload_n hx hb dX3_handlerOf_3 rfl (lv_at hl 0 rfl) ?_
  refine gt_X3_34_draft hx hb hta hown hK hC dX3_handlerOf_4 ?_
  refine lv_icmp_ge (tgt := 38) hx hb dX3_handlerOf_7 (by decide) (fun c_2 => ?_) (fun c_2 => ?_)
  · have hf := it_t c_2 hf
    refine lv_iconst (v := (-1)) hx hb dX3_handlerOf_38 (by decide) ?_
    exact hret _ _ _ _ _ _ (Option.some.inj hf) rfl rfl dX3_handlerOf_39 hC
  · have hf := it_f c_2 hf
    refine lv_aload_n hx hb dX3_handlerOf_10 rfl (lv_at hl 0 rfl) ?_
    refine gt_X3_21_draft hx hb hta hown hK hC dX3_handlerOf_11 ?_
    refine lv_iload_n hx hb dX3_handlerOf_14 rfl (lv_at hl 2 rfl) ?_
    obtain ⟨hi_3, hf⟩ := ix_inv hf
    obtain ⟨v_3, e_3, hf⟩ := lt_inv hf
    refine al_X_14 hx hb hK hC hi_3 e_3 dX3_handlerOf_15 ?_
    refine lv_iload_n hx hb dX3_handlerOf_16 rfl (lv_at hl 1 rfl) ?_
    obtain ⟨k_32, hk_32, hf⟩ := jn_inv0 hf
    have hj_32 : ∀  (H : Heap) (locs : List Loc) (ls : Array Slot), k_32 = some v → CZ D A s H locs (WX y o σ) → lv_has ls 3 [(0, .ref (o 10)), (1, .int x1), (2, .int x2_1)] → W p l e R s m args below meth c H locs 0 0 Q (F0 m 32 ls []) := by
      intro H locs ls hf hC hl
      have hf := hk_32 hf
      obtain ⟨x2_5, e_5, hf⟩ := lt_inv hf
      refine lv_iinc (v := x2_5) (lv' := [(2, .int x2_5), (0, .ref (o 10)), (1, .int x1)]) hx hb dX3_handlerOf_32 hl (k := 2) rfl e_5.symm (by decide) rfl (fun ls hl => ?_)
      refine lv_goto (tgt := 2) hx hb dX3_handlerOf_35 (by decide) ?_
      exact ha_2 _ hf _ _ _ hC (lv_sub hl [1, 2, 0] rfl)
    refine lv_icmp_gt (tgt := 32) hx hb dX3_handlerOf_17 (by decide) (fun c_6 => ?_) (fun c_6 => ?_)
    · have hf := it_t c_6 hf
      exact hj_32 _ _ _ hf hC hl
    · have hf := it_f c_6 hf
      refine lv_iload_n hx hb dX3_handlerOf_20 rfl (lv_at hl 1 rfl) ?_
      refine lv_aload_n hx hb dX3_handlerOf_21 rfl (lv_at hl 0 rfl) ?_
      refine gt_X3_24_draft hx hb hta hown hK hC dX3_handlerOf_22 ?_
      refine lv_iload_n hx hb dX3_handlerOf_25 rfl (lv_at hl 2 rfl) ?_
      obtain ⟨hi_7, hf⟩ := ix_inv hf
      obtain ⟨v_7, e_7, hf⟩ := lt_inv hf
      refine al_X_15 hx hb hK hC hi_7 e_7 dX3_handlerOf_26 ?_
      refine lv_icmp_ge (tgt := 32) hx hb dX3_handlerOf_27 (by decide) (fun c_8 => ?_) (fun c_8 => ?_)
      · have hf := it_t c_8 hf
        exact hj_32 _ _ _ hf hC hl
      · have hf := it_f c_8 hf
        refine lv_iload_n hx hb dX3_handlerOf_30 rfl (lv_at hl 2 rfl) ?_
        exact hret _ _ _ _ _ _ (Option.some.inj hf) rfl rfl dX3_handlerOf_31 hC

set_option maxHeartbeats 8000000 in
set_option maxRecDepth 100000 in
theorem r_X3_goOver_draft {D : va_G} {y : Nat → ClassId} {o : Nat → Nat} {ad av : Nat → Nat} {x1 : Int32} {σ : Sto} {σ2 : Sto} {v : Int32} (hf : f_X3_goOver_draft x1 σ = some (v, σ2)) (l : Launch) (sz : Nat) : Met l yX3_goOver (Cond.code yX3_goOver cX3_goOver 4 (some .int) :: ALW) { frames := 3, cells := 0, slots := 0, locals := 61 } (va_Pc [.ref (o 10), .int x1] (PZ D y ad av (WX y o σ) sz)) (QZi D (WX y o σ) v (WX y o σ2) sz) 0 0 (va_A (WX y o σ) sz) := by
  refine met_i (by decide) (Nat.le_of_ble_eq_true rfl) ?_
  intro p e R s m args below meth c Q A ls hx hb hml hta hown hRc hRs hRf hRl hN hK hV hA hret hC hl
  have hl : lv_has ls 4 [(0, .ref (o 10)), (1, .int x1)] := hl
  unfold f_X3_goOver_draft at hf
  refine lv_aload_n hx hb dX3_goOver_0 rfl (lv_at hl 0 rfl) ?_
  refine gt_X3_18_draft hx hb hta hown hK hC dX3_goOver_1 ?_
  refine lv_iload_n hx hb dX3_goOver_4 rfl (lv_at hl 1 rfl) ?_
  obtain ⟨hi_1, hf⟩ := ix_inv hf
  obtain ⟨v_1, e_1, hf⟩ := lt_inv hf
  refine al_X_13 hx hb hK hC hi_1 e_1 dX3_goOver_5 ?_
  refine lv_aload_n hx hb dX3_goOver_6 rfl (lv_at hl 0 rfl) ?_
  refine gt_X3_9_draft hx hb hta hown hK hC dX3_goOver_7 ?_
  refine lv_iload_n hx hb dX3_goOver_10 rfl (lv_at hl 1 rfl) ?_
  obtain ⟨hi_2, hf⟩ := ix_inv hf
  obtain ⟨v_2, e_2, hf⟩ := lt_inv hf
  refine al_X_11 hx hb hK hC hi_2 e_2 dX3_goOver_11 ?_
  obtain ⟨v_3, hc_3, hf⟩ := calp_inv hf
  refine cc_Si (r_X3_needs (D := D) (y := y) (w := WX y o σ) (ad := ad) (av := av) hc_3 l) hx hb hml hta hown hK hN hV hA hC hRc hRs (by omega) (by omega) wq_71 wq_72 wq_27 wq_66 hd_X3_needs (As := [.int v_2]) (rest := [.int v_1]) rfl rfl hl.1 rfl dX3_goOver_12 (fun H locs hC => ?_)
  refine lv_icmp_ge (tgt := 21) hx hb dX3_goOver_15 (by decide) (fun c_4 => ?_) (fun c_4 => ?_)
  · have hf := it_t c_4 hf
    refine lv_aload_n hx hb dX3_goOver_21 rfl (lv_at hl 0 rfl) ?_
    refine lv_iload_n hx hb dX3_goOver_22 rfl (lv_at hl 1 rfl) ?_
    obtain ⟨v_5, hc_5, hf⟩ := calp_inv hf
    refine cc_Vi (r_X3_depthBehind_draft (D := D) (y := y) (o := o) (ad := ad) (av := av) hc_5 l) hx hb hml hta hown hK hN hV hA hC hRc hRs (by omega) (by omega) wq_318 (q := 10) (ci := 3) rfl rfl wq_88 wq_89 wq_27 wq_69 hd_X3_depthBehind (As := [.int x1]) (rest := []) rfl rfl hl.1 rfl dX3_goOver_23 (fun H locs hC => ?_)
    refine lv_istore_n (lv' := [(2, .int v_5), (0, .ref (o 10)), (1, .int x1)]) hx hb dX3_goOver_26 rfl hl (by decide) rfl (fun ls hl => ?_)
    refine lv_iload_n hx hb dX3_goOver_27 rfl (lv_at hl 0 rfl) ?_
    refine lv_bipush (v := 6) hx hb dX3_goOver_28 (by decide) ?_
    refine lv_icmp_le (tgt := 36) hx hb dX3_goOver_30 (by decide) (fun c_6 => ?_) (fun c_6 => ?_)
    · have hf := it_t c_6 hf
      refine lv_aload_n hx hb dX3_goOver_36 rfl (lv_at hl 1 rfl) ?_
      refine lv_iload_n hx hb dX3_goOver_37 rfl (lv_at hl 2 rfl) ?_
      obtain ⟨v_7, hc_7, hf⟩ := calp_inv hf
      refine cc_Vi (r_X3_goesOn_draft (D := D) (y := y) (o := o) (ad := ad) (av := av) hc_7 l) hx hb hml hta hown hK hN hV hA hC hRc hRs (by omega) (by omega) wq_319 (q := 10) (ci := 3) rfl rfl wq_56 wq_57 wq_27 wq_31 hd_X3_goesOn (As := [.int x1]) (rest := []) rfl rfl hl.1 rfl dX3_goOver_38 (fun H locs hC => ?_)
      obtain ⟨k_71, hk_71, hf⟩ := jn_inv1 hf
      have hj_71 : ∀ (s_8 : Sto) (H : Heap) (locs : List Loc) (ls : Array Slot), k_71 s_8 = some (v, σ2) → CZ D A s H locs (WX y o s_8) → lv_has ls 4 [(0, .ref (o 10)), (1, .int x1), (2, .int v_5)] → W p l e R s m args below meth c H locs 0 0 Q (F0 m 71 ls []) := by
        intro s_8 H locs ls hf hC hl
        have hf := hk_71 _ hf
        refine lv_aload_n hx hb dX3_goOver_71 rfl (lv_at hl 0 rfl) ?_
        refine lv_iload_n hx hb dX3_goOver_72 rfl (lv_at hl 1 rfl) ?_
        obtain ⟨v_9, hc_9, hf⟩ := calp_inv hf
        refine cc_Vi (r_X3_goesElsewhere_draft (D := D) (y := y) (o := o) (ad := ad) (av := av) hc_9 l) hx hb hml hta hown hK hN hV hA hC hRc hRs (by omega) (by omega) wq_315 (q := 10) (ci := 3) rfl rfl wq_25 wq_26 wq_27 wq_13 hd_X3_goesElsewhere (As := [.int x1]) (rest := []) rfl rfl hl.1 rfl dX3_goOver_73 (fun H locs hC => ?_)
        obtain ⟨k_96, hk_96, hf⟩ := jn_inv1 hf
        have hj_96 : ∀ (s_10 : Sto) (H : Heap) (locs : List Loc) (ls : Array Slot), k_96 s_10 = some (v, σ2) → CZ D A s H locs (WX y o s_10) → lv_has ls 4 [(0, .ref (o 10)), (1, .int x1)] → W p l e R s m args below meth c H locs 0 0 Q (F0 m 96 ls []) := by
          intro s_10 H locs ls hf hC hl
          have hf := hk_96 _ hf
          refine lv_aload_n hx hb dX3_goOver_96 rfl (lv_at hl 0 rfl) ?_
          refine lv_iload_n hx hb dX3_goOver_97 rfl (lv_at hl 1 rfl) ?_
          obtain ⟨v_11, hc_11, hf⟩ := calp_inv hf
          refine cc_Vi (r_X3_canThrow_draft (D := D) (y := y) (o := o) (ad := ad) (av := av) hc_11 l) hx hb hml hta hown hK hN hV hA hC hRc hRs (by omega) (by omega) wq_323 (q := 10) (ci := 3) rfl rfl wq_50 wq_51 wq_27 wq_43 hd_X3_canThrow (As := [.int x1]) (rest := []) rfl rfl hl.1 rfl dX3_goOver_98 (fun H locs hC => ?_)
          obtain ⟨k_113, hk_113, hf⟩ := jn_inv1 hf
          have hj_113 : ∀ (t0_12 : Int32) (H : Heap) (locs : List Loc) (ls : Array Slot), k_113 t0_12 = some (v, σ2) → CZ D A s H locs (WX y o s_10) → lv_has ls 4 [(0, .ref (o 10))] → W p l e R s m args below meth c H locs 0 0 Q (F0 m 113 ls [.int t0_12]) := by
            intro t0_12 H locs ls hf hC hl
            have hf := hk_113 _ hf
            refine lv_istore_n (lv' := [(3, .int t0_12), (0, .ref (o 10))]) hx hb dX3_goOver_113 rfl hl (by decide) rfl (fun ls hl => ?_)
            refine lv_iload_n hx hb dX3_goOver_114 rfl (lv_at hl 0 rfl) ?_
            refine lv_iconst (v := (-1)) hx hb dX3_goOver_115 (by decide) ?_
            obtain ⟨k_133, hk_133, hf⟩ := jn_inv1 hf
            have hj_133 : ∀ (s_13 : Sto) (H : Heap) (locs : List Loc) (ls : Array Slot), k_133 s_13 = some (v, σ2) → CZ D A s H locs (WX y o s_13) → lv_has ls 4 [] → W p l e R s m args below meth c H locs 0 0 Q (F0 m 133 ls []) := by
              intro s_13 H locs ls hf hC hl
              have hf := hk_133 _ hf
              refine lv_iconst (v := 0) hx hb dX3_goOver_133 (by decide) ?_
              refine lv_goto (tgt := 139) hx hb dX3_goOver_134 (by decide) ?_
              exact hret _ _ _ _ _ _ (rv_inv hf).1 (congrArg (WX y o) (rv_inv hf).2) rfl dX3_goOver_139 hC
            refine lv_icmp_eq (tgt := 133) hx hb dX3_goOver_116 (by decide) (fun c_14 => ?_) (fun c_14 => ?_)
            · have hf := it_t c_14 hf
              exact hj_133 _ _ _ _ hf hC (lv_sub hl [] rfl)
            · have hf := it_f c_14 hf
              refine lv_aload_n hx hb dX3_goOver_119 rfl (lv_at hl 1 rfl) ?_
              refine lv_aload_n hx hb dX3_goOver_120 rfl (lv_at hl 1 rfl) ?_
              refine gt_X3_27_draft hx hb hta hown hK hC dX3_goOver_121 ?_
              refine lv_iload_n hx hb dX3_goOver_124 rfl (lv_at hl 0 rfl) ?_
              obtain ⟨hi_15, hf⟩ := ix_inv hf
              obtain ⟨v_15, e_15, hf⟩ := lt_inv hf
              refine al_X_16 hx hb hK hC hi_15 e_15 dX3_goOver_125 ?_
              refine lv_iconst (v := 1) hx hb dX3_goOver_126 (by decide) ?_
              obtain ⟨v_16, s_16, hc_16, hf⟩ := calv_inv hf
              refine cc_Vi (r_X3_arrive_draft (D := D) (y := y) (o := o) (ad := ad) (av := av) hc_16 l) hx hb hml hta hown hK hN hV hA hC hRc hRs (by omega) (by omega) wq_320 (q := 10) (ci := 3) rfl rfl wq_321 wq_322 wq_27 wq_317 hd_X3_arrive (As := [.int v_15, .int 1]) (rest := []) rfl rfl hl.1 rfl dX3_goOver_127 (fun H locs hC => ?_)
              refine lv_if_eq (tgt := 137) hx hb dX3_goOver_130 (by decide) (fun c_17 => ?_) (fun c_17 => ?_)
              · have hf := it_t c_17 hf
                refine lv_bipush (v := (-6)) hx hb dX3_goOver_137 (by decide) ?_
                exact hret _ _ _ _ _ _ (rv_inv hf).1 (congrArg (WX y o) (rv_inv hf).2) rfl dX3_goOver_139 hC
              · have hf := it_f c_17 hf
                exact hj_133 _ _ _ _ hf hC (lv_sub hl [] rfl)
          refine lv_if_eq (tgt := 112) hx hb dX3_goOver_101 (by decide) (fun c_18 => ?_) (fun c_18 => ?_)
          · have hf := it_t c_18 hf
            refine lv_iconst (v := (-1)) hx hb dX3_goOver_112 (by decide) ?_
            exact hj_113 _ _ _ _ hf hC (lv_sub hl [0] rfl)
          · have hf := it_f c_18 hf
            refine lv_aload_n hx hb dX3_goOver_104 rfl (lv_at hl 0 rfl) ?_
            refine lv_iload_n hx hb dX3_goOver_105 rfl (lv_at hl 1 rfl) ?_
            obtain ⟨v_19, hc_19, hf⟩ := calp_inv hf
            refine cc_Vi (r_X3_handlerOf_draft (D := D) (y := y) (o := o) (ad := ad) (av := av) hc_19 l) hx hb hml hta hown hK hN hV hA hC hRc hRs (by omega) (by omega) wq_324 (q := 10) (ci := 3) rfl rfl wq_53 wq_54 wq_27 wq_44 hd_X3_handlerOf (As := [.int x1]) (rest := []) rfl rfl hl.1 rfl dX3_goOver_106 (fun H locs hC => ?_)
            refine lv_goto (tgt := 113) hx hb dX3_goOver_109 (by decide) ?_
            exact hj_113 _ _ _ _ hf hC (lv_sub hl [0] rfl)
        refine lv_if_eq (tgt := 96) hx hb dX3_goOver_76 (by decide) (fun c_20 => ?_) (fun c_20 => ?_)
        · have hf := it_t c_20 hf
          exact hj_96 _ _ _ _ hf hC (lv_sub hl [0, 1] rfl)
        · have hf := it_f c_20 hf
          refine lv_aload_n hx hb dX3_goOver_79 rfl (lv_at hl 0 rfl) ?_
          refine lv_aload_n hx hb dX3_goOver_80 rfl (lv_at hl 0 rfl) ?_
          refine gt_X3_15_draft hx hb hta hown hK hC dX3_goOver_81 ?_
          refine lv_iload_n hx hb dX3_goOver_84 rfl (lv_at hl 1 rfl) ?_
          obtain ⟨hi_21, hf⟩ := ix_inv hf
          obtain ⟨v_21, e_21, hf⟩ := lt_inv hf
          refine al_X_12 hx hb hK hC hi_21 e_21 dX3_goOver_85 ?_
          refine lv_iload_n hx hb dX3_goOver_86 rfl (lv_at hl 2 rfl) ?_
          obtain ⟨v_22, s_22, hc_22, hf⟩ := calv_inv hf
          refine cc_Vi (r_X3_arrive_draft (D := D) (y := y) (o := o) (ad := ad) (av := av) hc_22 l) hx hb hml hta hown hK hN hV hA hC hRc hRs (by omega) (by omega) wq_320 (q := 10) (ci := 3) rfl rfl wq_321 wq_322 wq_27 wq_317 hd_X3_arrive (As := [.int v_21, .int v_5]) (rest := []) rfl rfl hl.1 rfl dX3_goOver_87 (fun H locs hC => ?_)
          refine lv_if_ne (tgt := 96) hx hb dX3_goOver_90 (by decide) (fun c_23 => ?_) (fun c_23 => ?_)
          · have hf := it_f c_23 hf
            exact hj_96 _ _ _ _ hf hC (lv_sub hl [0, 1] rfl)
          · have hf := it_t c_23 hf
            refine lv_bipush (v := (-6)) hx hb dX3_goOver_93 (by decide) ?_
            exact hret _ _ _ _ _ _ (rv_inv hf).1 (congrArg (WX y o) (rv_inv hf).2) rfl dX3_goOver_95 hC
      refine lv_if_eq (tgt := 71) hx hb dX3_goOver_41 (by decide) (fun c_24 => ?_) (fun c_24 => ?_)
      · have hf := it_t c_24 hf
        exact hj_71 _ _ _ _ hf hC (lv_sub hl [1, 2, 0] rfl)
      · have hf := it_f c_24 hf
        refine lv_iload_n hx hb dX3_goOver_44 rfl (lv_at hl 2 rfl) ?_
        refine lv_iconst (v := 1) hx hb dX3_goOver_45 (by decide) ?_
        refine lv_iadd hx hb dX3_goOver_46 ?_
        refine lv_aload_n hx hb dX3_goOver_47 rfl (lv_at hl 1 rfl) ?_
        refine gt_X3_30_draft hx hb hta hown hK hC dX3_goOver_48 ?_
        refine lv_icmp_lt (tgt := 57) hx hb dX3_goOver_51 (by decide) (fun c_25 => ?_) (fun c_25 => ?_)
        · have hf := it_t c_25 hf
          refine lv_aload_n hx hb dX3_goOver_57 rfl (lv_at hl 1 rfl) ?_
          refine lv_iload_n hx hb dX3_goOver_58 rfl (lv_at hl 2 rfl) ?_
          refine lv_iconst (v := 1) hx hb dX3_goOver_59 (by decide) ?_
          refine lv_iadd hx hb dX3_goOver_60 ?_
          refine lv_iload_n hx hb dX3_goOver_61 rfl (lv_at hl 0 rfl) ?_
          obtain ⟨v_26, s_26, hc_26, hf⟩ := calv_inv hf
          refine cc_Vi (r_X3_arrive_draft (D := D) (y := y) (o := o) (ad := ad) (av := av) hc_26 l) hx hb hml hta hown hK hN hV hA hC hRc hRs (by omega) (by omega) wq_320 (q := 10) (ci := 3) rfl rfl wq_321 wq_322 wq_27 wq_317 hd_X3_arrive (As := [.int (x1 + 1), .int v_5]) (rest := []) rfl rfl hl.1 rfl dX3_goOver_62 (fun H locs hC => ?_)
          refine lv_if_ne (tgt := 71) hx hb dX3_goOver_65 (by decide) (fun c_27 => ?_) (fun c_27 => ?_)
          · have hf := it_f c_27 hf
            exact hj_71 _ _ _ _ hf hC (lv_sub hl [1, 2, 0] rfl)
          · have hf := it_t c_27 hf
            refine lv_bipush (v := (-6)) hx hb dX3_goOver_68 (by decide) ?_
            exact hret _ _ _ _ _ _ (rv_inv hf).1 (congrArg (WX y o) (rv_inv hf).2) rfl dX3_goOver_70 hC
        · have hf := it_f c_25 hf
          refine lv_bipush (v := (-3)) hx hb dX3_goOver_54 (by decide) ?_
          exact hret _ _ _ _ _ _ (rv_inv hf).1 (congrArg (WX y o) (rv_inv hf).2) rfl dX3_goOver_56 hC
    · have hf := it_f c_6 hf
      refine lv_bipush (v := (-5)) hx hb dX3_goOver_33 (by decide) ?_
      exact hret _ _ _ _ _ _ (rv_inv hf).1 (congrArg (WX y o) (rv_inv hf).2) rfl dX3_goOver_35 hC
  · have hf := it_f c_4 hf
    refine lv_bipush (v := (-4)) hx hb dX3_goOver_18 (by decide) ?_
    exact hret _ _ _ _ _ _ (rv_inv hf).1 (congrArg (WX y o) (rv_inv hf).2) rfl dX3_goOver_20 hC

set_option maxHeartbeats 8000000 in
set_option maxRecDepth 100000 in
theorem r_X3_judge_draft {D : va_G} {y : Nat → ClassId} {o : Nat → Nat} {ad av : Nat → Nat} {σ : Sto} {σ2 : Sto} {v : Int32} (hf : f_X3_judge_draft σ = some (v, σ2)) (l : Launch) (sz : Nat) : Met l yX3_judge (Cond.code yX3_judge cX3_judge 6 (some .int) :: ALW) { frames := 4, cells := 0, slots := 0, locals := 84 } (va_Pc [.ref (o 10)] (PZ D y ad av (WX y o σ) sz)) (QZi D (WX y o σ) v (WX y o σ2) sz) 0 0 (va_A (WX y o σ) sz) := by
  refine met_i (by decide) (Nat.le_of_ble_eq_true rfl) ?_
  intro p e R s m args below meth c Q A ls hx hb hml hta hown hRc hRs hRf hRl hN hK hV hA hret hC hl
  have hl : lv_has ls 6 [(0, .ref (o 10))] := hl
  unfold f_X3_judge_draft at hf
  refine lv_aload_n hx hb dX3_judge_0 rfl (lv_at hl 0 rfl) ?_
  obtain ⟨v_1, hc_1, hf⟩ := calp_inv hf
  refine cc_Vi (r_X3_leadsInside_draft (D := D) (y := y) (o := o) (ad := ad) (av := av) hc_1 l) hx hb hml hta hown hK hN hV hA hC hRc hRs (by omega) (by omega) wq_326 (q := 10) (ci := 3) rfl rfl wq_327 wq_328 wq_27 wq_314 hd_X3_leadsInside (As := []) (rest := []) rfl rfl hl.1 rfl dX3_judge_1 (fun H locs hC => ?_)
  refine lv_if_ne (tgt := 10) hx hb dX3_judge_4 (by decide) (fun c_2 => ?_) (fun c_2 => ?_)
  · have hf := it_f c_2 hf
    refine lv_iconst (v := 0) hx hb dX3_judge_10 (by decide) ?_
    refine lv_istore_n (lv' := [(1, .int 0), (0, .ref (o 10))]) hx hb dX3_judge_11 rfl hl (by decide) rfl (fun ls hl => ?_)
    refine itr_inv2 (P := fun (x1_3 : Int32) (s_3 : Sto) => ∀ (H : Heap) (locs : List Loc) (ls : Array Slot), CZ D A s H locs (WX y o s_3) → lv_has ls 6 [(0, .ref (o 10)), (1, .int x1_3)] → W p l e R s m args below meth c H locs 0 0 Q (F0 m 12 ls [])) hf ?_ _ _ _ hC (lv_sub hl [1, 0] rfl)
    intro a_12 x1_3 s_3 ha_12 hf H locs ls hC hl
    refine lv_iload_n hx hb dX3_judge_12 rfl (lv_at hl 1 rfl) ?_
    refine lv_aload_n hx hb dX3_judge_13 rfl (lv_at hl 0 rfl) ?_
    refine gt_X3_30_draft hx hb hta hown hK hC dX3_judge_14 ?_
    refine lv_icmp_ge (tgt := 33) hx hb dX3_judge_17 (by decide) (fun c_4 => ?_) (fun c_4 => ?_)
    · have hf := it_t c_4 hf
      refine lv_aload_n hx hb dX3_judge_33 rfl (lv_at hl 0 rfl) ?_
      refine gt_X3_18_draft hx hb hta hown hK hC dX3_judge_34 ?_
      refine lv_iconst (v := 0) hx hb dX3_judge_37 (by decide) ?_
      refine lv_iconst (v := 0) hx hb dX3_judge_38 (by decide) ?_
      obtain ⟨hi_5, hf⟩ := ix_inv hf
      obtain ⟨s_5, e_5, hf⟩ := lt_inv hf
      refine as_X_13 hx hb hK hC hi_5 e_5 dX3_judge_39 (fun H locs hC => ?_)
      refine lv_lconst (v := 0) hx hb dX3_judge_40 rfl ?_
      refine lv_lstore_n (lv' := [(1, .long 0), (0, .ref (o 10))]) hx hb dX3_judge_41 rfl hl (by decide) rfl (fun ls hl => ?_)
      refine lv_iconst (v := 0) hx hb dX3_judge_42 (by decide) ?_
      refine lv_istore_n (lv' := [(3, .int 0), (1, .long 0), (0, .ref (o 10))]) hx hb dX3_judge_43 rfl hl (by decide) rfl (fun ls hl => ?_)
      refine itr_inv3 (P := fun (x1_6 : Int64) (x3_6 : Int32) (s_6 : Sto) => ∀ (H : Heap) (locs : List Loc) (ls : Array Slot), CZ D A s H locs (WX y o s_6) → lv_has ls 6 [(0, .ref (o 10)), (1, .long x1_6), (3, .int x3_6)] → W p l e R s m args below meth c H locs 0 0 Q (F0 m 44 ls [])) hf ?_ _ _ _ hC (lv_sub hl [2, 1, 0] rfl)
      intro a_44 x1_6 x3_6 s_6 ha_44 hf H locs ls hC hl
      refine lv_iload_n hx hb dX3_judge_44 rfl (lv_at hl 2 rfl) ?_
      refine lv_aload_n hx hb dX3_judge_45 rfl (lv_at hl 0 rfl) ?_
      refine gt_X3_30_draft hx hb hta hown hK hC dX3_judge_46 ?_
      refine lv_icmp_ge (tgt := 96) hx hb dX3_judge_49 (by decide) (fun c_7 => ?_) (fun c_7 => ?_)
      · have hf := it_t c_7 hf
        refine lv_iconst (v := 0) hx hb dX3_judge_96 (by decide) ?_
        exact hret _ _ _ _ _ _ (rv_inv hf).1 (congrArg (WX y o) (rv_inv hf).2) rfl dX3_judge_97 hC
      · have hf := it_f c_7 hf
        refine lv_aload_n hx hb dX3_judge_52 rfl (lv_at hl 0 rfl) ?_
        refine lv_lload_n hx hb dX3_judge_53 rfl (lv_at hl 1 rfl) ?_
        obtain ⟨v_8, hc_8, hf⟩ := calp_inv hf
        refine cc_Vi (r_X3_lowestOpen_draft (D := D) (y := y) (o := o) (ad := ad) (av := av) hc_8 l) hx hb hml hta hown hK hN hV hA hC hRc hRs (by omega) (by omega) wq_329 (q := 10) (ci := 3) rfl rfl wq_330 wq_331 wq_27 wq_316 hd_X3_lowestOpen (As := [.long x1_6]) (rest := []) rfl rfl hl.1 rfl dX3_judge_54 (fun H locs hC => ?_)
        refine lv_istore (lv' := [(4, .int v_8), (0, .ref (o 10)), (1, .long x1_6), (3, .int x3_6)]) hx hb dX3_judge_57 hl (by decide) rfl (fun ls hl => ?_)
        refine lv_iload hx hb dX3_judge_59 (lv_at hl 0 rfl) ?_
        refine lv_iconst (v := (-1)) hx hb dX3_judge_61 (by decide) ?_
        refine lv_icmp_ne (tgt := 67) hx hb dX3_judge_62 (by decide) (fun c_9 => ?_) (fun c_9 => ?_)
        · have hf := it_f c_9 hf
          refine lv_lload_n hx hb dX3_judge_67 rfl (lv_at hl 2 rfl) ?_
          refine lv_lconst (v := 1) hx hb dX3_judge_68 rfl ?_
          refine lv_iload hx hb dX3_judge_69 (lv_at hl 0 rfl) ?_
          refine lv_lshl hx hb dX3_judge_71 rfl ?_
          refine lv_lor hx hb dX3_judge_72 ?_
          obtain ⟨x1_10, e_10, hf⟩ := lt_inv hf
          refine nml e_10 ?_
          refine lv_lstore_n (lv' := [(1, .long x1_10), (4, .int v_8), (0, .ref (o 10)), (3, .int x3_6)]) hx hb dX3_judge_73 rfl hl (by decide) rfl (fun ls hl => ?_)
          refine lv_aload_n hx hb dX3_judge_74 rfl (lv_at hl 2 rfl) ?_
          refine lv_iload hx hb dX3_judge_75 (lv_at hl 1 rfl) ?_
          obtain ⟨v_11, s_11, hc_11, hf⟩ := calv_inv hf
          refine cc_Vi (r_X3_goOver_draft (D := D) (y := y) (o := o) (ad := ad) (av := av) hc_11 l) hx hb hml hta hown hK hN hV hA hC hRc hRs (by omega) (by omega) wq_332 (q := 10) (ci := 3) rfl rfl wq_333 wq_334 wq_27 wq_325 hd_X3_goOver (As := [.int v_8]) (rest := []) rfl rfl hl.1 rfl dX3_judge_77 (fun H locs hC => ?_)
          refine lv_istore (lv' := [(5, .int v_11), (1, .long x1_10), (4, .int v_8), (0, .ref (o 10)), (3, .int x3_6)]) hx hb dX3_judge_80 hl (by decide) rfl (fun ls hl => ?_)
          refine lv_iload hx hb dX3_judge_82 (lv_at hl 0 rfl) ?_
          refine lv_if_eq (tgt := 90) hx hb dX3_judge_84 (by decide) (fun c_12 => ?_) (fun c_12 => ?_)
          · have hf := it_t c_12 hf
            obtain ⟨x3_13, e_13, hf⟩ := lt_inv hf
            refine lv_iinc (v := x3_13) (lv' := [(3, .int x3_13), (5, .int v_11), (1, .long x1_10), (4, .int v_8), (0, .ref (o 10))]) hx hb dX3_judge_90 hl (k := 4) rfl e_13.symm (by decide) rfl (fun ls hl => ?_)
            refine lv_goto (tgt := 44) hx hb dX3_judge_93 (by decide) ?_
            exact ha_44 _ _ _ hf _ _ _ hC (lv_sub hl [4, 2, 0] rfl)
          · have hf := it_f c_12 hf
            refine lv_iload hx hb dX3_judge_87 (lv_at hl 0 rfl) ?_
            exact hret _ _ _ _ _ _ (rv_inv hf).1 (congrArg (WX y o) (rv_inv hf).2) rfl dX3_judge_89 hC
        · have hf := it_t c_9 hf
          refine lv_iconst (v := 0) hx hb dX3_judge_65 (by decide) ?_
          exact hret _ _ _ _ _ _ (rv_inv hf).1 (congrArg (WX y o) (rv_inv hf).2) rfl dX3_judge_66 hC
    · have hf := it_f c_4 hf
      refine lv_aload_n hx hb dX3_judge_20 rfl (lv_at hl 0 rfl) ?_
      refine gt_X3_18_draft hx hb hta hown hK hC dX3_judge_21 ?_
      refine lv_iload_n hx hb dX3_judge_24 rfl (lv_at hl 1 rfl) ?_
      refine lv_iconst (v := (-1)) hx hb dX3_judge_25 (by decide) ?_
      obtain ⟨hi_14, hf⟩ := ix_inv hf
      obtain ⟨s_14, e_14, hf⟩ := lt_inv hf
      refine as_X_13 hx hb hK hC hi_14 e_14 dX3_judge_26 (fun H locs hC => ?_)
      obtain ⟨x1_15, e_15, hf⟩ := lt_inv hf
      refine lv_iinc (v := x1_15) (lv' := [(1, .int x1_15), (0, .ref (o 10))]) hx hb dX3_judge_27 hl (k := 1) rfl e_15.symm (by decide) rfl (fun ls hl => ?_)
      refine lv_goto (tgt := 12) hx hb dX3_judge_30 (by decide) ?_
      exact ha_12 _ _ hf _ _ _ hC (lv_sub hl [1, 0] rfl)
  · have hf := it_t c_2 hf
    refine lv_bipush (v := (-2)) hx hb dX3_judge_7 (by decide) ?_
    exact hret _ _ _ _ _ _ (rv_inv hf).1 (congrArg (WX y o) (rv_inv hf).2) rfl dX3_judge_9 hC

set_option maxHeartbeats 8000000 in
set_option maxRecDepth 100000 in
theorem r_X3_copy_draft {D : va_G} {y : Nat → ClassId} {o : Nat → Nat} {ad av : Nat → Nat} {σ : Sto} {σ2 : Sto} (hf : f_X3_copy_draft σ = some σ2) (l : Launch) (sz : Nat) : Met l yX3_copy (Cond.code yX3_copy cX3_copy 2 none :: ALW) { frames := 1, cells := 0, slots := 0, locals := 60 } (va_Pc [.ref (o 3), .ref (o 10)] (PZ D y ad av (WX y o σ) sz)) (QZv D (WX y o σ) (WX y o σ2) sz) 0 0 (va_A (WX y o σ) sz) := by
  refine met_v (by decide) (Nat.le_of_ble_eq_true rfl) ?_
  intro p e R s m args below meth c Q A ls hx hb hml hta hown hRc hRs hRf hRl hN hK hV hA hret hC hl
  have hl : lv_has ls 2 [(0, .ref (o 3)), (1, .ref (o 10))] := hl
  unfold f_X3_copy_draft at hf
  refine lv_aload_n hx hb dX3_copy_0 rfl (lv_at hl 0 rfl) ?_
  refine lv_aload_n hx hb dX3_copy_1 rfl (lv_at hl 1 rfl) ?_
  refine gt_X3_30_draft hx hb hta hown hK hC dX3_copy_2 ?_
  obtain ⟨s_1, e_1, hf⟩ := lt_inv hf
  refine pt_X3_30_listing hx hb hta hown hK hC e_1 dX3_copy_5 (fun H locs hC => ?_)
  refine lv_aload_n hx hb dX3_copy_8 rfl (lv_at hl 0 rfl) ?_
  refine lv_aload_n hx hb dX3_copy_9 rfl (lv_at hl 1 rfl) ?_
  refine gt_X3_34_draft hx hb hta hown hK hC dX3_copy_10 ?_
  obtain ⟨s_2, e_2, hf⟩ := lt_inv hf
  refine pt_X3_34_listing hx hb hta hown hK hC e_2 dX3_copy_13 (fun H locs hC => ?_)
  refine lv_aload_n hx hb dX3_copy_16 rfl (lv_at hl 1 rfl) ?_
  refine gt_X3_9_draft hx hb hta hown hK hC dX3_copy_17 ?_
  refine lv_iconst (v := 0) hx hb dX3_copy_20 (by decide) ?_
  refine lv_aload_n hx hb dX3_copy_21 rfl (lv_at hl 0 rfl) ?_
  refine gt_X3_9_listing hx hb hta hown hK hC dX3_copy_22 ?_
  refine lv_iconst (v := 0) hx hb dX3_copy_25 (by decide) ?_
  refine lv_bipush (v := 40) hx hb dX3_copy_26 (by decide) ?_
  obtain ⟨s_3, e_3, hf⟩ := lt_inv hf
  refine cp_X_11_4_37 hx hb (hml.trans hl.1.symm) hta hown hK hC (by omega) (by omega) rfl e_3 dX3_copy_28 (fun H locs hC => ?_)
  refine lv_aload_n hx hb dX3_copy_31 rfl (lv_at hl 1 rfl) ?_
  refine gt_X3_15_draft hx hb hta hown hK hC dX3_copy_32 ?_
  refine lv_iconst (v := 0) hx hb dX3_copy_35 (by decide) ?_
  refine lv_aload_n hx hb dX3_copy_36 rfl (lv_at hl 0 rfl) ?_
  refine gt_X3_15_listing hx hb hta hown hK hC dX3_copy_37 ?_
  refine lv_iconst (v := 0) hx hb dX3_copy_40 (by decide) ?_
  refine lv_bipush (v := 40) hx hb dX3_copy_41 (by decide) ?_
  obtain ⟨s_4, e_4, hf⟩ := lt_inv hf
  refine cp_X_12_5_37 hx hb (hml.trans hl.1.symm) hta hown hK hC (by omega) (by omega) rfl e_4 dX3_copy_43 (fun H locs hC => ?_)
  refine lv_aload_n hx hb dX3_copy_46 rfl (lv_at hl 1 rfl) ?_
  refine gt_X3_18_draft hx hb hta hown hK hC dX3_copy_47 ?_
  refine lv_iconst (v := 0) hx hb dX3_copy_50 (by decide) ?_
  refine lv_aload_n hx hb dX3_copy_51 rfl (lv_at hl 0 rfl) ?_
  refine gt_X3_18_listing hx hb hta hown hK hC dX3_copy_52 ?_
  refine lv_iconst (v := 0) hx hb dX3_copy_55 (by decide) ?_
  refine lv_bipush (v := 40) hx hb dX3_copy_56 (by decide) ?_
  obtain ⟨s_5, e_5, hf⟩ := lt_inv hf
  refine cp_X_13_6_37 hx hb (hml.trans hl.1.symm) hta hown hK hC (by omega) (by omega) rfl e_5 dX3_copy_58 (fun H locs hC => ?_)
  refine lv_aload_n hx hb dX3_copy_61 rfl (lv_at hl 1 rfl) ?_
  refine gt_X3_21_draft hx hb hta hown hK hC dX3_copy_62 ?_
  refine lv_iconst (v := 0) hx hb dX3_copy_65 (by decide) ?_
  refine lv_aload_n hx hb dX3_copy_66 rfl (lv_at hl 0 rfl) ?_
  refine gt_X3_21_listing hx hb hta hown hK hC dX3_copy_67 ?_
  refine lv_iconst (v := 0) hx hb dX3_copy_70 (by decide) ?_
  refine lv_iconst (v := 3) hx hb dX3_copy_71 (by decide) ?_
  obtain ⟨s_6, e_6, hf⟩ := lt_inv hf
  refine cp_X_14_7_37 hx hb (hml.trans hl.1.symm) hta hown hK hC (by omega) (by omega) rfl e_6 dX3_copy_72 (fun H locs hC => ?_)
  refine lv_aload_n hx hb dX3_copy_75 rfl (lv_at hl 1 rfl) ?_
  refine gt_X3_24_draft hx hb hta hown hK hC dX3_copy_76 ?_
  refine lv_iconst (v := 0) hx hb dX3_copy_79 (by decide) ?_
  refine lv_aload_n hx hb dX3_copy_80 rfl (lv_at hl 0 rfl) ?_
  refine gt_X3_24_listing hx hb hta hown hK hC dX3_copy_81 ?_
  refine lv_iconst (v := 0) hx hb dX3_copy_84 (by decide) ?_
  refine lv_iconst (v := 3) hx hb dX3_copy_85 (by decide) ?_
  obtain ⟨s_7, e_7, hf⟩ := lt_inv hf
  refine cp_X_15_8_37 hx hb (hml.trans hl.1.symm) hta hown hK hC (by omega) (by omega) rfl e_7 dX3_copy_86 (fun H locs hC => ?_)
  refine lv_aload_n hx hb dX3_copy_89 rfl (lv_at hl 1 rfl) ?_
  refine gt_X3_27_draft hx hb hta hown hK hC dX3_copy_90 ?_
  refine lv_iconst (v := 0) hx hb dX3_copy_93 (by decide) ?_
  refine lv_aload_n hx hb dX3_copy_94 rfl (lv_at hl 0 rfl) ?_
  refine gt_X3_27_listing hx hb hta hown hK hC dX3_copy_95 ?_
  refine lv_iconst (v := 0) hx hb dX3_copy_98 (by decide) ?_
  refine lv_iconst (v := 3) hx hb dX3_copy_99 (by decide) ?_
  obtain ⟨s_8, e_8, hf⟩ := lt_inv hf
  refine cp_X_16_9_37 hx hb (hml.trans hl.1.symm) hta hown hK hC (by omega) (by omega) rfl e_8 dX3_copy_100 (fun H locs hC => ?_)
  exact hret _ _ _ _ _ (congrArg (WX y o) (Option.some.inj hf)) dX3_copy_103 hC

set_option maxHeartbeats 8000000 in
set_option maxRecDepth 100000 in
theorem r_X3_goesElsewhere {D : va_G} {y : Nat → ClassId} {o : Nat → Nat} {ad av : Nat → Nat} {x1 : Int32} {σ : Sto} {v : Int32} (hf : f_X3_goesElsewhere x1 σ = some v) (l : Launch) (sz : Nat) : Met l yX3_goesElsewhere (Cond.code yX3_goesElsewhere cX3_goesElsewhere 2 (some .boolean) :: ALW) { frames := 0, cells := 0, slots := 0, locals := 0 } (va_Pc [.ref (o 3), .int x1] (PZ D y ad av (WX y o σ) sz)) (QZi D (WX y o σ) v (WX y o σ) sz) 0 0 (va_A (WX y o σ) sz) := by
  refine met_i (by decide) (Nat.le_of_ble_eq_true rfl) ?_
  intro p e R s m args below meth c Q A ls hx hb hml hta hown hRc hRs hRf hRl hN hK hV hA hret hC hl
  have hl : lv_has ls 2 [(0, .ref (o 3)), (1, .int x1)] := hl
  unfold f_X3_goesElsewhere at hf
  refine lv_aload_n hx hb dX3_goesElsewhere_0 rfl (lv_at hl 0 rfl) ?_
  refine gt_X3_9_listing hx hb hta hown hK hC dX3_goesElsewhere_1 ?_
  refine lv_iload_n hx hb dX3_goesElsewhere_4 rfl (lv_at hl 1 rfl) ?_
  obtain ⟨hi_1, hf⟩ := ix_inv hf
  obtain ⟨v_1, e_1, hf⟩ := lt_inv hf
  refine al_X_4 hx hb hK hC hi_1 e_1 dX3_goesElsewhere_5 ?_
  refine lv_bipush (v := 103) hx hb dX3_goesElsewhere_6 (by decide) ?_
  obtain ⟨k_22, hk_22, hf⟩ := jn_inv0 hf
  have hj_22 : ∀  (H : Heap) (locs : List Loc) (ls : Array Slot), k_22 = some v → CZ D A s H locs (WX y o σ) → lv_has ls 2 [] → W p l e R s m args below meth c H locs 0 0 Q (F0 m 22 ls []) := by
    intro H locs ls hf hC hl
    have hf := hk_22 hf
    refine lv_iconst (v := 1) hx hb dX3_goesElsewhere_22 (by decide) ?_
    refine lv_goto (tgt := 27) hx hb dX3_goesElsewhere_23 (by decide) ?_
    exact hret _ _ _ _ _ _ (Option.some.inj hf) rfl rfl dX3_goesElsewhere_27 hC
  refine lv_icmp_eq (tgt := 22) hx hb dX3_goesElsewhere_8 (by decide) (fun c_3 => ?_) (fun c_3 => ?_)
  · have hf := it_t c_3 hf
    exact hj_22 _ _ _ hf hC (lv_sub hl [] rfl)
  · have hf := it_f c_3 hf
    refine lv_aload_n hx hb dX3_goesElsewhere_11 rfl (lv_at hl 0 rfl) ?_
    refine gt_X3_9_listing hx hb hta hown hK hC dX3_goesElsewhere_12 ?_
    refine lv_iload_n hx hb dX3_goesElsewhere_15 rfl (lv_at hl 1 rfl) ?_
    obtain ⟨hi_4, hf⟩ := ix_inv hf
    obtain ⟨v_4, e_4, hf⟩ := lt_inv hf
    refine al_X_4 hx hb hK hC hi_4 e_4 dX3_goesElsewhere_16 ?_
    refine lv_bipush (v := 122) hx hb dX3_goesElsewhere_17 (by decide) ?_
    refine lv_icmp_ne (tgt := 26) hx hb dX3_goesElsewhere_19 (by decide) (fun c_5 => ?_) (fun c_5 => ?_)
    · have hf := it_f c_5 hf
      refine lv_iconst (v := 0) hx hb dX3_goesElsewhere_26 (by decide) ?_
      exact hret _ _ _ _ _ _ (Option.some.inj hf) rfl rfl dX3_goesElsewhere_27 hC
    · have hf := it_t c_5 hf
      exact hj_22 _ _ _ hf hC (lv_sub hl [] rfl)

set_option maxHeartbeats 8000000 in
set_option maxRecDepth 100000 in
theorem r_X3_ends {D : va_G} {y : Nat → ClassId} {o : Nat → Nat} {ad av : Nat → Nat} {x1 : Int32} {σ : Sto} {v : Int32} (hf : f_X3_ends x1 σ = some v) (l : Launch) (sz : Nat) : Met l yX3_ends (Cond.code yX3_ends cX3_ends 2 (some .boolean) :: ALW) { frames := 0, cells := 0, slots := 0, locals := 0 } (va_Pc [.ref (o 3), .int x1] (PZ D y ad av (WX y o σ) sz)) (QZi D (WX y o σ) v (WX y o σ) sz) 0 0 (va_A (WX y o σ) sz) := by
  refine met_i (by decide) (Nat.le_of_ble_eq_true rfl) ?_
  intro p e R s m args below meth c Q A ls hx hb hml hta hown hRc hRs hRf hRl hN hK hV hA hret hC hl
  have hl : lv_has ls 2 [(0, .ref (o 3)), (1, .int x1)] := hl
  unfold f_X3_ends at hf
  refine lv_aload_n hx hb dX3_ends_0 rfl (lv_at hl 0 rfl) ?_
  refine gt_X3_9_listing hx hb hta hown hK hC dX3_ends_1 ?_
  refine lv_iload_n hx hb dX3_ends_4 rfl (lv_at hl 1 rfl) ?_
  obtain ⟨hi_1, hf⟩ := ix_inv hf
  obtain ⟨v_1, e_1, hf⟩ := lt_inv hf
  refine al_X_4 hx hb hK hC hi_1 e_1 dX3_ends_5 ?_
  refine lv_bipush (v := 116) hx hb dX3_ends_6 (by decide) ?_
  obtain ⟨k_22, hk_22, hf⟩ := jn_inv0 hf
  have hj_22 : ∀  (H : Heap) (locs : List Loc) (ls : Array Slot), k_22 = some v → CZ D A s H locs (WX y o σ) → lv_has ls 2 [] → W p l e R s m args below meth c H locs 0 0 Q (F0 m 22 ls []) := by
    intro H locs ls hf hC hl
    have hf := hk_22 hf
    refine lv_iconst (v := 1) hx hb dX3_ends_22 (by decide) ?_
    refine lv_goto (tgt := 27) hx hb dX3_ends_23 (by decide) ?_
    exact hret _ _ _ _ _ _ (Option.some.inj hf) rfl rfl dX3_ends_27 hC
  refine lv_icmp_eq (tgt := 22) hx hb dX3_ends_8 (by decide) (fun c_3 => ?_) (fun c_3 => ?_)
  · have hf := it_t c_3 hf
    exact hj_22 _ _ _ hf hC (lv_sub hl [] rfl)
  · have hf := it_f c_3 hf
    refine lv_aload_n hx hb dX3_ends_11 rfl (lv_at hl 0 rfl) ?_
    refine gt_X3_9_listing hx hb hta hown hK hC dX3_ends_12 ?_
    refine lv_iload_n hx hb dX3_ends_15 rfl (lv_at hl 1 rfl) ?_
    obtain ⟨hi_4, hf⟩ := ix_inv hf
    obtain ⟨v_4, e_4, hf⟩ := lt_inv hf
    refine al_X_4 hx hb hK hC hi_4 e_4 dX3_ends_16 ?_
    refine lv_bipush (v := 114) hx hb dX3_ends_17 (by decide) ?_
    refine lv_icmp_ne (tgt := 26) hx hb dX3_ends_19 (by decide) (fun c_5 => ?_) (fun c_5 => ?_)
    · have hf := it_f c_5 hf
      refine lv_iconst (v := 0) hx hb dX3_ends_26 (by decide) ?_
      exact hret _ _ _ _ _ _ (Option.some.inj hf) rfl rfl dX3_ends_27 hC
    · have hf := it_t c_5 hf
      exact hj_22 _ _ _ hf hC (lv_sub hl [] rfl)

set_option maxHeartbeats 8000000 in
set_option maxRecDepth 100000 in
theorem r_X0_markCuts {D : va_G} {y : Nat → ClassId} {o : Nat → Nat} {ad av : Nat → Nat} {σ : Sto} {σ2 : Sto} (hf : f_X0_markCuts σ = some σ2) (l : Launch) (sz : Nat) : Met l yX0_markCuts (Cond.code yX0_markCuts cX0_markCuts 2 none :: ALW) { frames := 1, cells := 0, slots := 0, locals := 21 } (va_Pc [.ref (o 17)] (PZ D y ad av (WX y o σ) sz)) (QZv D (WX y o σ) (WX y o σ2) sz) 0 0 (va_A (WX y o σ) sz) := by
  refine met_v (by decide) (Nat.le_of_ble_eq_true rfl) ?_
  intro p e R s m args below meth c Q A ls hx hb hml hta hown hRc hRs hRf hRl hN hK hV hA hret hC hl
  have hl : lv_has ls 2 [(0, .ref (o 17))] := hl
  unfold f_X0_markCuts at hf
  refine lv_iconst (v := 0) hx hb dX0_markCuts_0 (by decide) ?_
  refine lv_istore_n (lv' := [(1, .int 0), (0, .ref (o 17))]) hx hb dX0_markCuts_1 rfl hl (by decide) rfl (fun ls hl => ?_)
  refine itr_inv2 (P := fun (x1_1 : Int32) (s_1 : Sto) => ∀ (H : Heap) (locs : List Loc) (ls : Array Slot), CZ D A s H locs (WX y o s_1) → lv_has ls 2 [(0, .ref (o 17)), (1, .int x1_1)] → W p l e R s m args below meth c H locs 0 0 Q (F0 m 2 ls [])) hf ?_ _ _ _ hC (lv_sub hl [1, 0] rfl)
  intro a_2 x1_1 s_1 ha_2 hf H locs ls hC hl
  refine lv_iload_n hx hb dX0_markCuts_2 rfl (lv_at hl 1 rfl) ?_
  refine lv_bipush (v := 40) hx hb dX0_markCuts_3 (by decide) ?_
  refine lv_icmp_gt (tgt := 21) hx hb dX0_markCuts_5 (by decide) (fun c_2 => ?_) (fun c_2 => ?_)
  · have hf := it_t c_2 hf
    refine lv_iconst (v := 0) hx hb dX0_markCuts_21 (by decide) ?_
    refine lv_istore_n (lv' := [(1, .int 0), (0, .ref (o 17))]) hx hb dX0_markCuts_22 rfl hl (by decide) rfl (fun ls hl => ?_)
    refine itr_inv2 (P := fun (x1_3 : Int32) (s_3 : Sto) => ∀ (H : Heap) (locs : List Loc) (ls : Array Slot), CZ D A s H locs (WX y o s_3) → lv_has ls 2 [(0, .ref (o 17)), (1, .int x1_3)] → W p l e R s m args below meth c H locs 0 0 Q (F0 m 23 ls [])) hf ?_ _ _ _ hC (lv_sub hl [1, 0] rfl)
    intro a_23 x1_3 s_3 ha_23 hf H locs ls hC hl
    refine lv_iload_n hx hb dX0_markCuts_23 rfl (lv_at hl 1 rfl) ?_
    refine lv_aload_n hx hb dX0_markCuts_24 rfl (lv_at hl 0 rfl) ?_
    refine gt_X0_50_blocks hx hb hta hown hK hC dX0_markCuts_25 ?_
    refine gt_X0_64_listing hx hb hta hown hK hC dX0_markCuts_28 ?_
    refine lv_icmp_ge (tgt := 111) hx hb dX0_markCuts_31 (by decide) (fun c_4 => ?_) (fun c_4 => ?_)
    · have hf := it_t c_4 hf
      refine lv_iconst (v := 0) hx hb dX0_markCuts_111 (by decide) ?_
      refine lv_istore_n (lv' := [(1, .int 0), (0, .ref (o 17))]) hx hb dX0_markCuts_112 rfl hl (by decide) rfl (fun ls hl => ?_)
      refine itr_inv2 (P := fun (x1_5 : Int32) (s_5 : Sto) => ∀ (H : Heap) (locs : List Loc) (ls : Array Slot), CZ D A s H locs (WX y o s_5) → lv_has ls 2 [(0, .ref (o 17)), (1, .int x1_5)] → W p l e R s m args below meth c H locs 0 0 Q (F0 m 113 ls [])) hf ?_ _ _ _ hC (lv_sub hl [1, 0] rfl)
      intro a_113 x1_5 s_5 ha_113 hf H locs ls hC hl
      refine lv_iload_n hx hb dX0_markCuts_113 rfl (lv_at hl 1 rfl) ?_
      refine lv_aload_n hx hb dX0_markCuts_114 rfl (lv_at hl 0 rfl) ?_
      refine gt_X0_50_blocks hx hb hta hown hK hC dX0_markCuts_115 ?_
      refine gt_X0_97_listing hx hb hta hown hK hC dX0_markCuts_118 ?_
      refine lv_icmp_ge (tgt := 175) hx hb dX0_markCuts_121 (by decide) (fun c_6 => ?_) (fun c_6 => ?_)
      · have hf := it_t c_6 hf
        exact hret _ _ _ _ _ (congrArg (WX y o) (Option.some.inj hf)) dX0_markCuts_175 hC
      · have hf := it_f c_6 hf
        refine lv_aload_n hx hb dX0_markCuts_124 rfl (lv_at hl 0 rfl) ?_
        refine gt_X0_47_blocks hx hb hta hown hK hC dX0_markCuts_125 ?_
        refine lv_aload_n hx hb dX0_markCuts_128 rfl (lv_at hl 0 rfl) ?_
        refine gt_X0_50_blocks hx hb hta hown hK hC dX0_markCuts_129 ?_
        refine gt_X0_100_listing hx hb hta hown hK hC dX0_markCuts_132 ?_
        refine lv_iload_n hx hb dX0_markCuts_135 rfl (lv_at hl 1 rfl) ?_
        obtain ⟨hi_7, hf⟩ := ix_inv hf
        obtain ⟨v_7, e_7, hf⟩ := lt_inv hf
        refine al_X_7 hx hb hK hC hi_7 e_7 dX0_markCuts_136 ?_
        refine lv_iconst (v := 1) hx hb dX0_markCuts_137 (by decide) ?_
        obtain ⟨hi_8, hf⟩ := ix_inv hf
        obtain ⟨s_8, e_8, hf⟩ := lt_inv hf
        refine as_X_29 hx hb hK hC hi_8 (Or.inr rfl) e_8 dX0_markCuts_138 (fun H locs hC => ?_)
        refine lv_aload_n hx hb dX0_markCuts_139 rfl (lv_at hl 0 rfl) ?_
        refine gt_X0_47_blocks hx hb hta hown hK hC dX0_markCuts_140 ?_
        refine lv_aload_n hx hb dX0_markCuts_143 rfl (lv_at hl 0 rfl) ?_
        refine gt_X0_50_blocks hx hb hta hown hK hC dX0_markCuts_144 ?_
        refine gt_X0_103_listing hx hb hta hown hK hC dX0_markCuts_147 ?_
        refine lv_iload_n hx hb dX0_markCuts_150 rfl (lv_at hl 1 rfl) ?_
        obtain ⟨hi_9, hf⟩ := ix_inv hf
        obtain ⟨v_9, e_9, hf⟩ := lt_inv hf
        refine al_X_8 hx hb hK hC hi_9 e_9 dX0_markCuts_151 ?_
        refine lv_iconst (v := 1) hx hb dX0_markCuts_152 (by decide) ?_
        obtain ⟨hi_10, hf⟩ := ix_inv hf
        obtain ⟨s_10, e_10, hf⟩ := lt_inv hf
        refine as_X_29 hx hb hK hC hi_10 (Or.inr rfl) e_10 dX0_markCuts_153 (fun H locs hC => ?_)
        refine lv_aload_n hx hb dX0_markCuts_154 rfl (lv_at hl 0 rfl) ?_
        refine gt_X0_47_blocks hx hb hta hown hK hC dX0_markCuts_155 ?_
        refine lv_aload_n hx hb dX0_markCuts_158 rfl (lv_at hl 0 rfl) ?_
        refine gt_X0_50_blocks hx hb hta hown hK hC dX0_markCuts_159 ?_
        refine gt_X0_106_listing hx hb hta hown hK hC dX0_markCuts_162 ?_
        refine lv_iload_n hx hb dX0_markCuts_165 rfl (lv_at hl 1 rfl) ?_
        obtain ⟨hi_11, hf⟩ := ix_inv hf
        obtain ⟨v_11, e_11, hf⟩ := lt_inv hf
        refine al_X_9 hx hb hK hC hi_11 e_11 dX0_markCuts_166 ?_
        refine lv_iconst (v := 1) hx hb dX0_markCuts_167 (by decide) ?_
        obtain ⟨hi_12, hf⟩ := ix_inv hf
        obtain ⟨s_12, e_12, hf⟩ := lt_inv hf
        refine as_X_29 hx hb hK hC hi_12 (Or.inr rfl) e_12 dX0_markCuts_168 (fun H locs hC => ?_)
        obtain ⟨x1_13, e_13, hf⟩ := lt_inv hf
        refine lv_iinc (v := x1_13) (lv' := [(1, .int x1_13), (0, .ref (o 17))]) hx hb dX0_markCuts_169 hl (k := 1) rfl e_13.symm (by decide) rfl (fun ls hl => ?_)
        refine lv_goto (tgt := 113) hx hb dX0_markCuts_172 (by decide) ?_
        exact ha_113 _ _ hf _ _ _ hC (lv_sub hl [1, 0] rfl)
    · have hf := it_f c_4 hf
      refine lv_aload_n hx hb dX0_markCuts_34 rfl (lv_at hl 0 rfl) ?_
      refine gt_X0_50_blocks hx hb hta hown hK hC dX0_markCuts_35 ?_
      refine gt_X0_67_listing hx hb hta hown hK hC dX0_markCuts_38 ?_
      refine lv_iload_n hx hb dX0_markCuts_41 rfl (lv_at hl 1 rfl) ?_
      obtain ⟨hi_14, hf⟩ := ix_inv hf
      obtain ⟨v_14, e_14, hf⟩ := lt_inv hf
      refine al_X_6 hx hb hK hC hi_14 e_14 dX0_markCuts_42 ?_
      refine lv_iconst (v := (-1)) hx hb dX0_markCuts_43 (by decide) ?_
      obtain ⟨k_105, hk_105, hf⟩ := jn_inv1 hf
      have hj_105 : ∀ (s_15 : Sto) (H : Heap) (locs : List Loc) (ls : Array Slot), k_105 s_15 = some σ2 → CZ D A s H locs (WX y o s_15) → lv_has ls 2 [(0, .ref (o 17)), (1, .int x1_3)] → W p l e R s m args below meth c H locs 0 0 Q (F0 m 105 ls []) := by
        intro s_15 H locs ls hf hC hl
        have hf := hk_105 _ hf
        obtain ⟨x1_16, e_16, hf⟩ := lt_inv hf
        refine lv_iinc (v := x1_16) (lv' := [(1, .int x1_16), (0, .ref (o 17))]) hx hb dX0_markCuts_105 hl (k := 1) rfl e_16.symm (by decide) rfl (fun ls hl => ?_)
        refine lv_goto (tgt := 23) hx hb dX0_markCuts_108 (by decide) ?_
        exact ha_23 _ _ hf _ _ _ hC (lv_sub hl [1, 0] rfl)
      refine lv_icmp_ne (tgt := 50) hx hb dX0_markCuts_44 (by decide) (fun c_17 => ?_) (fun c_17 => ?_)
      · have hf := it_f c_17 hf
        refine lv_aload_n hx hb dX0_markCuts_50 rfl (lv_at hl 0 rfl) ?_
        refine gt_X0_50_blocks hx hb hta hown hK hC dX0_markCuts_51 ?_
        refine lv_iload_n hx hb dX0_markCuts_54 rfl (lv_at hl 1 rfl) ?_
        obtain ⟨v_18, hc_18, hf⟩ := calp_inv hf
        refine cc_Vi (r_X3_goesElsewhere (D := D) (y := y) (o := o) (ad := ad) (av := av) hc_18 l) hx hb hml hta hown hK hN hV hA hC hRc hRs (by omega) (by omega) wq_24 (q := 3) (ci := 3) rfl rfl wq_25 wq_26 wq_27 wq_13 hd_X3_goesElsewhere (As := [.int x1_3]) (rest := []) rfl rfl hl.1 rfl dX0_markCuts_55 (fun H locs hC => ?_)
        obtain ⟨k_85, hk_85, hf⟩ := jn_inv1 hf
        have hj_85 : ∀ (s_19 : Sto) (H : Heap) (locs : List Loc) (ls : Array Slot), k_85 s_19 = some σ2 → CZ D A s H locs (WX y o s_19) → lv_has ls 2 [(0, .ref (o 17)), (1, .int x1_3)] → W p l e R s m args below meth c H locs 0 0 Q (F0 m 85 ls []) := by
          intro s_19 H locs ls hf hC hl
          have hf := hk_85 _ hf
          refine lv_aload_n hx hb dX0_markCuts_85 rfl (lv_at hl 0 rfl) ?_
          refine gt_X0_50_blocks hx hb hta hown hK hC dX0_markCuts_86 ?_
          refine lv_iload_n hx hb dX0_markCuts_89 rfl (lv_at hl 1 rfl) ?_
          obtain ⟨v_20, hc_20, hf⟩ := calp_inv hf
          refine cc_Vi (r_X3_ends (D := D) (y := y) (o := o) (ad := ad) (av := av) hc_20 l) hx hb hml hta hown hK hN hV hA hC hRc hRs (by omega) (by omega) wq_28 (q := 3) (ci := 3) rfl rfl wq_29 wq_30 wq_27 wq_15 hd_X3_ends (As := [.int x1_3]) (rest := []) rfl rfl hl.1 rfl dX0_markCuts_90 (fun H locs hC => ?_)
          refine lv_if_eq (tgt := 105) hx hb dX0_markCuts_93 (by decide) (fun c_21 => ?_) (fun c_21 => ?_)
          · have hf := it_t c_21 hf
            exact hj_105 _ _ _ _ hf hC hl
          · have hf := it_f c_21 hf
            refine lv_aload_n hx hb dX0_markCuts_96 rfl (lv_at hl 0 rfl) ?_
            refine gt_X0_47_blocks hx hb hta hown hK hC dX0_markCuts_97 ?_
            refine lv_iload_n hx hb dX0_markCuts_100 rfl (lv_at hl 1 rfl) ?_
            refine lv_iconst (v := 1) hx hb dX0_markCuts_101 (by decide) ?_
            refine lv_iadd hx hb dX0_markCuts_102 ?_
            refine lv_iconst (v := 1) hx hb dX0_markCuts_103 (by decide) ?_
            obtain ⟨hi_22, hf⟩ := ix_inv hf
            obtain ⟨s_22, e_22, hf⟩ := lt_inv hf
            refine as_X_29 hx hb hK hC hi_22 (Or.inr rfl) e_22 dX0_markCuts_104 (fun H locs hC => ?_)
            exact hj_105 _ _ _ _ hf hC hl
        refine lv_if_eq (tgt := 85) hx hb dX0_markCuts_58 (by decide) (fun c_23 => ?_) (fun c_23 => ?_)
        · have hf := it_t c_23 hf
          exact hj_85 _ _ _ _ hf hC hl
        · have hf := it_f c_23 hf
          refine lv_aload_n hx hb dX0_markCuts_61 rfl (lv_at hl 0 rfl) ?_
          refine gt_X0_47_blocks hx hb hta hown hK hC dX0_markCuts_62 ?_
          refine lv_aload_n hx hb dX0_markCuts_65 rfl (lv_at hl 0 rfl) ?_
          refine gt_X0_50_blocks hx hb hta hown hK hC dX0_markCuts_66 ?_
          refine gt_X0_91_listing hx hb hta hown hK hC dX0_markCuts_69 ?_
          refine lv_iload_n hx hb dX0_markCuts_72 rfl (lv_at hl 1 rfl) ?_
          obtain ⟨hi_24, hf⟩ := ix_inv hf
          obtain ⟨v_24, e_24, hf⟩ := lt_inv hf
          refine al_X_5 hx hb hK hC hi_24 e_24 dX0_markCuts_73 ?_
          refine lv_iconst (v := 1) hx hb dX0_markCuts_74 (by decide) ?_
          obtain ⟨hi_25, hf⟩ := ix_inv hf
          obtain ⟨s_25, e_25, hf⟩ := lt_inv hf
          refine as_X_29 hx hb hK hC hi_25 (Or.inr rfl) e_25 dX0_markCuts_75 (fun H locs hC => ?_)
          refine lv_aload_n hx hb dX0_markCuts_76 rfl (lv_at hl 0 rfl) ?_
          refine gt_X0_47_blocks hx hb hta hown hK hC dX0_markCuts_77 ?_
          refine lv_iload_n hx hb dX0_markCuts_80 rfl (lv_at hl 1 rfl) ?_
          refine lv_iconst (v := 1) hx hb dX0_markCuts_81 (by decide) ?_
          refine lv_iadd hx hb dX0_markCuts_82 ?_
          refine lv_iconst (v := 1) hx hb dX0_markCuts_83 (by decide) ?_
          obtain ⟨hi_26, hf⟩ := ix_inv hf
          obtain ⟨s_26, e_26, hf⟩ := lt_inv hf
          refine as_X_29 hx hb hK hC hi_26 (Or.inr rfl) e_26 dX0_markCuts_84 (fun H locs hC => ?_)
          exact hj_85 _ _ _ _ hf hC hl
      · have hf := it_t c_17 hf
        refine lv_goto (tgt := 105) hx hb dX0_markCuts_47 (by decide) ?_
        exact hj_105 _ _ _ _ hf hC hl
  · have hf := it_f c_2 hf
    refine lv_aload_n hx hb dX0_markCuts_8 rfl (lv_at hl 0 rfl) ?_
    refine gt_X0_47_blocks hx hb hta hown hK hC dX0_markCuts_9 ?_
    refine lv_iload_n hx hb dX0_markCuts_12 rfl (lv_at hl 1 rfl) ?_
    refine lv_iconst (v := 0) hx hb dX0_markCuts_13 (by decide) ?_
    obtain ⟨hi_27, hf⟩ := ix_inv hf
    obtain ⟨s_27, e_27, hf⟩ := lt_inv hf
    refine as_X_29 hx hb hK hC hi_27 (Or.inl rfl) e_27 dX0_markCuts_14 (fun H locs hC => ?_)
    obtain ⟨x1_28, e_28, hf⟩ := lt_inv hf
    refine lv_iinc (v := x1_28) (lv' := [(1, .int x1_28), (0, .ref (o 17))]) hx hb dX0_markCuts_15 hl (k := 1) rfl e_28.symm (by decide) rfl (fun ls hl => ?_)
    refine lv_goto (tgt := 2) hx hb dX0_markCuts_18 (by decide) ?_
    exact ha_2 _ _ hf _ _ _ hC (lv_sub hl [1, 0] rfl)

set_option maxHeartbeats 8000000 in
set_option maxRecDepth 100000 in
theorem r_X3_goesOn {D : va_G} {y : Nat → ClassId} {o : Nat → Nat} {ad av : Nat → Nat} {x1 : Int32} {σ : Sto} {v : Int32} (hf : f_X3_goesOn x1 σ = some v) (l : Launch) (sz : Nat) : Met l yX3_goesOn (Cond.code yX3_goesOn cX3_goesOn 2 (some .boolean) :: ALW) { frames := 1, cells := 0, slots := 0, locals := 21 } (va_Pc [.ref (o 3), .int x1] (PZ D y ad av (WX y o σ) sz)) (QZi D (WX y o σ) v (WX y o σ) sz) 0 0 (va_A (WX y o σ) sz) := by
  refine met_i (by decide) (Nat.le_of_ble_eq_true rfl) ?_
  intro p e R s m args below meth c Q A ls hx hb hml hta hown hRc hRs hRf hRl hN hK hV hA hret hC hl
  have hl : lv_has ls 2 [(0, .ref (o 3)), (1, .int x1)] := hl
  unfold f_X3_goesOn at hf
  refine lv_aload_n hx hb dX3_goesOn_0 rfl (lv_at hl 0 rfl) ?_
  refine gt_X3_9_listing hx hb hta hown hK hC dX3_goesOn_1 ?_
  refine lv_iload_n hx hb dX3_goesOn_4 rfl (lv_at hl 1 rfl) ?_
  obtain ⟨hi_1, hf⟩ := ix_inv hf
  obtain ⟨v_1, e_1, hf⟩ := lt_inv hf
  refine al_X_4 hx hb hK hC hi_1 e_1 dX3_goesOn_5 ?_
  refine lv_bipush (v := 103) hx hb dX3_goesOn_6 (by decide) ?_
  obtain ⟨k_23, hk_23, hf⟩ := jn_inv0 hf
  have hj_23 : ∀  (H : Heap) (locs : List Loc) (ls : Array Slot), k_23 = some v → CZ D A s H locs (WX y o σ) → lv_has ls 2 [] → W p l e R s m args below meth c H locs 0 0 Q (F0 m 23 ls []) := by
    intro H locs ls hf hC hl
    have hf := hk_23 hf
    refine lv_iconst (v := 0) hx hb dX3_goesOn_23 (by decide) ?_
    exact hret _ _ _ _ _ _ (Option.some.inj hf) rfl rfl dX3_goesOn_24 hC
  refine lv_icmp_eq (tgt := 23) hx hb dX3_goesOn_8 (by decide) (fun c_3 => ?_) (fun c_3 => ?_)
  · have hf := it_t c_3 hf
    exact hj_23 _ _ _ hf hC (lv_sub hl [] rfl)
  · have hf := it_f c_3 hf
    refine lv_aload_n hx hb dX3_goesOn_11 rfl (lv_at hl 0 rfl) ?_
    refine lv_iload_n hx hb dX3_goesOn_12 rfl (lv_at hl 1 rfl) ?_
    obtain ⟨v_4, hc_4, hf⟩ := calp_inv hf
    refine cc_Vi (r_X3_ends (D := D) (y := y) (o := o) (ad := ad) (av := av) hc_4 l) hx hb hml hta hown hK hN hV hA hC hRc hRs (by omega) (by omega) wq_32 (q := 3) (ci := 3) rfl rfl wq_29 wq_30 wq_27 wq_15 hd_X3_ends (As := [.int x1]) (rest := []) rfl rfl hl.1 rfl dX3_goesOn_13 (fun H locs hC => ?_)
    refine lv_if_ne (tgt := 23) hx hb dX3_goesOn_16 (by decide) (fun c_5 => ?_) (fun c_5 => ?_)
    · have hf := it_f c_5 hf
      exact hj_23 _ _ _ hf hC (lv_sub hl [] rfl)
    · have hf := it_t c_5 hf
      refine lv_iconst (v := 1) hx hb dX3_goesOn_19 (by decide) ?_
      refine lv_goto (tgt := 24) hx hb dX3_goesOn_20 (by decide) ?_
      exact hret _ _ _ _ _ _ (Option.some.inj hf) rfl rfl dX3_goesOn_24 hC

set_option maxHeartbeats 8000000 in
set_option maxRecDepth 100000 in
theorem r_X3_canThrow {D : va_G} {y : Nat → ClassId} {o : Nat → Nat} {ad av : Nat → Nat} {x1 : Int32} {σ : Sto} {v : Int32} (hf : f_X3_canThrow x1 σ = some v) (l : Launch) (sz : Nat) : Met l yX3_canThrow (Cond.code yX3_canThrow cX3_canThrow 2 (some .boolean) :: ALW) { frames := 0, cells := 0, slots := 0, locals := 0 } (va_Pc [.ref (o 3), .int x1] (PZ D y ad av (WX y o σ) sz)) (QZi D (WX y o σ) v (WX y o σ) sz) 0 0 (va_A (WX y o σ) sz) := by
  refine met_i (by decide) (Nat.le_of_ble_eq_true rfl) ?_
  intro p e R s m args below meth c Q A ls hx hb hml hta hown hRc hRs hRf hRl hN hK hV hA hret hC hl
  have hl : lv_has ls 2 [(0, .ref (o 3)), (1, .int x1)] := hl
  unfold f_X3_canThrow at hf
  refine lv_aload_n hx hb dX3_canThrow_0 rfl (lv_at hl 0 rfl) ?_
  refine gt_X3_9_listing hx hb hta hown hK hC dX3_canThrow_1 ?_
  refine lv_iload_n hx hb dX3_canThrow_4 rfl (lv_at hl 1 rfl) ?_
  obtain ⟨hi_1, hf⟩ := ix_inv hf
  obtain ⟨v_1, e_1, hf⟩ := lt_inv hf
  refine al_X_4 hx hb hK hC hi_1 e_1 dX3_canThrow_5 ?_
  refine lv_bipush (v := 47) hx hb dX3_canThrow_6 (by decide) ?_
  obtain ⟨k_33, hk_33, hf⟩ := jn_inv0 hf
  have hj_33 : ∀  (H : Heap) (locs : List Loc) (ls : Array Slot), k_33 = some v → CZ D A s H locs (WX y o σ) → lv_has ls 2 [] → W p l e R s m args below meth c H locs 0 0 Q (F0 m 33 ls []) := by
    intro H locs ls hf hC hl
    have hf := hk_33 hf
    refine lv_iconst (v := 1) hx hb dX3_canThrow_33 (by decide) ?_
    refine lv_goto (tgt := 38) hx hb dX3_canThrow_34 (by decide) ?_
    exact hret _ _ _ _ _ _ (Option.some.inj hf) rfl rfl dX3_canThrow_38 hC
  refine lv_icmp_eq (tgt := 33) hx hb dX3_canThrow_8 (by decide) (fun c_3 => ?_) (fun c_3 => ?_)
  · have hf := it_t c_3 hf
    exact hj_33 _ _ _ hf hC (lv_sub hl [] rfl)
  · have hf := it_f c_3 hf
    refine lv_aload_n hx hb dX3_canThrow_11 rfl (lv_at hl 0 rfl) ?_
    refine gt_X3_9_listing hx hb hta hown hK hC dX3_canThrow_12 ?_
    refine lv_iload_n hx hb dX3_canThrow_15 rfl (lv_at hl 1 rfl) ?_
    obtain ⟨hi_4, hf⟩ := ix_inv hf
    obtain ⟨v_4, e_4, hf⟩ := lt_inv hf
    refine al_X_4 hx hb hK hC hi_4 e_4 dX3_canThrow_16 ?_
    refine lv_bipush (v := 37) hx hb dX3_canThrow_17 (by decide) ?_
    refine lv_icmp_eq (tgt := 33) hx hb dX3_canThrow_19 (by decide) (fun c_5 => ?_) (fun c_5 => ?_)
    · have hf := it_t c_5 hf
      exact hj_33 _ _ _ hf hC (lv_sub hl [] rfl)
    · have hf := it_f c_5 hf
      refine lv_aload_n hx hb dX3_canThrow_22 rfl (lv_at hl 0 rfl) ?_
      refine gt_X3_9_listing hx hb hta hown hK hC dX3_canThrow_23 ?_
      refine lv_iload_n hx hb dX3_canThrow_26 rfl (lv_at hl 1 rfl) ?_
      obtain ⟨hi_6, hf⟩ := ix_inv hf
      obtain ⟨v_6, e_6, hf⟩ := lt_inv hf
      refine al_X_4 hx hb hK hC hi_6 e_6 dX3_canThrow_27 ?_
      refine lv_bipush (v := 116) hx hb dX3_canThrow_28 (by decide) ?_
      refine lv_icmp_ne (tgt := 37) hx hb dX3_canThrow_30 (by decide) (fun c_7 => ?_) (fun c_7 => ?_)
      · have hf := it_f c_7 hf
        refine lv_iconst (v := 0) hx hb dX3_canThrow_37 (by decide) ?_
        exact hret _ _ _ _ _ _ (Option.some.inj hf) rfl rfl dX3_canThrow_38 hC
      · have hf := it_t c_7 hf
        exact hj_33 _ _ _ hf hC (lv_sub hl [] rfl)

set_option maxHeartbeats 8000000 in
set_option maxRecDepth 100000 in
theorem r_X0_catcherOf {D : va_G} {y : Nat → ClassId} {o : Nat → Nat} {ad av : Nat → Nat} {x1 : Int32} {σ : Sto} {v : Int32} (hf : f_X0_catcherOf x1 σ = some v) (l : Launch) (sz : Nat) : Met l yX0_catcherOf (Cond.code yX0_catcherOf cX0_catcherOf 4 (some .int) :: ALW) { frames := 1, cells := 0, slots := 0, locals := 22 } (va_Pc [.ref (o 17), .int x1] (PZ D y ad av (WX y o σ) sz)) (QZi D (WX y o σ) v (WX y o σ) sz) 0 0 (va_A (WX y o σ) sz) := by
  refine met_i (by decide) (Nat.le_of_ble_eq_true rfl) ?_
  intro p e R s m args below meth c Q A ls hx hb hml hta hown hRc hRs hRf hRl hN hK hV hA hret hC hl
  have hl : lv_has ls 4 [(0, .ref (o 17)), (1, .int x1)] := hl
  unfold f_X0_catcherOf at hf
  refine lv_aload_n hx hb dX0_catcherOf_0 rfl (lv_at hl 0 rfl) ?_
  refine gt_X0_9_blocks hx hb hta hown hK hC dX0_catcherOf_1 ?_
  refine lv_iload_n hx hb dX0_catcherOf_4 rfl (lv_at hl 1 rfl) ?_
  obtain ⟨hi_1, hf⟩ := ix_inv hf
  obtain ⟨v_1, e_1, hf⟩ := lt_inv hf
  refine al_X_18 hx hb hK hC hi_1 e_1 dX0_catcherOf_5 ?_
  refine lv_istore_n (lv' := [(2, .int v_1), (0, .ref (o 17)), (1, .int x1)]) hx hb dX0_catcherOf_6 rfl hl (by decide) rfl (fun ls hl => ?_)
  refine itr_inv1 (P := fun (x2_2 : Int32) => ∀ (H : Heap) (locs : List Loc) (ls : Array Slot), CZ D A s H locs (WX y o σ) → lv_has ls 4 [(0, .ref (o 17)), (1, .int x1), (2, .int x2_2)] → W p l e R s m args below meth c H locs 0 0 Q (F0 m 7 ls [])) hf ?_ _ _ _ hC (lv_sub hl [1, 2, 0] rfl)
  intro a_7 x2_2 ha_7 hf H locs ls hC hl
  refine lv_iload_n hx hb dX0_catcherOf_7 rfl (lv_at hl 2 rfl) ?_
  refine lv_aload_n hx hb dX0_catcherOf_8 rfl (lv_at hl 0 rfl) ?_
  refine gt_X0_15_blocks hx hb hta hown hK hC dX0_catcherOf_9 ?_
  refine lv_iload_n hx hb dX0_catcherOf_12 rfl (lv_at hl 1 rfl) ?_
  obtain ⟨hi_3, hf⟩ := ix_inv hf
  obtain ⟨v_3, e_3, hf⟩ := lt_inv hf
  refine al_X_19 hx hb hK hC hi_3 e_3 dX0_catcherOf_13 ?_
  refine lv_icmp_gt (tgt := 67) hx hb dX0_catcherOf_14 (by decide) (fun c_4 => ?_) (fun c_4 => ?_)
  · have hf := it_t c_4 hf
    refine lv_iconst (v := (-1)) hx hb dX0_catcherOf_67 (by decide) ?_
    exact hret _ _ _ _ _ _ (Option.some.inj hf) rfl rfl dX0_catcherOf_68 hC
  · have hf := it_f c_4 hf
    refine lv_aload_n hx hb dX0_catcherOf_17 rfl (lv_at hl 0 rfl) ?_
    refine gt_X0_50_blocks hx hb hta hown hK hC dX0_catcherOf_18 ?_
    refine lv_iload_n hx hb dX0_catcherOf_21 rfl (lv_at hl 2 rfl) ?_
    obtain ⟨v_5, hc_5, hf⟩ := calp_inv hf
    refine cc_Vi (r_X3_canThrow (D := D) (y := y) (o := o) (ad := ad) (av := av) hc_5 l) hx hb hml hta hown hK hN hV hA hC hRc hRs (by omega) (by omega) wq_49 (q := 3) (ci := 3) rfl rfl wq_50 wq_51 wq_27 wq_43 hd_X3_canThrow (As := [.int x2_2]) (rest := []) rfl rfl hl.1 rfl dX0_catcherOf_22 (fun H locs hC => ?_)
    obtain ⟨k_40, hk_40, hf⟩ := jn_inv1 hf
    have hj_40 : ∀ (t0_6 : Int32) (H : Heap) (locs : List Loc) (ls : Array Slot), k_40 t0_6 = some v → CZ D A s H locs (WX y o σ) → lv_has ls 4 [(0, .ref (o 17)), (1, .int x1), (2, .int x2_2)] → W p l e R s m args below meth c H locs 0 0 Q (F0 m 40 ls [.int t0_6]) := by
      intro t0_6 H locs ls hf hC hl
      have hf := hk_40 _ hf
      refine lv_istore_n (lv' := [(3, .int t0_6), (0, .ref (o 17)), (1, .int x1), (2, .int x2_2)]) hx hb dX0_catcherOf_40 rfl hl (by decide) rfl (fun ls hl => ?_)
      refine lv_iload_n hx hb dX0_catcherOf_41 rfl (lv_at hl 0 rfl) ?_
      refine lv_iconst (v := (-1)) hx hb dX0_catcherOf_42 (by decide) ?_
      refine lv_icmp_eq (tgt := 61) hx hb dX0_catcherOf_43 (by decide) (fun c_7 => ?_) (fun c_7 => ?_)
      · have hf := it_t c_7 hf
        obtain ⟨x2_8, e_8, hf⟩ := lt_inv hf
        refine lv_iinc (v := x2_8) (lv' := [(2, .int x2_8), (3, .int t0_6), (0, .ref (o 17)), (1, .int x1)]) hx hb dX0_catcherOf_61 hl (k := 3) rfl e_8.symm (by decide) rfl (fun ls hl => ?_)
        refine lv_goto (tgt := 7) hx hb dX0_catcherOf_64 (by decide) ?_
        exact ha_7 _ hf _ _ _ hC (lv_sub hl [2, 3, 0] rfl)
      · have hf := it_f c_7 hf
        refine lv_aload_n hx hb dX0_catcherOf_46 rfl (lv_at hl 1 rfl) ?_
        refine gt_X0_18_blocks hx hb hta hown hK hC dX0_catcherOf_47 ?_
        refine lv_aload_n hx hb dX0_catcherOf_50 rfl (lv_at hl 1 rfl) ?_
        refine gt_X0_50_blocks hx hb hta hown hK hC dX0_catcherOf_51 ?_
        refine gt_X0_106_listing hx hb hta hown hK hC dX0_catcherOf_54 ?_
        refine lv_iload_n hx hb dX0_catcherOf_57 rfl (lv_at hl 0 rfl) ?_
        obtain ⟨hi_9, hf⟩ := ix_inv hf
        obtain ⟨v_9, e_9, hf⟩ := lt_inv hf
        refine al_X_9 hx hb hK hC hi_9 e_9 dX0_catcherOf_58 ?_
        obtain ⟨hi_10, hf⟩ := ix_inv hf
        obtain ⟨v_10, e_10, hf⟩ := lt_inv hf
        refine al_X_20 hx hb hK hC hi_10 e_10 dX0_catcherOf_59 ?_
        exact hret _ _ _ _ _ _ (Option.some.inj hf) rfl rfl dX0_catcherOf_60 hC
    refine lv_if_eq (tgt := 39) hx hb dX0_catcherOf_25 (by decide) (fun c_11 => ?_) (fun c_11 => ?_)
    · have hf := it_t c_11 hf
      refine lv_iconst (v := (-1)) hx hb dX0_catcherOf_39 (by decide) ?_
      exact hj_40 _ _ _ _ hf hC hl
    · have hf := it_f c_11 hf
      refine lv_aload_n hx hb dX0_catcherOf_28 rfl (lv_at hl 0 rfl) ?_
      refine gt_X0_50_blocks hx hb hta hown hK hC dX0_catcherOf_29 ?_
      refine lv_iload_n hx hb dX0_catcherOf_32 rfl (lv_at hl 2 rfl) ?_
      obtain ⟨v_12, hc_12, hf⟩ := calp_inv hf
      refine cc_Vi (r_X3_handlerOf (D := D) (y := y) (o := o) (ad := ad) (av := av) hc_12 l) hx hb hml hta hown hK hN hV hA hC hRc hRs (by omega) (by omega) wq_52 (q := 3) (ci := 3) rfl rfl wq_53 wq_54 wq_27 wq_44 hd_X3_handlerOf (As := [.int x2_2]) (rest := []) rfl rfl hl.1 rfl dX0_catcherOf_33 (fun H locs hC => ?_)
      refine lv_goto (tgt := 40) hx hb dX0_catcherOf_36 (by decide) ?_
      exact hj_40 _ _ _ _ hf hC hl

set_option maxHeartbeats 8000000 in
set_option maxRecDepth 100000 in
theorem r_X0_edgeTo {D : va_G} {y : Nat → ClassId} {o : Nat → Nat} {ad av : Nat → Nat} {x1 : Int32} {x2 : Int32} {σ : Sto} {v : Int32} (hf : f_X0_edgeTo x1 x2 σ = some v) (l : Launch) (sz : Nat) : Met l yX0_edgeTo (Cond.code yX0_edgeTo cX0_edgeTo 5 (some .int) :: ALW) { frames := 0, cells := 0, slots := 0, locals := 0 } (va_Pc [.ref (o 17), .int x1, .int x2] (PZ D y ad av (WX y o σ) sz)) (QZi D (WX y o σ) v (WX y o σ) sz) 0 0 (va_A (WX y o σ) sz) := by
  refine met_i (by decide) (Nat.le_of_ble_eq_true rfl) ?_
  intro p e R s m args below meth c Q A ls hx hb hml hta hown hRc hRs hRf hRl hN hK hV hA hret hC hl
  have hl : lv_has ls 5 [(0, .ref (o 17)), (1, .int x1), (2, .int x2)] := hl
  unfold f_X0_edgeTo at hf
  refine lv_aload_n hx hb dX0_edgeTo_0 rfl (lv_at hl 0 rfl) ?_
  refine gt_X0_34_blocks hx hb hta hown hK hC dX0_edgeTo_1 ?_
  refine lv_iload_n hx hb dX0_edgeTo_4 rfl (lv_at hl 1 rfl) ?_
  obtain ⟨hi_1, hf⟩ := ix_inv hf
  obtain ⟨v_1, e_1, hf⟩ := lt_inv hf
  refine al_X_25 hx hb hK hC hi_1 e_1 dX0_edgeTo_5 ?_
  refine lv_istore_n (lv' := [(3, .int v_1), (0, .ref (o 17)), (1, .int x1), (2, .int x2)]) hx hb dX0_edgeTo_6 rfl hl (by decide) rfl (fun ls hl => ?_)
  refine lv_aload_n hx hb dX0_edgeTo_7 rfl (lv_at hl 1 rfl) ?_
  refine gt_X0_34_blocks hx hb hta hown hK hC dX0_edgeTo_8 ?_
  refine lv_iload_n hx hb dX0_edgeTo_11 rfl (lv_at hl 2 rfl) ?_
  obtain ⟨hi_2, hf⟩ := ix_inv hf
  obtain ⟨v_2, e_2, hf⟩ := lt_inv hf
  refine al_X_25 hx hb hK hC hi_2 e_2 dX0_edgeTo_12 ?_
  refine lv_istore (lv' := [(4, .int v_2), (3, .int v_1), (0, .ref (o 17)), (1, .int x1), (2, .int x2)]) hx hb dX0_edgeTo_13 hl (by decide) rfl (fun ls hl => ?_)
  refine itr_inv2 (P := fun (x3_3 : Int32) (x4_3 : Int32) => ∀ (H : Heap) (locs : List Loc) (ls : Array Slot), CZ D A s H locs (WX y o σ) → lv_has ls 5 [(0, .ref (o 17)), (1, .int x1), (2, .int x2), (3, .int x3_3), (4, .int x4_3)] → W p l e R s m args below meth c H locs 0 0 Q (F0 m 15 ls [])) hf ?_ _ _ _ hC (lv_sub hl [2, 3, 4, 1, 0] rfl)
  intro a_15 x3_3 x4_3 ha_15 hf H locs ls hC hl
  refine lv_iload hx hb dX0_edgeTo_15 (lv_at hl 4 rfl) ?_
  refine lv_aload_n hx hb dX0_edgeTo_17 rfl (lv_at hl 0 rfl) ?_
  refine gt_X0_70_blocks hx hb hta hown hK hC dX0_edgeTo_18 ?_
  refine lv_icmp_ge (tgt := 55) hx hb dX0_edgeTo_21 (by decide) (fun c_4 => ?_) (fun c_4 => ?_)
  · have hf := it_t c_4 hf
    refine lv_iload_n hx hb dX0_edgeTo_55 rfl (lv_at hl 3 rfl) ?_
    exact hret _ _ _ _ _ _ (Option.some.inj hf) rfl rfl dX0_edgeTo_56 hC
  · have hf := it_f c_4 hf
    refine lv_aload_n hx hb dX0_edgeTo_24 rfl (lv_at hl 0 rfl) ?_
    refine gt_X0_37_blocks hx hb hta hown hK hC dX0_edgeTo_25 ?_
    refine lv_iload hx hb dX0_edgeTo_28 (lv_at hl 4 rfl) ?_
    obtain ⟨hi_5, hf⟩ := ix_inv hf
    obtain ⟨v_5, e_5, hf⟩ := lt_inv hf
    refine al_X_26 hx hb hK hC hi_5 e_5 dX0_edgeTo_30 ?_
    refine lv_iload_n hx hb dX0_edgeTo_31 rfl (lv_at hl 1 rfl) ?_
    refine lv_icmp_ne (tgt := 55) hx hb dX0_edgeTo_32 (by decide) (fun c_6 => ?_) (fun c_6 => ?_)
    · have hf := it_f c_6 hf
      refine lv_iload_n hx hb dX0_edgeTo_55 rfl (lv_at hl 3 rfl) ?_
      exact hret _ _ _ _ _ _ (Option.some.inj hf) rfl rfl dX0_edgeTo_56 hC
    · have hf := it_t c_6 hf
      refine lv_aload_n hx hb dX0_edgeTo_35 rfl (lv_at hl 0 rfl) ?_
      refine gt_X0_40_blocks hx hb hta hown hK hC dX0_edgeTo_36 ?_
      refine lv_iload hx hb dX0_edgeTo_39 (lv_at hl 4 rfl) ?_
      obtain ⟨hi_7, hf⟩ := ix_inv hf
      obtain ⟨v_7, e_7, hf⟩ := lt_inv hf
      refine al_X_27 hx hb hK hC hi_7 e_7 dX0_edgeTo_41 ?_
      refine lv_iload_n hx hb dX0_edgeTo_42 rfl (lv_at hl 2 rfl) ?_
      obtain ⟨k_49, hk_49, hf⟩ := jn_inv1 hf
      have hj_49 : ∀ (x3_8 : Int32) (H : Heap) (locs : List Loc) (ls : Array Slot), k_49 x3_8 = some v → CZ D A s H locs (WX y o σ) → lv_has ls 5 [(0, .ref (o 17)), (1, .int x1), (2, .int x2), (3, .int x3_8), (4, .int x4_3)] → W p l e R s m args below meth c H locs 0 0 Q (F0 m 49 ls []) := by
        intro x3_8 H locs ls hf hC hl
        have hf := hk_49 _ hf
        obtain ⟨x4_9, e_9, hf⟩ := lt_inv hf
        refine lv_iinc (v := x4_9) (lv' := [(4, .int x4_9), (0, .ref (o 17)), (1, .int x1), (2, .int x2), (3, .int x3_8)]) hx hb dX0_edgeTo_49 hl (k := 4) rfl e_9.symm (by decide) rfl (fun ls hl => ?_)
        refine lv_goto (tgt := 15) hx hb dX0_edgeTo_52 (by decide) ?_
        exact ha_15 _ _ hf _ _ _ hC (lv_sub hl [1, 2, 3, 4, 0] rfl)
      refine lv_icmp_ne (tgt := 49) hx hb dX0_edgeTo_43 (by decide) (fun c_10 => ?_) (fun c_10 => ?_)
      · have hf := it_f c_10 hf
        exact hj_49 _ _ _ _ hf hC hl
      · have hf := it_t c_10 hf
        refine lv_iload hx hb dX0_edgeTo_46 (lv_at hl 4 rfl) ?_
        refine lv_istore_n (lv' := [(3, .int x4_3), (0, .ref (o 17)), (1, .int x1), (2, .int x2), (4, .int x4_3)]) hx hb dX0_edgeTo_48 rfl hl (by decide) rfl (fun ls hl => ?_)
        exact hj_49 _ _ _ _ hf hC (lv_sub hl [1, 2, 3, 0, 4] rfl)

set_option maxHeartbeats 8000000 in
set_option maxRecDepth 100000 in
theorem r_X0_lead {D : va_G} {y : Nat → ClassId} {o : Nat → Nat} {ad av : Nat → Nat} {x1 : Int32} {x2 : Int32} {x3 : Int32} {σ : Sto} {σ2 : Sto} (hf : f_X0_lead x1 x2 x3 σ = some σ2) (l : Launch) (sz : Nat) : Met l yX0_lead (Cond.code yX0_lead cX0_lead 5 none :: ALW) { frames := 1, cells := 0, slots := 0, locals := 24 } (va_Pc [.ref (o 17), .int x1, .int x2, .int x3] (PZ D y ad av (WX y o σ) sz)) (QZv D (WX y o σ) (WX y o σ2) sz) 0 0 (va_A (WX y o σ) sz) := by
  refine met_v (by decide) (Nat.le_of_ble_eq_true rfl) ?_
  intro p e R s m args below meth c Q A ls hx hb hml hta hown hRc hRs hRf hRl hN hK hV hA hret hC hl
  have hl : lv_has ls 5 [(0, .ref (o 17)), (1, .int x1), (2, .int x2), (3, .int x3)] := hl
  unfold f_X0_lead at hf
  refine lv_iload_n hx hb dX0_lead_0 rfl (lv_at hl 2 rfl) ?_
  refine lv_iconst (v := (-1)) hx hb dX0_lead_1 (by decide) ?_
  refine lv_icmp_ne (tgt := 6) hx hb dX0_lead_2 (by decide) (fun c_1 => ?_) (fun c_1 => ?_)
  · have hf := it_f c_1 hf
    refine lv_aload_n hx hb dX0_lead_6 rfl (lv_at hl 0 rfl) ?_
    refine gt_X0_30_blocks hx hb hta hown hK hC dX0_lead_7 ?_
    refine lv_iload_n hx hb dX0_lead_10 rfl (lv_at hl 1 rfl) ?_
    obtain ⟨hi_2, hf⟩ := ix_inv hf
    obtain ⟨v_2, e_2, hf⟩ := lt_inv hf
    refine al_X_24 hx hb hK hC hi_2 e_2 dX0_lead_11 ?_
    refine lv_iload_n hx hb dX0_lead_12 rfl (lv_at hl 2 rfl) ?_
    obtain ⟨v_3, hc_3, hf⟩ := calp_inv hf
    refine cc_SiN (r_X11_isIn (D := D) (y := y) (w := WX y o σ) (ad := ad) (av := av) hc_3 l) hx hb hml hta hown hK hN hV hA hC hRc hRs (by omega) (by omega) (nw_X0_125 hN) wq_37 wq_38 wq_33 hd_X11_isIn (As := [.long v_2, .int x2]) (rest := []) rfl rfl hl.1 rfl dX0_lead_13 (fun H locs hC => ?_)
    refine lv_if_eq (tgt := 54) hx hb dX0_lead_16 (by decide) (fun c_4 => ?_) (fun c_4 => ?_)
    · have hf := it_t c_4 hf
      refine lv_aload_n hx hb dX0_lead_54 rfl (lv_at hl 0 rfl) ?_
      refine gt_X0_30_blocks hx hb hta hown hK hC dX0_lead_55 ?_
      refine lv_iload_n hx hb dX0_lead_58 rfl (lv_at hl 1 rfl) ?_
      refine lv_dup2_11 hx hb dX0_lead_59 rfl rfl ?_
      obtain ⟨hi_5, hf⟩ := ix_inv hf
      obtain ⟨v_5, e_5, hf⟩ := lt_inv hf
      refine al_X_24 hx hb hK hC hi_5 e_5 dX0_lead_60 ?_
      refine lv_lconst (v := 1) hx hb dX0_lead_61 rfl ?_
      refine lv_iload_n hx hb dX0_lead_62 rfl (lv_at hl 2 rfl) ?_
      refine lv_lshl hx hb dX0_lead_63 rfl ?_
      refine lv_lor hx hb dX0_lead_64 ?_
      obtain ⟨hi_6, hf⟩ := ix_inv hf
      obtain ⟨s_6, e_6, hf⟩ := lt_inv hf
      refine as_X_24 hx hb hK hC hi_6 e_6 dX0_lead_65 (fun H locs hC => ?_)
      refine lv_aload_n hx hb dX0_lead_66 rfl (lv_at hl 0 rfl) ?_
      refine gt_X0_37_blocks hx hb hta hown hK hC dX0_lead_67 ?_
      refine lv_aload_n hx hb dX0_lead_70 rfl (lv_at hl 0 rfl) ?_
      refine gt_X0_70_blocks hx hb hta hown hK hC dX0_lead_71 ?_
      refine lv_iload_n hx hb dX0_lead_74 rfl (lv_at hl 1 rfl) ?_
      obtain ⟨hi_7, hf⟩ := ix_inv hf
      obtain ⟨s_7, e_7, hf⟩ := lt_inv hf
      refine as_X_26 hx hb hK hC hi_7 e_7 dX0_lead_75 (fun H locs hC => ?_)
      refine lv_aload_n hx hb dX0_lead_76 rfl (lv_at hl 0 rfl) ?_
      refine gt_X0_40_blocks hx hb hta hown hK hC dX0_lead_77 ?_
      refine lv_aload_n hx hb dX0_lead_80 rfl (lv_at hl 0 rfl) ?_
      refine gt_X0_70_blocks hx hb hta hown hK hC dX0_lead_81 ?_
      refine lv_iload_n hx hb dX0_lead_84 rfl (lv_at hl 2 rfl) ?_
      obtain ⟨hi_8, hf⟩ := ix_inv hf
      obtain ⟨s_8, e_8, hf⟩ := lt_inv hf
      refine as_X_27 hx hb hK hC hi_8 e_8 dX0_lead_85 (fun H locs hC => ?_)
      refine lv_aload_n hx hb dX0_lead_86 rfl (lv_at hl 0 rfl) ?_
      refine gt_X0_43_blocks hx hb hta hown hK hC dX0_lead_87 ?_
      refine lv_aload_n hx hb dX0_lead_90 rfl (lv_at hl 0 rfl) ?_
      refine gt_X0_70_blocks hx hb hta hown hK hC dX0_lead_91 ?_
      refine lv_iload_n hx hb dX0_lead_94 rfl (lv_at hl 3 rfl) ?_
      obtain ⟨hb_10, hf⟩ := bz_inv hf
      obtain ⟨hi_9, hf⟩ := ix_inv hf
      obtain ⟨s_9, e_9, hf⟩ := lt_inv hf
      refine as_X_28 hx hb hK hC hi_9 hb_10 e_9 dX0_lead_95 (fun H locs hC => ?_)
      refine lv_aload_n hx hb dX0_lead_96 rfl (lv_at hl 0 rfl) ?_
      refine lv_dup hx hb dX0_lead_97 rfl ?_
      refine gt_X0_70_blocks hx hb hta hown hK hC dX0_lead_98 ?_
      refine lv_iconst (v := 1) hx hb dX0_lead_101 (by decide) ?_
      refine lv_iadd hx hb dX0_lead_102 ?_
      obtain ⟨s_11, e_11, hf⟩ := lt_inv hf
      refine pt_X0_70_blocks hx hb hta hown hK hC e_11 dX0_lead_103 (fun H locs hC => ?_)
      exact hret _ _ _ _ _ (congrArg (WX y o) (Option.some.inj hf)) dX0_lead_106 hC
    · have hf := it_f c_4 hf
      refine lv_aload_n hx hb dX0_lead_19 rfl (lv_at hl 0 rfl) ?_
      refine lv_iload_n hx hb dX0_lead_20 rfl (lv_at hl 1 rfl) ?_
      refine lv_iload_n hx hb dX0_lead_21 rfl (lv_at hl 2 rfl) ?_
      obtain ⟨v_12, hc_12, hf⟩ := calp_inv hf
      refine cc_Vi (r_X0_edgeTo (D := D) (y := y) (o := o) (ad := ad) (av := av) hc_12 l) hx hb hml hta hown hK hN hV hA hC hRc hRs (by omega) (by omega) wq_39 (q := 17) (ci := 0) rfl rfl wq_40 wq_41 wq_42 wq_34 hd_X0_edgeTo (As := [.int x1, .int x2]) (rest := []) rfl rfl hl.1 rfl dX0_lead_22 (fun H locs hC => ?_)
      refine lv_istore (lv' := [(4, .int v_12), (0, .ref (o 17)), (1, .int x1), (2, .int x2), (3, .int x3)]) hx hb dX0_lead_25 hl (by decide) rfl (fun ls hl => ?_)
      refine lv_aload_n hx hb dX0_lead_27 rfl (lv_at hl 1 rfl) ?_
      refine gt_X0_43_blocks hx hb hta hown hK hC dX0_lead_28 ?_
      refine lv_iload hx hb dX0_lead_31 (lv_at hl 0 rfl) ?_
      refine lv_aload_n hx hb dX0_lead_33 rfl (lv_at hl 1 rfl) ?_
      refine gt_X0_43_blocks hx hb hta hown hK hC dX0_lead_34 ?_
      refine lv_iload hx hb dX0_lead_37 (lv_at hl 0 rfl) ?_
      obtain ⟨hi_13, hf⟩ := ix_inv hf
      obtain ⟨v_13, e_13, hf⟩ := lt_inv hf
      refine al_X_28 hx hb hK hC hi_13 e_13 dX0_lead_39 ?_
      obtain ⟨k_47, hk_47, hf⟩ := jn_inv0 hf
      have hj_47 : ∀  (H : Heap) (locs : List Loc) (ls : Array Slot), k_47 = some σ2 → CZ D A s H locs (WX y o σ) → lv_has ls 5 [] → W p l e R s m args below meth c H locs 0 0 Q (F0 m 47 ls [.int v_12, .ref (o 28)]) := by
        intro H locs ls hf hC hl
        have hf := hk_47 hf
        refine lv_iconst (v := 1) hx hb dX0_lead_47 (by decide) ?_
        refine lv_goto (tgt := 52) hx hb dX0_lead_48 (by decide) ?_
        obtain ⟨hi_15, hf⟩ := ix_inv hf
        obtain ⟨s_15, e_15, hf⟩ := lt_inv hf
        refine as_X_28 hx hb hK hC hi_15 (Or.inr rfl) e_15 dX0_lead_52 (fun H locs hC => ?_)
        exact hret _ _ _ _ _ (congrArg (WX y o) (Option.some.inj hf)) dX0_lead_53 hC
      refine lv_if_ne (tgt := 47) hx hb dX0_lead_40 (by decide) (fun c_16 => ?_) (fun c_16 => ?_)
      · have hf := it_f c_16 hf
        exact hj_47 _ _ _ hf hC (lv_sub hl [] rfl)
      · have hf := it_t c_16 hf
        refine lv_iload_n hx hb dX0_lead_43 rfl (lv_at hl 4 rfl) ?_
        refine lv_if_eq (tgt := 51) hx hb dX0_lead_44 (by decide) (fun c_17 => ?_) (fun c_17 => ?_)
        · have hf := it_t c_17 hf
          refine lv_iconst (v := 0) hx hb dX0_lead_51 (by decide) ?_
          obtain ⟨hi_18, hf⟩ := ix_inv hf
          obtain ⟨s_18, e_18, hf⟩ := lt_inv hf
          refine as_X_28 hx hb hK hC hi_18 (Or.inl rfl) e_18 dX0_lead_52 (fun H locs hC => ?_)
          exact hret _ _ _ _ _ (congrArg (WX y o) (Option.some.inj hf)) dX0_lead_53 hC
        · have hf := it_f c_17 hf
          exact hj_47 _ _ _ hf hC (lv_sub hl [] rfl)
  · have hf := it_t c_1 hf
    exact hret _ _ _ _ _ (congrArg (WX y o) (Option.some.inj hf)) dX0_lead_5 hC

set_option maxHeartbeats 8000000 in
set_option maxRecDepth 100000 in
theorem r_X0_join {D : va_G} {y : Nat → ClassId} {o : Nat → Nat} {ad av : Nat → Nat} {x1 : Int32} {σ : Sto} {σ2 : Sto} (hf : f_X0_join x1 σ = some σ2) (l : Launch) (sz : Nat) : Met l yX0_join (Cond.code yX0_join cX0_join 4 none :: ALW) { frames := 2, cells := 0, slots := 0, locals := 48 } (va_Pc [.ref (o 17), .int x1] (PZ D y ad av (WX y o σ) sz)) (QZv D (WX y o σ) (WX y o σ2) sz) 0 0 (va_A (WX y o σ) sz) := by
  refine met_v (by decide) (Nat.le_of_ble_eq_true rfl) ?_
  intro p e R s m args below meth c Q A ls hx hb hml hta hown hRc hRs hRf hRl hN hK hV hA hret hC hl
  have hl : lv_has ls 4 [(0, .ref (o 17)), (1, .int x1)] := hl
  unfold f_X0_join at hf
  refine lv_aload_n hx hb dX0_join_0 rfl (lv_at hl 0 rfl) ?_
  refine gt_X0_15_blocks hx hb hta hown hK hC dX0_join_1 ?_
  refine lv_iload_n hx hb dX0_join_4 rfl (lv_at hl 1 rfl) ?_
  obtain ⟨hi_1, hf⟩ := ix_inv hf
  obtain ⟨v_1, e_1, hf⟩ := lt_inv hf
  refine al_X_19 hx hb hK hC hi_1 e_1 dX0_join_5 ?_
  refine lv_istore_n (lv' := [(2, .int v_1), (0, .ref (o 17)), (1, .int x1)]) hx hb dX0_join_6 rfl hl (by decide) rfl (fun ls hl => ?_)
  refine lv_aload_n hx hb dX0_join_7 rfl (lv_at hl 1 rfl) ?_
  refine gt_X0_34_blocks hx hb hta hown hK hC dX0_join_8 ?_
  refine lv_iload_n hx hb dX0_join_11 rfl (lv_at hl 2 rfl) ?_
  refine lv_aload_n hx hb dX0_join_12 rfl (lv_at hl 1 rfl) ?_
  refine gt_X0_70_blocks hx hb hta hown hK hC dX0_join_13 ?_
  obtain ⟨hi_2, hf⟩ := ix_inv hf
  obtain ⟨s_2, e_2, hf⟩ := lt_inv hf
  refine as_X_25 hx hb hK hC hi_2 e_2 dX0_join_16 (fun H locs hC => ?_)
  refine lv_aload_n hx hb dX0_join_17 rfl (lv_at hl 1 rfl) ?_
  refine gt_X0_30_blocks hx hb hta hown hK hC dX0_join_18 ?_
  refine lv_iload_n hx hb dX0_join_21 rfl (lv_at hl 2 rfl) ?_
  refine lv_lconst (v := 0) hx hb dX0_join_22 rfl ?_
  obtain ⟨hi_3, hf⟩ := ix_inv hf
  obtain ⟨s_3, e_3, hf⟩ := lt_inv hf
  refine as_X_24 hx hb hK hC hi_3 e_3 dX0_join_23 (fun H locs hC => ?_)
  refine lv_aload_n hx hb dX0_join_24 rfl (lv_at hl 1 rfl) ?_
  refine gt_X0_21_blocks hx hb hta hown hK hC dX0_join_25 ?_
  refine lv_iload_n hx hb dX0_join_28 rfl (lv_at hl 2 rfl) ?_
  refine lv_iconst (v := (-1)) hx hb dX0_join_29 (by decide) ?_
  obtain ⟨hi_4, hf⟩ := ix_inv hf
  obtain ⟨s_4, e_4, hf⟩ := lt_inv hf
  refine as_X_21 hx hb hK hC hi_4 e_4 dX0_join_30 (fun H locs hC => ?_)
  refine lv_aload_n hx hb dX0_join_31 rfl (lv_at hl 1 rfl) ?_
  refine gt_X0_24_blocks hx hb hta hown hK hC dX0_join_32 ?_
  refine lv_iload_n hx hb dX0_join_35 rfl (lv_at hl 2 rfl) ?_
  refine lv_iconst (v := (-1)) hx hb dX0_join_36 (by decide) ?_
  obtain ⟨hi_5, hf⟩ := ix_inv hf
  obtain ⟨s_5, e_5, hf⟩ := lt_inv hf
  refine as_X_22 hx hb hK hC hi_5 e_5 dX0_join_37 (fun H locs hC => ?_)
  refine lv_aload_n hx hb dX0_join_38 rfl (lv_at hl 1 rfl) ?_
  refine gt_X0_50_blocks hx hb hta hown hK hC dX0_join_39 ?_
  refine lv_iload_n hx hb dX0_join_42 rfl (lv_at hl 0 rfl) ?_
  obtain ⟨v_6, hc_6, hf⟩ := calp_inv hf
  refine cc_Vi (r_X3_goesOn (D := D) (y := y) (o := o) (ad := ad) (av := av) hc_6 l) hx hb hml hta hown hK hN hV hA hC hRc hRs (by omega) (by omega) wq_55 (q := 3) (ci := 3) rfl rfl wq_56 wq_57 wq_27 wq_31 hd_X3_goesOn (As := [.int v_1]) (rest := []) rfl rfl hl.1 rfl dX0_join_43 (fun H locs hC => ?_)
  obtain ⟨k_77, hk_77, hf⟩ := jn_inv1 hf
  have hj_77 : ∀ (s_7 : Sto) (H : Heap) (locs : List Loc) (ls : Array Slot), k_77 s_7 = some σ2 → CZ D A s H locs (WX y o s_7) → lv_has ls 4 [(0, .ref (o 17)), (1, .int x1), (2, .int v_1)] → W p l e R s m args below meth c H locs 0 0 Q (F0 m 77 ls []) := by
    intro s_7 H locs ls hf hC hl
    have hf := hk_77 _ hf
    refine lv_aload_n hx hb dX0_join_77 rfl (lv_at hl 0 rfl) ?_
    refine gt_X0_50_blocks hx hb hta hown hK hC dX0_join_78 ?_
    refine lv_iload_n hx hb dX0_join_81 rfl (lv_at hl 2 rfl) ?_
    obtain ⟨v_8, hc_8, hf⟩ := calp_inv hf
    refine cc_Vi (r_X3_goesElsewhere (D := D) (y := y) (o := o) (ad := ad) (av := av) hc_8 l) hx hb hml hta hown hK hN hV hA hC hRc hRs (by omega) (by omega) wq_24 (q := 3) (ci := 3) rfl rfl wq_25 wq_26 wq_27 wq_13 hd_X3_goesElsewhere (As := [.int v_1]) (rest := []) rfl rfl hl.1 rfl dX0_join_82 (fun H locs hC => ?_)
    obtain ⟨k_147, hk_147, hf⟩ := jn_inv1 hf
    have hj_147 : ∀ (s_9 : Sto) (H : Heap) (locs : List Loc) (ls : Array Slot), k_147 s_9 = some σ2 → CZ D A s H locs (WX y o s_9) → lv_has ls 4 [(0, .ref (o 17)), (1, .int x1)] → W p l e R s m args below meth c H locs 0 0 Q (F0 m 147 ls []) := by
      intro s_9 H locs ls hf hC hl
      have hf := hk_147 _ hf
      refine lv_aload_n hx hb dX0_join_147 rfl (lv_at hl 0 rfl) ?_
      refine gt_X0_27_blocks hx hb hta hown hK hC dX0_join_148 ?_
      refine lv_iload_n hx hb dX0_join_151 rfl (lv_at hl 1 rfl) ?_
      refine lv_aload_n hx hb dX0_join_152 rfl (lv_at hl 0 rfl) ?_
      refine lv_iload_n hx hb dX0_join_153 rfl (lv_at hl 1 rfl) ?_
      obtain ⟨v_10, hc_10, hf⟩ := calp_inv hf
      refine cc_Vi (r_X0_catcherOf (D := D) (y := y) (o := o) (ad := ad) (av := av) hc_10 l) hx hb hml hta hown hK hN hV hA hC hRc hRs (by omega) (by omega) wq_61 (q := 17) (ci := 0) rfl rfl wq_62 wq_63 wq_42 wq_48 hd_X0_catcherOf (As := [.int x1]) (rest := [.int x1, .ref (o 23)]) rfl rfl hl.1 rfl dX0_join_154 (fun H locs hC => ?_)
      obtain ⟨hi_11, hf⟩ := ix_inv hf
      obtain ⟨s_11, e_11, hf⟩ := lt_inv hf
      refine as_X_23 hx hb hK hC hi_11 e_11 dX0_join_157 (fun H locs hC => ?_)
      refine lv_aload_n hx hb dX0_join_158 rfl (lv_at hl 0 rfl) ?_
      refine gt_X0_27_blocks hx hb hta hown hK hC dX0_join_159 ?_
      refine lv_iload_n hx hb dX0_join_162 rfl (lv_at hl 1 rfl) ?_
      obtain ⟨hi_12, hf⟩ := ix_inv hf
      obtain ⟨v_12, e_12, hf⟩ := lt_inv hf
      refine al_X_23 hx hb hK hC hi_12 e_12 dX0_join_163 ?_
      refine lv_iconst (v := (-1)) hx hb dX0_join_164 (by decide) ?_
      refine lv_icmp_eq (tgt := 180) hx hb dX0_join_165 (by decide) (fun c_13 => ?_) (fun c_13 => ?_)
      · have hf := it_t c_13 hf
        exact hret _ _ _ _ _ (congrArg (WX y o) (Option.some.inj hf)) dX0_join_180 hC
      · have hf := it_f c_13 hf
        refine lv_aload_n hx hb dX0_join_168 rfl (lv_at hl 0 rfl) ?_
        refine lv_iload_n hx hb dX0_join_169 rfl (lv_at hl 1 rfl) ?_
        refine lv_aload_n hx hb dX0_join_170 rfl (lv_at hl 0 rfl) ?_
        refine gt_X0_27_blocks hx hb hta hown hK hC dX0_join_171 ?_
        refine lv_iload_n hx hb dX0_join_174 rfl (lv_at hl 1 rfl) ?_
        obtain ⟨hi_14, hf⟩ := ix_inv hf
        obtain ⟨v_14, e_14, hf⟩ := lt_inv hf
        refine al_X_23 hx hb hK hC hi_14 e_14 dX0_join_175 ?_
        refine lv_iconst (v := 1) hx hb dX0_join_176 (by decide) ?_
        obtain ⟨s_15, hc_15, hf⟩ := cals_inv hf
        refine cc_Vv (r_X0_lead (D := D) (y := y) (o := o) (ad := ad) (av := av) hc_15 l) hx hb hml hta hown hK hN hV hA hC hRc hRs (by omega) (by omega) wq_58 (q := 17) (ci := 0) rfl rfl wq_59 wq_60 wq_42 wq_36 hd_X0_lead (As := [.int x1, .int v_14, .int 1]) (rest := []) rfl rfl hl.1 rfl dX0_join_177 (fun H locs hC => ?_)
        exact hret _ _ _ _ _ (congrArg (WX y o) (Option.some.inj hf)) dX0_join_180 hC
    refine lv_if_eq (tgt := 147) hx hb dX0_join_85 (by decide) (fun c_16 => ?_) (fun c_16 => ?_)
    · have hf := it_t c_16 hf
      exact hj_147 _ _ _ _ hf hC (lv_sub hl [0, 1] rfl)
    · have hf := it_f c_16 hf
      refine lv_aload_n hx hb dX0_join_88 rfl (lv_at hl 0 rfl) ?_
      refine gt_X0_18_blocks hx hb hta hown hK hC dX0_join_89 ?_
      refine lv_aload_n hx hb dX0_join_92 rfl (lv_at hl 0 rfl) ?_
      refine gt_X0_50_blocks hx hb hta hown hK hC dX0_join_93 ?_
      refine gt_X0_91_listing hx hb hta hown hK hC dX0_join_96 ?_
      refine lv_iload_n hx hb dX0_join_99 rfl (lv_at hl 2 rfl) ?_
      obtain ⟨hi_17, hf⟩ := ix_inv hf
      obtain ⟨v_17, e_17, hf⟩ := lt_inv hf
      refine al_X_5 hx hb hK hC hi_17 e_17 dX0_join_100 ?_
      obtain ⟨hi_18, hf⟩ := ix_inv hf
      obtain ⟨v_18, e_18, hf⟩ := lt_inv hf
      refine al_X_20 hx hb hK hC hi_18 e_18 dX0_join_101 ?_
      refine lv_istore_n (lv' := [(3, .int v_18), (0, .ref (o 17)), (1, .int x1), (2, .int v_1)]) hx hb dX0_join_102 rfl hl (by decide) rfl (fun ls hl => ?_)
      refine lv_aload_n hx hb dX0_join_103 rfl (lv_at hl 1 rfl) ?_
      refine gt_X0_21_blocks hx hb hta hown hK hC dX0_join_104 ?_
      refine lv_iload_n hx hb dX0_join_107 rfl (lv_at hl 2 rfl) ?_
      obtain ⟨hi_19, hf⟩ := ix_inv hf
      obtain ⟨v_19, e_19, hf⟩ := lt_inv hf
      refine al_X_21 hx hb hK hC hi_19 e_19 dX0_join_108 ?_
      refine lv_iconst (v := (-1)) hx hb dX0_join_109 (by decide) ?_
      obtain ⟨k_140, hk_140, hf⟩ := jn_inv1 hf
      have hj_140 : ∀ (s_20 : Sto) (H : Heap) (locs : List Loc) (ls : Array Slot), k_140 s_20 = some σ2 → CZ D A s H locs (WX y o s_20) → lv_has ls 4 [(0, .ref (o 17)), (1, .int x1), (3, .int v_18)] → W p l e R s m args below meth c H locs 0 0 Q (F0 m 140 ls []) := by
        intro s_20 H locs ls hf hC hl
        have hf := hk_140 _ hf
        refine lv_aload_n hx hb dX0_join_140 rfl (lv_at hl 0 rfl) ?_
        refine lv_iload_n hx hb dX0_join_141 rfl (lv_at hl 1 rfl) ?_
        refine lv_iload_n hx hb dX0_join_142 rfl (lv_at hl 2 rfl) ?_
        refine lv_iconst (v := 0) hx hb dX0_join_143 (by decide) ?_
        obtain ⟨s_21, hc_21, hf⟩ := cals_inv hf
        refine cc_Vv (r_X0_lead (D := D) (y := y) (o := o) (ad := ad) (av := av) hc_21 l) hx hb hml hta hown hK hN hV hA hC hRc hRs (by omega) (by omega) wq_58 (q := 17) (ci := 0) rfl rfl wq_59 wq_60 wq_42 wq_36 hd_X0_lead (As := [.int x1, .int v_18, .int 0]) (rest := []) rfl rfl hl.1 rfl dX0_join_144 (fun H locs hC => ?_)
        exact hj_147 _ _ _ _ hf hC (lv_sub hl [0, 1] rfl)
      refine lv_icmp_ne (tgt := 123) hx hb dX0_join_110 (by decide) (fun c_22 => ?_) (fun c_22 => ?_)
      · have hf := it_f c_22 hf
        refine lv_iload_n hx hb dX0_join_123 rfl (lv_at hl 0 rfl) ?_
        refine lv_aload_n hx hb dX0_join_124 rfl (lv_at hl 1 rfl) ?_
        refine gt_X0_21_blocks hx hb hta hown hK hC dX0_join_125 ?_
        refine lv_iload_n hx hb dX0_join_128 rfl (lv_at hl 2 rfl) ?_
        obtain ⟨hi_24, hf⟩ := ix_inv hf
        obtain ⟨v_24, e_24, hf⟩ := lt_inv hf
        refine al_X_21 hx hb hK hC hi_24 e_24 dX0_join_129 ?_
        refine lv_icmp_eq (tgt := 140) hx hb dX0_join_130 (by decide) (fun c_25 => ?_) (fun c_25 => ?_)
        · have hf := it_t c_25 hf
          exact hj_140 _ _ _ _ hf hC (lv_sub hl [1, 2, 0] rfl)
        · have hf := it_f c_25 hf
          refine lv_aload_n hx hb dX0_join_133 rfl (lv_at hl 1 rfl) ?_
          refine gt_X0_24_blocks hx hb hta hown hK hC dX0_join_134 ?_
          refine lv_iload_n hx hb dX0_join_137 rfl (lv_at hl 2 rfl) ?_
          refine lv_iload_n hx hb dX0_join_138 rfl (lv_at hl 0 rfl) ?_
          obtain ⟨hi_26, hf⟩ := ix_inv hf
          obtain ⟨s_26, e_26, hf⟩ := lt_inv hf
          refine as_X_22 hx hb hK hC hi_26 e_26 dX0_join_139 (fun H locs hC => ?_)
          exact hj_140 _ _ _ _ hf hC (lv_sub hl [1, 2, 0] rfl)
      · have hf := it_t c_22 hf
        refine lv_aload_n hx hb dX0_join_113 rfl (lv_at hl 1 rfl) ?_
        refine gt_X0_21_blocks hx hb hta hown hK hC dX0_join_114 ?_
        refine lv_iload_n hx hb dX0_join_117 rfl (lv_at hl 2 rfl) ?_
        refine lv_iload_n hx hb dX0_join_118 rfl (lv_at hl 0 rfl) ?_
        obtain ⟨hi_23, hf⟩ := ix_inv hf
        obtain ⟨s_23, e_23, hf⟩ := lt_inv hf
        refine as_X_21 hx hb hK hC hi_23 e_23 dX0_join_119 (fun H locs hC => ?_)
        refine lv_goto (tgt := 140) hx hb dX0_join_120 (by decide) ?_
        exact hj_140 _ _ _ _ hf hC (lv_sub hl [1, 2, 0] rfl)
  refine lv_if_eq (tgt := 77) hx hb dX0_join_46 (by decide) (fun c_27 => ?_) (fun c_27 => ?_)
  · have hf := it_t c_27 hf
    exact hj_77 _ _ _ _ hf hC (lv_sub hl [1, 2, 0] rfl)
  · have hf := it_f c_27 hf
    refine lv_aload_n hx hb dX0_join_49 rfl (lv_at hl 1 rfl) ?_
    refine gt_X0_21_blocks hx hb hta hown hK hC dX0_join_50 ?_
    refine lv_iload_n hx hb dX0_join_53 rfl (lv_at hl 2 rfl) ?_
    refine lv_aload_n hx hb dX0_join_54 rfl (lv_at hl 1 rfl) ?_
    refine gt_X0_18_blocks hx hb hta hown hK hC dX0_join_55 ?_
    refine lv_iload_n hx hb dX0_join_58 rfl (lv_at hl 0 rfl) ?_
    refine lv_iconst (v := 1) hx hb dX0_join_59 (by decide) ?_
    refine lv_iadd hx hb dX0_join_60 ?_
    obtain ⟨hi_28, hf⟩ := ix_inv hf
    obtain ⟨v_28, e_28, hf⟩ := lt_inv hf
    refine al_X_20 hx hb hK hC hi_28 e_28 dX0_join_61 ?_
    obtain ⟨hi_29, hf⟩ := ix_inv hf
    obtain ⟨s_29, e_29, hf⟩ := lt_inv hf
    refine as_X_21 hx hb hK hC hi_29 e_29 dX0_join_62 (fun H locs hC => ?_)
    refine lv_aload_n hx hb dX0_join_63 rfl (lv_at hl 1 rfl) ?_
    refine lv_iload_n hx hb dX0_join_64 rfl (lv_at hl 2 rfl) ?_
    refine lv_aload_n hx hb dX0_join_65 rfl (lv_at hl 1 rfl) ?_
    refine gt_X0_18_blocks hx hb hta hown hK hC dX0_join_66 ?_
    refine lv_iload_n hx hb dX0_join_69 rfl (lv_at hl 0 rfl) ?_
    refine lv_iconst (v := 1) hx hb dX0_join_70 (by decide) ?_
    refine lv_iadd hx hb dX0_join_71 ?_
    obtain ⟨hi_30, hf⟩ := ix_inv hf
    obtain ⟨v_30, e_30, hf⟩ := lt_inv hf
    refine al_X_20 hx hb hK hC hi_30 e_30 dX0_join_72 ?_
    refine lv_iconst (v := 0) hx hb dX0_join_73 (by decide) ?_
    obtain ⟨s_31, hc_31, hf⟩ := cals_inv hf
    refine cc_Vv (r_X0_lead (D := D) (y := y) (o := o) (ad := ad) (av := av) hc_31 l) hx hb hml hta hown hK hN hV hA hC hRc hRs (by omega) (by omega) wq_58 (q := 17) (ci := 0) rfl rfl wq_59 wq_60 wq_42 wq_36 hd_X0_lead (As := [.int x1, .int v_30, .int 0]) (rest := []) rfl rfl hl.1 rfl dX0_join_74 (fun H locs hC => ?_)
    exact hj_77 _ _ _ _ hf hC (lv_sub hl [1, 2, 0] rfl)

set_option maxHeartbeats 8000000 in
set_option maxRecDepth 100000 in
theorem r_X3_depthBehind {D : va_G} {y : Nat → ClassId} {o : Nat → Nat} {ad av : Nat → Nat} {x1 : Int32} {σ : Sto} {v : Int32} (hf : f_X3_depthBehind x1 σ = some v) (l : Launch) (sz : Nat) : Met l yX3_depthBehind (Cond.code yX3_depthBehind cX3_depthBehind 2 (some .int) :: ALW) { frames := 2, cells := 0, slots := 0, locals := 40 } (va_Pc [.ref (o 3), .int x1] (PZ D y ad av (WX y o σ) sz)) (QZi D (WX y o σ) v (WX y o σ) sz) 0 0 (va_A (WX y o σ) sz) := by
  refine met_i (by decide) (Nat.le_of_ble_eq_true rfl) ?_
  intro p e R s m args below meth c Q A ls hx hb hml hta hown hRc hRs hRf hRl hN hK hV hA hret hC hl
  have hl : lv_has ls 2 [(0, .ref (o 3)), (1, .int x1)] := hl
  unfold f_X3_depthBehind at hf
  refine lv_aload_n hx hb dX3_depthBehind_0 rfl (lv_at hl 0 rfl) ?_
  refine gt_X3_18_listing hx hb hta hown hK hC dX3_depthBehind_1 ?_
  refine lv_iload_n hx hb dX3_depthBehind_4 rfl (lv_at hl 1 rfl) ?_
  obtain ⟨hi_1, hf⟩ := ix_inv hf
  obtain ⟨v_1, e_1, hf⟩ := lt_inv hf
  refine al_X_6 hx hb hK hC hi_1 e_1 dX3_depthBehind_5 ?_
  refine lv_aload_n hx hb dX3_depthBehind_6 rfl (lv_at hl 0 rfl) ?_
  refine gt_X3_9_listing hx hb hta hown hK hC dX3_depthBehind_7 ?_
  refine lv_iload_n hx hb dX3_depthBehind_10 rfl (lv_at hl 1 rfl) ?_
  obtain ⟨hi_2, hf⟩ := ix_inv hf
  obtain ⟨v_2, e_2, hf⟩ := lt_inv hf
  refine al_X_4 hx hb hK hC hi_2 e_2 dX3_depthBehind_11 ?_
  obtain ⟨v_3, hc_3, hf⟩ := calp_inv hf
  refine cc_Si (r_X3_needs (D := D) (y := y) (w := WX y o σ) (ad := ad) (av := av) hc_3 l) hx hb hml hta hown hK hN hV hA hC hRc hRs (by omega) (by omega) wq_71 wq_72 wq_27 wq_66 hd_X3_needs (As := [.int v_2]) (rest := [.int v_1]) rfl rfl hl.1 rfl dX3_depthBehind_12 (fun H locs hC => ?_)
  refine lv_isub hx hb dX3_depthBehind_15 ?_
  refine lv_aload_n hx hb dX3_depthBehind_16 rfl (lv_at hl 0 rfl) ?_
  refine gt_X3_9_listing hx hb hta hown hK hC dX3_depthBehind_17 ?_
  refine lv_iload_n hx hb dX3_depthBehind_20 rfl (lv_at hl 1 rfl) ?_
  obtain ⟨hi_4, hf⟩ := ix_inv hf
  obtain ⟨v_4, e_4, hf⟩ := lt_inv hf
  refine al_X_4 hx hb hK hC hi_4 e_4 dX3_depthBehind_21 ?_
  obtain ⟨v_5, hc_5, hf⟩ := calp_inv hf
  refine cc_Si (r_X3_gives (D := D) (y := y) (w := WX y o σ) (ad := ad) (av := av) hc_5 l) hx hb hml hta hown hK hN hV hA hC hRc hRs (by omega) (by omega) wq_73 wq_74 wq_27 wq_68 hd_X3_gives (As := [.int v_4]) (rest := [.int (v_1 - v_3)]) rfl rfl hl.1 rfl dX3_depthBehind_22 (fun H locs hC => ?_)
  refine lv_iadd hx hb dX3_depthBehind_25 ?_
  exact hret _ _ _ _ _ _ (Option.some.inj hf) rfl rfl dX3_depthBehind_26 hC

set_option maxHeartbeats 8000000 in
set_option maxRecDepth 100000 in
theorem r_X0_cut {D : va_G} {y : Nat → ClassId} {o : Nat → Nat} {ad av : Nat → Nat} {σ : Sto} {σ2 : Sto} (hf : f_X0_cut σ = some σ2) (l : Launch) (sz : Nat) : Met l yX0_cut (Cond.code yX0_cut cX0_cut 3 none :: ALW) { frames := 3, cells := 0, slots := 0, locals := 71 } (va_Pc [.ref (o 17)] (PZ D y ad av (WX y o σ) sz)) (QZv D (WX y o σ) (WX y o σ2) sz) 0 0 (va_A (WX y o σ) sz) := by
  refine met_v (by decide) (Nat.le_of_ble_eq_true rfl) ?_
  intro p e R s m args below meth c Q A ls hx hb hml hta hown hRc hRs hRf hRl hN hK hV hA hret hC hl
  have hl : lv_has ls 3 [(0, .ref (o 17))] := hl
  unfold f_X0_cut at hf
  refine lv_aload_n hx hb dX0_cut_0 rfl (lv_at hl 0 rfl) ?_
  obtain ⟨s_1, hc_1, hf⟩ := cals_inv hf
  refine cc_Vv (r_X0_markCuts (D := D) (y := y) (o := o) (ad := ad) (av := av) hc_1 l) hx hb hml hta hown hK hN hV hA hC hRc hRs (by omega) (by omega) wq_81 (q := 17) (ci := 0) rfl rfl wq_82 wq_83 wq_42 wq_16 hd_X0_markCuts (As := []) (rest := []) rfl rfl hl.1 rfl dX0_cut_1 (fun H locs hC => ?_)
  refine lv_aload_n hx hb dX0_cut_4 rfl (lv_at hl 0 rfl) ?_
  refine lv_iconst (v := 0) hx hb dX0_cut_5 (by decide) ?_
  obtain ⟨s_2, e_2, hf⟩ := lt_inv hf
  refine pt_X0_57_blocks hx hb hta hown hK hC e_2 dX0_cut_6 (fun H locs hC => ?_)
  refine lv_aload_n hx hb dX0_cut_9 rfl (lv_at hl 0 rfl) ?_
  refine lv_iconst (v := 0) hx hb dX0_cut_10 (by decide) ?_
  obtain ⟨s_3, e_3, hf⟩ := lt_inv hf
  refine pt_X0_61_blocks hx hb hta hown hK hC e_3 dX0_cut_11 (fun H locs hC => ?_)
  refine lv_iconst (v := 0) hx hb dX0_cut_14 (by decide) ?_
  refine lv_istore_n (lv' := [(1, .int 0), (0, .ref (o 17))]) hx hb dX0_cut_15 rfl hl (by decide) rfl (fun ls hl => ?_)
  refine itr_inv2 (P := fun (x1_4 : Int32) (s_4 : Sto) => ∀ (H : Heap) (locs : List Loc) (ls : Array Slot), CZ D A s H locs (WX y o s_4) → lv_has ls 3 [(0, .ref (o 17)), (1, .int x1_4)] → W p l e R s m args below meth c H locs 0 0 Q (F0 m 16 ls [])) hf ?_ _ _ _ hC (lv_sub hl [1, 0] rfl)
  intro a_16 x1_4 s_4 ha_16 hf H locs ls hC hl
  refine lv_iload_n hx hb dX0_cut_16 rfl (lv_at hl 1 rfl) ?_
  refine lv_aload_n hx hb dX0_cut_17 rfl (lv_at hl 0 rfl) ?_
  refine gt_X0_50_blocks hx hb hta hown hK hC dX0_cut_18 ?_
  refine gt_X0_64_listing hx hb hta hown hK hC dX0_cut_21 ?_
  refine lv_icmp_ge (tgt := 113) hx hb dX0_cut_24 (by decide) (fun c_5 => ?_) (fun c_5 => ?_)
  · have hf := it_t c_5 hf
    refine lv_aload_n hx hb dX0_cut_113 rfl (lv_at hl 0 rfl) ?_
    refine lv_iconst (v := 0) hx hb dX0_cut_114 (by decide) ?_
    obtain ⟨s_6, e_6, hf⟩ := lt_inv hf
    refine pt_X0_70_blocks hx hb hta hown hK hC e_6 dX0_cut_115 (fun H locs hC => ?_)
    refine lv_iconst (v := 0) hx hb dX0_cut_118 (by decide) ?_
    refine lv_istore_n (lv' := [(1, .int 0), (0, .ref (o 17))]) hx hb dX0_cut_119 rfl hl (by decide) rfl (fun ls hl => ?_)
    refine itr_inv2 (P := fun (x1_7 : Int32) (s_7 : Sto) => ∀ (H : Heap) (locs : List Loc) (ls : Array Slot), CZ D A s H locs (WX y o s_7) → lv_has ls 3 [(0, .ref (o 17)), (1, .int x1_7)] → W p l e R s m args below meth c H locs 0 0 Q (F0 m 120 ls [])) hf ?_ _ _ _ hC (lv_sub hl [1, 0] rfl)
    intro a_120 x1_7 s_7 ha_120 hf H locs ls hC hl
    refine lv_iload_n hx hb dX0_cut_120 rfl (lv_at hl 1 rfl) ?_
    refine lv_aload_n hx hb dX0_cut_121 rfl (lv_at hl 0 rfl) ?_
    refine gt_X0_57_blocks hx hb hta hown hK hC dX0_cut_122 ?_
    refine lv_icmp_ge (tgt := 182) hx hb dX0_cut_125 (by decide) (fun c_8 => ?_) (fun c_8 => ?_)
    · have hf := it_t c_8 hf
      refine lv_aload_n hx hb dX0_cut_182 rfl (lv_at hl 0 rfl) ?_
      refine gt_X0_34_blocks hx hb hta hown hK hC dX0_cut_183 ?_
      refine lv_aload_n hx hb dX0_cut_186 rfl (lv_at hl 0 rfl) ?_
      refine gt_X0_57_blocks hx hb hta hown hK hC dX0_cut_187 ?_
      refine lv_aload_n hx hb dX0_cut_190 rfl (lv_at hl 0 rfl) ?_
      refine gt_X0_70_blocks hx hb hta hown hK hC dX0_cut_191 ?_
      obtain ⟨hi_9, hf⟩ := ix_inv hf
      obtain ⟨s_9, e_9, hf⟩ := lt_inv hf
      refine as_X_25 hx hb hK hC hi_9 e_9 dX0_cut_194 (fun H locs hC => ?_)
      exact hret _ _ _ _ _ (congrArg (WX y o) (Option.some.inj hf)) dX0_cut_195 hC
    · have hf := it_f c_8 hf
      refine lv_aload_n hx hb dX0_cut_128 rfl (lv_at hl 0 rfl) ?_
      refine lv_iload_n hx hb dX0_cut_129 rfl (lv_at hl 1 rfl) ?_
      obtain ⟨s_10, hc_10, hf⟩ := cals_inv hf
      refine cc_Vv (r_X0_join (D := D) (y := y) (o := o) (ad := ad) (av := av) hc_10 l) hx hb hml hta hown hK hN hV hA hC hRc hRs (by omega) (by omega) wq_84 (q := 17) (ci := 0) rfl rfl wq_85 wq_86 wq_42 wq_64 hd_X0_join (As := [.int x1_7]) (rest := []) rfl rfl hl.1 rfl dX0_cut_130 (fun H locs hC => ?_)
      refine lv_aload_n hx hb dX0_cut_133 rfl (lv_at hl 0 rfl) ?_
      refine gt_X0_50_blocks hx hb hta hown hK hC dX0_cut_134 ?_
      refine gt_X0_67_listing hx hb hta hown hK hC dX0_cut_137 ?_
      refine lv_aload_n hx hb dX0_cut_140 rfl (lv_at hl 0 rfl) ?_
      refine gt_X0_9_blocks hx hb hta hown hK hC dX0_cut_141 ?_
      refine lv_iload_n hx hb dX0_cut_144 rfl (lv_at hl 1 rfl) ?_
      obtain ⟨hi_11, hf⟩ := ix_inv hf
      obtain ⟨v_11, e_11, hf⟩ := lt_inv hf
      refine al_X_18 hx hb hK hC hi_11 e_11 dX0_cut_145 ?_
      obtain ⟨hi_12, hf⟩ := ix_inv hf
      obtain ⟨v_12, e_12, hf⟩ := lt_inv hf
      refine al_X_6 hx hb hK hC hi_12 e_12 dX0_cut_146 ?_
      refine lv_aload_n hx hb dX0_cut_147 rfl (lv_at hl 0 rfl) ?_
      refine gt_X0_50_blocks hx hb hta hown hK hC dX0_cut_148 ?_
      refine lv_aload_n hx hb dX0_cut_151 rfl (lv_at hl 0 rfl) ?_
      refine gt_X0_15_blocks hx hb hta hown hK hC dX0_cut_152 ?_
      refine lv_iload_n hx hb dX0_cut_155 rfl (lv_at hl 1 rfl) ?_
      obtain ⟨hi_13, hf⟩ := ix_inv hf
      obtain ⟨v_13, e_13, hf⟩ := lt_inv hf
      refine al_X_19 hx hb hK hC hi_13 e_13 dX0_cut_156 ?_
      obtain ⟨v_14, hc_14, hf⟩ := calp_inv hf
      refine cc_Vi (r_X3_depthBehind (D := D) (y := y) (o := o) (ad := ad) (av := av) hc_14 l) hx hb hml hta hown hK hN hV hA hC hRc hRs (by omega) (by omega) wq_87 (q := 3) (ci := 3) rfl rfl wq_88 wq_89 wq_27 wq_69 hd_X3_depthBehind (As := [.int v_13]) (rest := [.int v_12]) rfl rfl hl.1 rfl dX0_cut_157 (fun H locs hC => ?_)
      obtain ⟨v_15, e_15, hf⟩ := lt_inv hf
      refine cc_max hx hb hml hta hown hRc hRs (by omega) (by omega) wq_77 hl.1 rfl e_15 dX0_cut_160 ?_
      refine lv_istore_n (lv' := [(2, .int v_15), (0, .ref (o 17)), (1, .int x1_7)]) hx hb dX0_cut_163 rfl hl (by decide) rfl (fun ls hl => ?_)
      refine lv_aload_n hx hb dX0_cut_164 rfl (lv_at hl 1 rfl) ?_
      refine lv_aload_n hx hb dX0_cut_165 rfl (lv_at hl 1 rfl) ?_
      refine gt_X0_61_blocks hx hb hta hown hK hC dX0_cut_166 ?_
      refine lv_iload_n hx hb dX0_cut_169 rfl (lv_at hl 0 rfl) ?_
      obtain ⟨v_16, e_16, hf⟩ := lt_inv hf
      refine cc_max hx hb hml hta hown hRc hRs (by omega) (by omega) wq_77 hl.1 rfl e_16 dX0_cut_170 ?_
      obtain ⟨s_17, e_17, hf⟩ := lt_inv hf
      refine pt_X0_61_blocks hx hb hta hown hK hC e_17 dX0_cut_173 (fun H locs hC => ?_)
      obtain ⟨x1_18, e_18, hf⟩ := lt_inv hf
      refine lv_iinc (v := x1_18) (lv' := [(1, .int x1_18), (2, .int v_15), (0, .ref (o 17))]) hx hb dX0_cut_176 hl (k := 2) rfl e_18.symm (by decide) rfl (fun ls hl => ?_)
      refine lv_goto (tgt := 120) hx hb dX0_cut_179 (by decide) ?_
      exact ha_120 _ _ hf _ _ _ hC (lv_sub hl [2, 0] rfl)
  · have hf := it_f c_5 hf
    refine lv_aload_n hx hb dX0_cut_27 rfl (lv_at hl 0 rfl) ?_
    refine gt_X0_18_blocks hx hb hta hown hK hC dX0_cut_28 ?_
    refine lv_iload_n hx hb dX0_cut_31 rfl (lv_at hl 1 rfl) ?_
    refine lv_iconst (v := (-1)) hx hb dX0_cut_32 (by decide) ?_
    obtain ⟨hi_19, hf⟩ := ix_inv hf
    obtain ⟨s_19, e_19, hf⟩ := lt_inv hf
    refine as_X_20 hx hb hK hC hi_19 e_19 dX0_cut_33 (fun H locs hC => ?_)
    refine lv_aload_n hx hb dX0_cut_34 rfl (lv_at hl 0 rfl) ?_
    refine gt_X0_50_blocks hx hb hta hown hK hC dX0_cut_35 ?_
    refine gt_X0_67_listing hx hb hta hown hK hC dX0_cut_38 ?_
    refine lv_iload_n hx hb dX0_cut_41 rfl (lv_at hl 1 rfl) ?_
    obtain ⟨hi_20, hf⟩ := ix_inv hf
    obtain ⟨v_20, e_20, hf⟩ := lt_inv hf
    refine al_X_6 hx hb hK hC hi_20 e_20 dX0_cut_42 ?_
    refine lv_iconst (v := (-1)) hx hb dX0_cut_43 (by decide) ?_
    obtain ⟨k_107, hk_107, hf⟩ := jn_inv1 hf
    have hj_107 : ∀ (s_21 : Sto) (H : Heap) (locs : List Loc) (ls : Array Slot), k_107 s_21 = some σ2 → CZ D A s H locs (WX y o s_21) → lv_has ls 3 [(0, .ref (o 17)), (1, .int x1_4)] → W p l e R s m args below meth c H locs 0 0 Q (F0 m 107 ls []) := by
      intro s_21 H locs ls hf hC hl
      have hf := hk_107 _ hf
      obtain ⟨x1_22, e_22, hf⟩ := lt_inv hf
      refine lv_iinc (v := x1_22) (lv' := [(1, .int x1_22), (0, .ref (o 17))]) hx hb dX0_cut_107 hl (k := 1) rfl e_22.symm (by decide) rfl (fun ls hl => ?_)
      refine lv_goto (tgt := 16) hx hb dX0_cut_110 (by decide) ?_
      exact ha_16 _ _ hf _ _ _ hC (lv_sub hl [1, 0] rfl)
    refine lv_icmp_eq (tgt := 107) hx hb dX0_cut_44 (by decide) (fun c_23 => ?_) (fun c_23 => ?_)
    · have hf := it_t c_23 hf
      exact hj_107 _ _ _ _ hf hC hl
    · have hf := it_f c_23 hf
      refine lv_aload_n hx hb dX0_cut_47 rfl (lv_at hl 0 rfl) ?_
      refine gt_X0_57_blocks hx hb hta hown hK hC dX0_cut_48 ?_
      obtain ⟨k_83, hk_83, hf⟩ := jn_inv1 hf
      have hj_83 : ∀ (s_24 : Sto) (H : Heap) (locs : List Loc) (ls : Array Slot), k_83 s_24 = some σ2 → CZ D A s H locs (WX y o s_24) → lv_has ls 3 [(0, .ref (o 17)), (1, .int x1_4)] → W p l e R s m args below meth c H locs 0 0 Q (F0 m 83 ls []) := by
        intro s_24 H locs ls hf hC hl
        have hf := hk_83 _ hf
        refine lv_aload_n hx hb dX0_cut_83 rfl (lv_at hl 0 rfl) ?_
        refine gt_X0_18_blocks hx hb hta hown hK hC dX0_cut_84 ?_
        refine lv_iload_n hx hb dX0_cut_87 rfl (lv_at hl 1 rfl) ?_
        refine lv_aload_n hx hb dX0_cut_88 rfl (lv_at hl 0 rfl) ?_
        refine gt_X0_57_blocks hx hb hta hown hK hC dX0_cut_89 ?_
        refine lv_iconst (v := 1) hx hb dX0_cut_92 (by decide) ?_
        refine lv_isub hx hb dX0_cut_93 ?_
        obtain ⟨hi_25, hf⟩ := ix_inv hf
        obtain ⟨s_25, e_25, hf⟩ := lt_inv hf
        refine as_X_20 hx hb hK hC hi_25 e_25 dX0_cut_94 (fun H locs hC => ?_)
        refine lv_aload_n hx hb dX0_cut_95 rfl (lv_at hl 0 rfl) ?_
        refine gt_X0_15_blocks hx hb hta hown hK hC dX0_cut_96 ?_
        refine lv_aload_n hx hb dX0_cut_99 rfl (lv_at hl 0 rfl) ?_
        refine gt_X0_57_blocks hx hb hta hown hK hC dX0_cut_100 ?_
        refine lv_iconst (v := 1) hx hb dX0_cut_103 (by decide) ?_
        refine lv_isub hx hb dX0_cut_104 ?_
        refine lv_iload_n hx hb dX0_cut_105 rfl (lv_at hl 1 rfl) ?_
        obtain ⟨hi_26, hf⟩ := ix_inv hf
        obtain ⟨s_26, e_26, hf⟩ := lt_inv hf
        refine as_X_19 hx hb hK hC hi_26 e_26 dX0_cut_106 (fun H locs hC => ?_)
        exact hj_107 _ _ _ _ hf hC hl
      obtain ⟨k_63, hk_63, hf⟩ := jn_inv0 hf
      have hj_63 : ∀  (H : Heap) (locs : List Loc) (ls : Array Slot), k_63 = some σ2 → CZ D A s H locs (WX y o s_19) → lv_has ls 3 [(0, .ref (o 17)), (1, .int x1_4)] → W p l e R s m args below meth c H locs 0 0 Q (F0 m 63 ls []) := by
        intro H locs ls hf hC hl
        have hf := hk_63 hf
        refine lv_aload_n hx hb dX0_cut_63 rfl (lv_at hl 0 rfl) ?_
        refine gt_X0_9_blocks hx hb hta hown hK hC dX0_cut_64 ?_
        refine lv_aload_n hx hb dX0_cut_67 rfl (lv_at hl 0 rfl) ?_
        refine gt_X0_57_blocks hx hb hta hown hK hC dX0_cut_68 ?_
        refine lv_iload_n hx hb dX0_cut_71 rfl (lv_at hl 1 rfl) ?_
        obtain ⟨hi_28, hf⟩ := ix_inv hf
        obtain ⟨s_28, e_28, hf⟩ := lt_inv hf
        refine as_X_18 hx hb hK hC hi_28 e_28 dX0_cut_72 (fun H locs hC => ?_)
        refine lv_aload_n hx hb dX0_cut_73 rfl (lv_at hl 0 rfl) ?_
        refine lv_dup hx hb dX0_cut_74 rfl ?_
        refine gt_X0_57_blocks hx hb hta hown hK hC dX0_cut_75 ?_
        refine lv_iconst (v := 1) hx hb dX0_cut_78 (by decide) ?_
        refine lv_iadd hx hb dX0_cut_79 ?_
        obtain ⟨s_29, e_29, hf⟩ := lt_inv hf
        refine pt_X0_57_blocks hx hb hta hown hK hC e_29 dX0_cut_80 (fun H locs hC => ?_)
        exact hj_83 _ _ _ _ hf hC hl
      refine lv_if_eq (tgt := 63) hx hb dX0_cut_51 (by decide) (fun c_30 => ?_) (fun c_30 => ?_)
      · have hf := it_t c_30 hf
        exact hj_63 _ _ _ hf hC hl
      · have hf := it_f c_30 hf
        refine lv_aload_n hx hb dX0_cut_54 rfl (lv_at hl 0 rfl) ?_
        refine gt_X0_47_blocks hx hb hta hown hK hC dX0_cut_55 ?_
        refine lv_iload_n hx hb dX0_cut_58 rfl (lv_at hl 1 rfl) ?_
        obtain ⟨hi_31, hf⟩ := ix_inv hf
        obtain ⟨v_31, e_31, hf⟩ := lt_inv hf
        refine al_X_29 hx hb hK hC hi_31 e_31 dX0_cut_59 ?_
        refine lv_if_eq (tgt := 83) hx hb dX0_cut_60 (by decide) (fun c_32 => ?_) (fun c_32 => ?_)
        · have hf := it_t c_32 hf
          exact hj_83 _ _ _ _ hf hC hl
        · have hf := it_f c_32 hf
          exact hj_63 _ _ _ hf hC hl

set_option maxHeartbeats 8000000 in
set_option maxRecDepth 100000 in
theorem r_X8_allAreComeTo {D : va_G} {y : Nat → ClassId} {o : Nat → Nat} {ad av : Nat → Nat} {σ : Sto} {σ2 : Sto} {v : Int32} (hf : f_X8_allAreComeTo σ = some (v, σ2)) (l : Launch) (sz : Nat) : Met l yX8_allAreComeTo (Cond.code yX8_allAreComeTo cX8_allAreComeTo 9 (some .boolean) :: ALW) { frames := 1, cells := 0, slots := 0, locals := 22 } (va_Pc [.ref (o 30)] (PZ D y ad av (WX y o σ) sz)) (QZi D (WX y o σ) v (WX y o σ2) sz) 0 0 (va_A (WX y o σ) sz) := by
  refine met_i (by decide) (Nat.le_of_ble_eq_true rfl) ?_
  intro p e R s m args below meth c Q A ls hx hb hml hta hown hRc hRs hRf hRl hN hK hV hA hret hC hl
  have hl : lv_has ls 9 [(0, .ref (o 30))] := hl
  unfold f_X8_allAreComeTo at hf
  refine lv_lconst (v := 1) hx hb dX8_allAreComeTo_0 rfl ?_
  refine lv_lstore_n (lv' := [(1, .long 1), (0, .ref (o 30))]) hx hb dX8_allAreComeTo_1 rfl hl (by decide) rfl (fun ls hl => ?_)
  refine lv_iconst (v := 0) hx hb dX8_allAreComeTo_2 (by decide) ?_
  refine lv_istore_n (lv' := [(3, .int 0), (1, .long 1), (0, .ref (o 30))]) hx hb dX8_allAreComeTo_3 rfl hl (by decide) rfl (fun ls hl => ?_)
  refine lv_iconst (v := 1) hx hb dX8_allAreComeTo_4 (by decide) ?_
  refine lv_istore (lv' := [(4, .int 1), (3, .int 0), (1, .long 1), (0, .ref (o 30))]) hx hb dX8_allAreComeTo_5 hl (by decide) rfl (fun ls hl => ?_)
  refine lv_aload_n hx hb dX8_allAreComeTo_7 rfl (lv_at hl 3 rfl) ?_
  refine gt_X8_38_shape hx hb hta hown hK hC dX8_allAreComeTo_8 ?_
  refine lv_iconst (v := 0) hx hb dX8_allAreComeTo_11 (by decide) ?_
  refine lv_iconst (v := 0) hx hb dX8_allAreComeTo_12 (by decide) ?_
  obtain ⟨hi_1, hf⟩ := ix_inv hf
  obtain ⟨s_1, e_1, hf⟩ := lt_inv hf
  refine as_X_39 hx hb hK hC hi_1 e_1 dX8_allAreComeTo_13 (fun H locs hC => ?_)
  refine lv_aload_n hx hb dX8_allAreComeTo_14 rfl (lv_at hl 3 rfl) ?_
  refine gt_X8_41_shape hx hb hta hown hK hC dX8_allAreComeTo_15 ?_
  refine lv_iconst (v := 0) hx hb dX8_allAreComeTo_18 (by decide) ?_
  refine lv_aload_n hx hb dX8_allAreComeTo_19 rfl (lv_at hl 3 rfl) ?_
  refine gt_X8_47_shape hx hb hta hown hK hC dX8_allAreComeTo_20 ?_
  refine gt_X8_105_blocks hx hb hta hown hK hC dX8_allAreComeTo_23 ?_
  refine lv_iconst (v := 0) hx hb dX8_allAreComeTo_26 (by decide) ?_
  obtain ⟨hi_2, hf⟩ := ix_inv hf
  obtain ⟨v_2, e_2, hf⟩ := lt_inv hf
  refine al_X_25 hx hb hK hC hi_2 e_2 dX8_allAreComeTo_27 ?_
  obtain ⟨hi_3, hf⟩ := ix_inv hf
  obtain ⟨s_3, e_3, hf⟩ := lt_inv hf
  refine as_X_40 hx hb hK hC hi_3 e_3 dX8_allAreComeTo_28 (fun H locs hC => ?_)
  refine lv_iconst (v := 0) hx hb dX8_allAreComeTo_29 (by decide) ?_
  refine lv_istore (lv' := [(5, .int 0), (4, .int 1), (3, .int 0), (1, .long 1), (0, .ref (o 30))]) hx hb dX8_allAreComeTo_30 hl (by decide) rfl (fun ls hl => ?_)
  refine itr_inv5 (P := fun (x1_4 : Int64) (x3_4 : Int32) (x4_4 : Int32) (x5_4 : Int32) (s_4 : Sto) => ∀ (H : Heap) (locs : List Loc) (ls : Array Slot), CZ D A s H locs (WX y o s_4) → lv_has ls 9 [(0, .ref (o 30)), (1, .long x1_4), (3, .int x3_4), (4, .int x4_4), (5, .int x5_4)] → W p l e R s m args below meth c H locs 0 0 Q (F0 m 32 ls [])) hf ?_ _ _ _ hC (lv_sub hl [4, 3, 2, 1, 0] rfl)
  intro a_32 x1_4 x3_4 x4_4 x5_4 s_4 ha_32 hf H locs ls hC hl
  refine lv_iload hx hb dX8_allAreComeTo_32 (lv_at hl 4 rfl) ?_
  refine lv_ldc hx hb hown (hta _ wq_579) dX8_allAreComeTo_34 ?_
  obtain ⟨k_210, hk_210, hf⟩ := jn_inv0 hf
  have hj_210 : ∀  (H : Heap) (locs : List Loc) (ls : Array Slot), k_210 = some (v, σ2) → CZ D A s H locs (WX y o s_4) → lv_has ls 9 [(0, .ref (o 30)), (3, .int x3_4)] → W p l e R s m args below meth c H locs 0 0 Q (F0 m 210 ls []) := by
    intro H locs ls hf hC hl
    have hf := hk_210 hf
    refine lv_iload_n hx hb dX8_allAreComeTo_210 rfl (lv_at hl 1 rfl) ?_
    refine lv_aload_n hx hb dX8_allAreComeTo_211 rfl (lv_at hl 0 rfl) ?_
    refine gt_X8_47_shape hx hb hta hown hK hC dX8_allAreComeTo_212 ?_
    refine gt_X8_109_blocks hx hb hta hown hK hC dX8_allAreComeTo_215 ?_
    refine lv_icmp_ne (tgt := 225) hx hb dX8_allAreComeTo_218 (by decide) (fun c_6 => ?_) (fun c_6 => ?_)
    · have hf := it_f c_6 hf
      refine lv_iconst (v := 0) hx hb dX8_allAreComeTo_225 (by decide) ?_
      exact hret _ _ _ _ _ _ (rv_inv hf).1 (congrArg (WX y o) (rv_inv hf).2) rfl dX8_allAreComeTo_226 hC
    · have hf := it_t c_6 hf
      refine lv_iconst (v := 1) hx hb dX8_allAreComeTo_221 (by decide) ?_
      refine lv_goto (tgt := 226) hx hb dX8_allAreComeTo_222 (by decide) ?_
      exact hret _ _ _ _ _ _ (rv_inv hf).1 (congrArg (WX y o) (rv_inv hf).2) rfl dX8_allAreComeTo_226 hC
  refine lv_icmp_ge (tgt := 210) hx hb dX8_allAreComeTo_36 (by decide) (fun c_7 => ?_) (fun c_7 => ?_)
  · have hf := it_t c_7 hf
    exact hj_210 _ _ _ hf hC (lv_sub hl [0, 2] rfl)
  · have hf := it_f c_7 hf
    refine lv_iload hx hb dX8_allAreComeTo_39 (lv_at hl 3 rfl) ?_
    refine lv_if_le (tgt := 210) hx hb dX8_allAreComeTo_41 (by decide) (fun c_8 => ?_) (fun c_8 => ?_)
    · have hf := it_t c_8 hf
      exact hj_210 _ _ _ hf hC (lv_sub hl [0, 2] rfl)
    · have hf := it_f c_8 hf
      refine lv_aload_n hx hb dX8_allAreComeTo_44 rfl (lv_at hl 0 rfl) ?_
      refine gt_X8_38_shape hx hb hta hown hK hC dX8_allAreComeTo_45 ?_
      refine lv_iload hx hb dX8_allAreComeTo_48 (lv_at hl 3 rfl) ?_
      refine lv_iconst (v := 1) hx hb dX8_allAreComeTo_50 (by decide) ?_
      refine lv_isub hx hb dX8_allAreComeTo_51 ?_
      obtain ⟨hi_9, hf⟩ := ix_inv hf
      obtain ⟨v_9, e_9, hf⟩ := lt_inv hf
      refine al_X_39 hx hb hK hC hi_9 e_9 dX8_allAreComeTo_52 ?_
      refine lv_istore (lv' := [(6, .int v_9), (0, .ref (o 30)), (1, .long x1_4), (3, .int x3_4), (4, .int x4_4), (5, .int x5_4)]) hx hb dX8_allAreComeTo_53 hl (by decide) rfl (fun ls hl => ?_)
      refine lv_aload_n hx hb dX8_allAreComeTo_55 rfl (lv_at hl 1 rfl) ?_
      refine gt_X8_41_shape hx hb hta hown hK hC dX8_allAreComeTo_56 ?_
      refine lv_iload hx hb dX8_allAreComeTo_59 (lv_at hl 4 rfl) ?_
      refine lv_iconst (v := 1) hx hb dX8_allAreComeTo_61 (by decide) ?_
      refine lv_isub hx hb dX8_allAreComeTo_62 ?_
      obtain ⟨hi_10, hf⟩ := ix_inv hf
      obtain ⟨v_10, e_10, hf⟩ := lt_inv hf
      refine al_X_40 hx hb hK hC hi_10 e_10 dX8_allAreComeTo_63 ?_
      refine lv_istore (lv' := [(7, .int v_10), (6, .int v_9), (0, .ref (o 30)), (1, .long x1_4), (3, .int x3_4), (4, .int x4_4), (5, .int x5_4)]) hx hb dX8_allAreComeTo_64 hl (by decide) rfl (fun ls hl => ?_)
      refine lv_iload hx hb dX8_allAreComeTo_66 (lv_at hl 0 rfl) ?_
      refine lv_aload_n hx hb dX8_allAreComeTo_68 rfl (lv_at hl 2 rfl) ?_
      refine gt_X8_47_shape hx hb hta hown hK hC dX8_allAreComeTo_69 ?_
      refine gt_X8_105_blocks hx hb hta hown hK hC dX8_allAreComeTo_72 ?_
      refine lv_iload hx hb dX8_allAreComeTo_75 (lv_at hl 1 rfl) ?_
      refine lv_iconst (v := 1) hx hb dX8_allAreComeTo_77 (by decide) ?_
      refine lv_iadd hx hb dX8_allAreComeTo_78 ?_
      obtain ⟨hi_11, hf⟩ := ix_inv hf
      obtain ⟨v_11, e_11, hf⟩ := lt_inv hf
      refine al_X_25 hx hb hK hC hi_11 e_11 dX8_allAreComeTo_79 ?_
      obtain ⟨k_204, hk_204, hf⟩ := jn_inv4 hf
      have hj_204 : ∀ (x1_12 : Int64) (x3_12 : Int32) (x4_12 : Int32) (s_12 : Sto) (H : Heap) (locs : List Loc) (ls : Array Slot), k_204 x1_12 x3_12 x4_12 s_12 = some (v, σ2) → CZ D A s H locs (WX y o s_12) → lv_has ls 9 [(0, .ref (o 30)), (1, .long x1_12), (3, .int x3_12), (4, .int x4_12), (5, .int x5_4)] → W p l e R s m args below meth c H locs 0 0 Q (F0 m 204 ls []) := by
        intro x1_12 x3_12 x4_12 s_12 H locs ls hf hC hl
        have hf := hk_204 _ _ _ _ hf
        obtain ⟨x5_13, e_13, hf⟩ := lt_inv hf
        refine lv_iinc (v := x5_13) (lv' := [(5, .int x5_13), (0, .ref (o 30)), (1, .long x1_12), (3, .int x3_12), (4, .int x4_12)]) hx hb dX8_allAreComeTo_204 hl (k := 4) rfl e_13.symm (by decide) rfl (fun ls hl => ?_)
        refine lv_goto (tgt := 32) hx hb dX8_allAreComeTo_207 (by decide) ?_
        exact ha_32 _ _ _ _ _ hf _ _ _ hC (lv_sub hl [1, 2, 3, 4, 0] rfl)
      refine lv_icmp_ne (tgt := 124) hx hb dX8_allAreComeTo_80 (by decide) (fun c_14 => ?_) (fun c_14 => ?_)
      · have hf := it_f c_14 hf
        refine lv_aload_n hx hb dX8_allAreComeTo_124 rfl (lv_at hl 2 rfl) ?_
        refine gt_X8_41_shape hx hb hta hown hK hC dX8_allAreComeTo_125 ?_
        refine lv_iload hx hb dX8_allAreComeTo_128 (lv_at hl 5 rfl) ?_
        refine lv_iconst (v := 1) hx hb dX8_allAreComeTo_130 (by decide) ?_
        refine lv_isub hx hb dX8_allAreComeTo_131 ?_
        obtain ⟨v_19, e_19, hf⟩ := lt_inv hf
        refine nmi e_19 ?_
        refine lv_dup2_11 hx hb dX8_allAreComeTo_132 rfl rfl ?_
        obtain ⟨hi_20, hf⟩ := ix_inv hf
        obtain ⟨v_20, e_20, hf⟩ := lt_inv hf
        refine al_X_40 hx hb hK hC hi_20 e_20 dX8_allAreComeTo_133 ?_
        refine lv_iconst (v := 1) hx hb dX8_allAreComeTo_134 (by decide) ?_
        refine lv_iadd hx hb dX8_allAreComeTo_135 ?_
        obtain ⟨hi_21, hf⟩ := ix_inv hf
        obtain ⟨s_21, e_21, hf⟩ := lt_inv hf
        refine as_X_40 hx hb hK hC hi_21 e_21 dX8_allAreComeTo_136 (fun H locs hC => ?_)
        refine lv_aload_n hx hb dX8_allAreComeTo_137 rfl (lv_at hl 2 rfl) ?_
        refine gt_X8_47_shape hx hb hta hown hK hC dX8_allAreComeTo_138 ?_
        refine gt_X8_99_blocks hx hb hta hown hK hC dX8_allAreComeTo_141 ?_
        refine lv_iload hx hb dX8_allAreComeTo_144 (lv_at hl 0 rfl) ?_
        obtain ⟨hi_22, hf⟩ := ix_inv hf
        obtain ⟨v_22, e_22, hf⟩ := lt_inv hf
        refine al_X_27 hx hb hK hC hi_22 e_22 dX8_allAreComeTo_146 ?_
        refine lv_istore (lv' := [(8, .int v_22), (7, .int v_10), (6, .int v_9), (0, .ref (o 30)), (1, .long x1_4), (3, .int x3_4), (4, .int x4_4), (5, .int x5_4)]) hx hb dX8_allAreComeTo_147 hl (by decide) rfl (fun ls hl => ?_)
        refine lv_aload_n hx hb dX8_allAreComeTo_149 rfl (lv_at hl 3 rfl) ?_
        refine gt_X8_9_shape hx hb hta hown hK hC dX8_allAreComeTo_150 ?_
        refine lv_iload hx hb dX8_allAreComeTo_153 (lv_at hl 1 rfl) ?_
        obtain ⟨hi_23, hf⟩ := ix_inv hf
        obtain ⟨v_23, e_23, hf⟩ := lt_inv hf
        refine al_X_31 hx hb hK hC hi_23 e_23 dX8_allAreComeTo_155 ?_
        refine lv_if_ne (tgt := 204) hx hb dX8_allAreComeTo_156 (by decide) (fun c_24 => ?_) (fun c_24 => ?_)
        · have hf := it_f c_24 hf
          exact hj_204 _ _ _ _ _ _ _ hf hC (lv_sub hl [3, 4, 5, 6, 7] rfl)
        · have hf := it_t c_24 hf
          refine lv_lload_n hx hb dX8_allAreComeTo_159 rfl (lv_at hl 4 rfl) ?_
          refine lv_iload hx hb dX8_allAreComeTo_160 (lv_at hl 0 rfl) ?_
          obtain ⟨v_25, hc_25, hf⟩ := calp_inv hf
          refine cc_SiN (r_X11_isIn (D := D) (y := y) (w := WX y o s_21) (ad := ad) (av := av) hc_25 l) hx hb hml hta hown hK hN hV hA hC hRc hRs (by omega) (by omega) (nw_X8_112 hN) wq_37 wq_38 wq_33 hd_X11_isIn (As := [.long x1_4, .int v_22]) (rest := []) rfl rfl hl.1 rfl dX8_allAreComeTo_162 (fun H locs hC => ?_)
          refine lv_if_ne (tgt := 204) hx hb dX8_allAreComeTo_165 (by decide) (fun c_26 => ?_) (fun c_26 => ?_)
          · have hf := it_f c_26 hf
            exact hj_204 _ _ _ _ _ _ _ hf hC (lv_sub hl [3, 4, 5, 6, 7] rfl)
          · have hf := it_t c_26 hf
            refine lv_lload_n hx hb dX8_allAreComeTo_168 rfl (lv_at hl 4 rfl) ?_
            refine lv_lconst (v := 1) hx hb dX8_allAreComeTo_169 rfl ?_
            refine lv_iload hx hb dX8_allAreComeTo_170 (lv_at hl 0 rfl) ?_
            refine lv_lshl hx hb dX8_allAreComeTo_172 rfl ?_
            refine lv_lor hx hb dX8_allAreComeTo_173 ?_
            obtain ⟨x1_27, e_27, hf⟩ := lt_inv hf
            refine nml e_27 ?_
            refine lv_lstore_n (lv' := [(1, .long x1_27), (8, .int v_22), (7, .int v_10), (6, .int v_9), (0, .ref (o 30)), (3, .int x3_4), (4, .int x4_4), (5, .int x5_4)]) hx hb dX8_allAreComeTo_174 rfl hl (by decide) rfl (fun ls hl => ?_)
            refine lv_aload_n hx hb dX8_allAreComeTo_175 rfl (lv_at hl 4 rfl) ?_
            refine gt_X8_38_shape hx hb hta hown hK hC dX8_allAreComeTo_176 ?_
            refine lv_iload hx hb dX8_allAreComeTo_179 (lv_at hl 6 rfl) ?_
            refine lv_iload hx hb dX8_allAreComeTo_181 (lv_at hl 1 rfl) ?_
            obtain ⟨hi_28, hf⟩ := ix_inv hf
            obtain ⟨s_28, e_28, hf⟩ := lt_inv hf
            refine as_X_39 hx hb hK hC hi_28 e_28 dX8_allAreComeTo_183 (fun H locs hC => ?_)
            refine lv_aload_n hx hb dX8_allAreComeTo_184 rfl (lv_at hl 4 rfl) ?_
            refine gt_X8_41_shape hx hb hta hown hK hC dX8_allAreComeTo_185 ?_
            refine lv_iload hx hb dX8_allAreComeTo_188 (lv_at hl 6 rfl) ?_
            refine lv_aload_n hx hb dX8_allAreComeTo_190 rfl (lv_at hl 4 rfl) ?_
            refine gt_X8_47_shape hx hb hta hown hK hC dX8_allAreComeTo_191 ?_
            refine gt_X8_105_blocks hx hb hta hown hK hC dX8_allAreComeTo_194 ?_
            refine lv_iload hx hb dX8_allAreComeTo_197 (lv_at hl 1 rfl) ?_
            obtain ⟨hi_29, hf⟩ := ix_inv hf
            obtain ⟨v_29, e_29, hf⟩ := lt_inv hf
            refine al_X_25 hx hb hK hC hi_29 e_29 dX8_allAreComeTo_199 ?_
            obtain ⟨hi_30, hf⟩ := ix_inv hf
            obtain ⟨s_30, e_30, hf⟩ := lt_inv hf
            refine as_X_40 hx hb hK hC hi_30 e_30 dX8_allAreComeTo_200 (fun H locs hC => ?_)
            obtain ⟨x4_31, e_31, hf⟩ := lt_inv hf
            refine lv_iinc (v := x4_31) (lv' := [(4, .int x4_31), (1, .long x1_27), (8, .int v_22), (7, .int v_10), (6, .int v_9), (0, .ref (o 30)), (3, .int x3_4), (5, .int x5_4)]) hx hb dX8_allAreComeTo_201 hl (k := 6) rfl e_31.symm (by decide) rfl (fun ls hl => ?_)
            exact hj_204 _ _ _ _ _ _ _ hf hC (lv_sub hl [5, 1, 6, 0, 7] rfl)
      · have hf := it_t c_14 hf
        obtain ⟨x4_15, e_15, hf⟩ := lt_inv hf
        refine lv_iinc (v := x4_15) (lv' := [(4, .int x4_15), (7, .int v_10), (6, .int v_9), (0, .ref (o 30)), (1, .long x1_4), (3, .int x3_4), (5, .int x5_4)]) hx hb dX8_allAreComeTo_83 hl (k := 5) rfl e_15.symm (by decide) rfl (fun ls hl => ?_)
        obtain ⟨x3_16, e_16, hf⟩ := lt_inv hf
        refine lv_iinc (v := x3_16) (lv' := [(3, .int x3_16), (4, .int x4_15), (7, .int v_10), (6, .int v_9), (0, .ref (o 30)), (1, .long x1_4), (5, .int x5_4)]) hx hb dX8_allAreComeTo_86 hl (k := 5) rfl e_16.symm (by decide) rfl (fun ls hl => ?_)
        refine lv_aload_n hx hb dX8_allAreComeTo_89 rfl (lv_at hl 4 rfl) ?_
        refine gt_X8_18_shape hx hb hta hown hK hC dX8_allAreComeTo_90 ?_
        refine lv_aload_n hx hb dX8_allAreComeTo_93 rfl (lv_at hl 4 rfl) ?_
        refine gt_X8_47_shape hx hb hta hown hK hC dX8_allAreComeTo_94 ?_
        refine gt_X8_109_blocks hx hb hta hown hK hC dX8_allAreComeTo_97 ?_
        refine lv_iload_n hx hb dX8_allAreComeTo_100 rfl (lv_at hl 0 rfl) ?_
        refine lv_isub hx hb dX8_allAreComeTo_101 ?_
        refine lv_iload hx hb dX8_allAreComeTo_102 (lv_at hl 3 rfl) ?_
        obtain ⟨hi_17, hf⟩ := ix_inv hf
        obtain ⟨s_17, e_17, hf⟩ := lt_inv hf
        refine as_X_33 hx hb hK hC hi_17 e_17 dX8_allAreComeTo_104 (fun H locs hC => ?_)
        refine lv_aload_n hx hb dX8_allAreComeTo_105 rfl (lv_at hl 4 rfl) ?_
        refine gt_X8_22_shape hx hb hta hown hK hC dX8_allAreComeTo_106 ?_
        refine lv_iload hx hb dX8_allAreComeTo_109 (lv_at hl 3 rfl) ?_
        refine lv_aload_n hx hb dX8_allAreComeTo_111 rfl (lv_at hl 4 rfl) ?_
        refine gt_X8_47_shape hx hb hta hown hK hC dX8_allAreComeTo_112 ?_
        refine gt_X8_109_blocks hx hb hta hown hK hC dX8_allAreComeTo_115 ?_
        refine lv_iload_n hx hb dX8_allAreComeTo_118 rfl (lv_at hl 0 rfl) ?_
        refine lv_isub hx hb dX8_allAreComeTo_119 ?_
        obtain ⟨hi_18, hf⟩ := ix_inv hf
        obtain ⟨s_18, e_18, hf⟩ := lt_inv hf
        refine as_X_34 hx hb hK hC hi_18 e_18 dX8_allAreComeTo_120 (fun H locs hC => ?_)
        refine lv_goto (tgt := 204) hx hb dX8_allAreComeTo_121 (by decide) ?_
        exact hj_204 _ _ _ _ _ _ _ hf hC (lv_sub hl [4, 5, 0, 1, 6] rfl)

set_option maxHeartbeats 8000000 in
set_option maxRecDepth 100000 in
theorem r_J6_numberOfTrailingZeros_0f7a4 {D : va_G} {y : Nat → ClassId} {ad av : Nat → Nat} {w : va_W} {x1 : Int32} {v : Int32} (hf : f_J6_numberOfTrailingZeros_0f7a4 x1 = some v) (l : Launch) (sz : Nat) : Met l yJ6_numberOfTrailingZeros_0f7a4 (Cond.code yJ6_numberOfTrailingZeros_0f7a4 cJ6_numberOfTrailingZeros_0f7a4 2 (some .int) :: ALW) { frames := 0, cells := 0, slots := 0, locals := 0 } (va_Pc [.int x1] (PZ D y ad av (w) sz)) (QZi D (w) v (w) sz) 0 0 (va_A (w) sz) := by
  refine met_i (by decide) (Nat.le_of_ble_eq_true rfl) ?_
  intro p e R s m args below meth c Q A ls hx hb hml hta hown hRc hRs hRf hRl hN hK hV hA hret hC hl
  have hl : lv_has ls 2 [(0, .int x1)] := hl
  unfold f_J6_numberOfTrailingZeros_0f7a4 at hf
  refine lv_iload_n hx hb dJ6_numberOfTrailingZeros_0f7a4_0 rfl (lv_at hl 0 rfl) ?_
  refine lv_iconst (v := (-1)) hx hb dJ6_numberOfTrailingZeros_0f7a4_1 (by decide) ?_
  refine lv_ixor hx hb dJ6_numberOfTrailingZeros_0f7a4_2 ?_
  refine lv_iload_n hx hb dJ6_numberOfTrailingZeros_0f7a4_3 rfl (lv_at hl 0 rfl) ?_
  refine lv_iconst (v := 1) hx hb dJ6_numberOfTrailingZeros_0f7a4_4 (by decide) ?_
  refine lv_isub hx hb dJ6_numberOfTrailingZeros_0f7a4_5 ?_
  refine lv_iand hx hb dJ6_numberOfTrailingZeros_0f7a4_6 ?_
  obtain ⟨x0_1, e_1, hf⟩ := lt_inv hf
  refine nmi e_1 ?_
  refine lv_istore_n (lv' := [(0, .int x0_1)]) hx hb dJ6_numberOfTrailingZeros_0f7a4_7 rfl hl (by decide) rfl (fun ls hl => ?_)
  refine lv_iload_n hx hb dJ6_numberOfTrailingZeros_0f7a4_8 rfl (lv_at hl 0 rfl) ?_
  refine lv_if_gt (tgt := 17) hx hb dJ6_numberOfTrailingZeros_0f7a4_9 (by decide) (fun c_2 => ?_) (fun c_2 => ?_)
  · have hf := it_t c_2 hf
    refine lv_iconst (v := 1) hx hb dJ6_numberOfTrailingZeros_0f7a4_17 (by decide) ?_
    refine lv_istore_n (lv' := [(1, .int 1), (0, .int x0_1)]) hx hb dJ6_numberOfTrailingZeros_0f7a4_18 rfl hl (by decide) rfl (fun ls hl => ?_)
    refine lv_iload_n hx hb dJ6_numberOfTrailingZeros_0f7a4_19 rfl (lv_at hl 1 rfl) ?_
    refine lv_ldcw hx hb hown (hta _ wq_587) dJ6_numberOfTrailingZeros_0f7a4_20 ?_
    obtain ⟨k_34, hk_34, hf⟩ := jn_inv2 hf
    have hj_34 : ∀ (x0_3 : Int32) (x1_3 : Int32) (H : Heap) (locs : List Loc) (ls : Array Slot), k_34 x0_3 x1_3 = some v → CZ D A s H locs w → lv_has ls 2 [(0, .int x0_3), (1, .int x1_3)] → W p l e R s m args below meth c H locs 0 0 Q (F0 m 34 ls []) := by
      intro x0_3 x1_3 H locs ls hf hC hl
      have hf := hk_34 _ _ hf
      refine lv_iload_n hx hb dJ6_numberOfTrailingZeros_0f7a4_34 rfl (lv_at hl 0 rfl) ?_
      refine lv_sipush (v := 256) hx hb dJ6_numberOfTrailingZeros_0f7a4_35 (by decide) ?_
      obtain ⟨k_49, hk_49, hf⟩ := jn_inv2 hf
      have hj_49 : ∀ (x0_4 : Int32) (x1_4 : Int32) (H : Heap) (locs : List Loc) (ls : Array Slot), k_49 x0_4 x1_4 = some v → CZ D A s H locs w → lv_has ls 2 [(0, .int x0_4), (1, .int x1_4)] → W p l e R s m args below meth c H locs 0 0 Q (F0 m 49 ls []) := by
        intro x0_4 x1_4 H locs ls hf hC hl
        have hf := hk_49 _ _ hf
        refine lv_iload_n hx hb dJ6_numberOfTrailingZeros_0f7a4_49 rfl (lv_at hl 0 rfl) ?_
        refine lv_bipush (v := 16) hx hb dJ6_numberOfTrailingZeros_0f7a4_50 (by decide) ?_
        obtain ⟨k_62, hk_62, hf⟩ := jn_inv2 hf
        have hj_62 : ∀ (x0_5 : Int32) (x1_5 : Int32) (H : Heap) (locs : List Loc) (ls : Array Slot), k_62 x0_5 x1_5 = some v → CZ D A s H locs w → lv_has ls 2 [(0, .int x0_5), (1, .int x1_5)] → W p l e R s m args below meth c H locs 0 0 Q (F0 m 62 ls []) := by
          intro x0_5 x1_5 H locs ls hf hC hl
          have hf := hk_62 _ _ hf
          refine lv_iload_n hx hb dJ6_numberOfTrailingZeros_0f7a4_62 rfl (lv_at hl 0 rfl) ?_
          refine lv_iconst (v := 4) hx hb dJ6_numberOfTrailingZeros_0f7a4_63 (by decide) ?_
          obtain ⟨k_74, hk_74, hf⟩ := jn_inv2 hf
          have hj_74 : ∀ (x0_6 : Int32) (x1_6 : Int32) (H : Heap) (locs : List Loc) (ls : Array Slot), k_74 x0_6 x1_6 = some v → CZ D A s H locs w → lv_has ls 2 [(0, .int x0_6), (1, .int x1_6)] → W p l e R s m args below meth c H locs 0 0 Q (F0 m 74 ls []) := by
            intro x0_6 x1_6 H locs ls hf hC hl
            have hf := hk_74 _ _ hf
            refine lv_iload_n hx hb dJ6_numberOfTrailingZeros_0f7a4_74 rfl (lv_at hl 1 rfl) ?_
            refine lv_iload_n hx hb dJ6_numberOfTrailingZeros_0f7a4_75 rfl (lv_at hl 0 rfl) ?_
            refine lv_iconst (v := 1) hx hb dJ6_numberOfTrailingZeros_0f7a4_76 (by decide) ?_
            refine lv_iushr hx hb dJ6_numberOfTrailingZeros_0f7a4_77 rfl ?_
            refine lv_iadd hx hb dJ6_numberOfTrailingZeros_0f7a4_78 ?_
            exact hret _ _ _ _ _ _ (Option.some.inj hf) rfl rfl dJ6_numberOfTrailingZeros_0f7a4_79 hC
          refine lv_icmp_le (tgt := 74) hx hb dJ6_numberOfTrailingZeros_0f7a4_64 (by decide) (fun c_7 => ?_) (fun c_7 => ?_)
          · have hf := it_t c_7 hf
            exact hj_74 _ _ _ _ _ hf hC hl
          · have hf := it_f c_7 hf
            obtain ⟨x1_8, e_8, hf⟩ := lt_inv hf
            refine lv_iinc (v := x1_8) (lv' := [(1, .int x1_8), (0, .int x0_5)]) hx hb dJ6_numberOfTrailingZeros_0f7a4_67 hl (k := 1) rfl e_8.symm (by decide) rfl (fun ls hl => ?_)
            refine lv_iload_n hx hb dJ6_numberOfTrailingZeros_0f7a4_70 rfl (lv_at hl 1 rfl) ?_
            refine lv_iconst (v := 2) hx hb dJ6_numberOfTrailingZeros_0f7a4_71 (by decide) ?_
            refine lv_iushr hx hb dJ6_numberOfTrailingZeros_0f7a4_72 rfl ?_
            obtain ⟨x0_9, e_9, hf⟩ := lt_inv hf
            refine nmi e_9 ?_
            refine lv_istore_n (lv' := [(0, .int x0_9), (1, .int x1_8)]) hx hb dJ6_numberOfTrailingZeros_0f7a4_73 rfl hl (by decide) rfl (fun ls hl => ?_)
            exact hj_74 _ _ _ _ _ hf hC hl
        refine lv_icmp_le (tgt := 62) hx hb dJ6_numberOfTrailingZeros_0f7a4_52 (by decide) (fun c_10 => ?_) (fun c_10 => ?_)
        · have hf := it_t c_10 hf
          exact hj_62 _ _ _ _ _ hf hC hl
        · have hf := it_f c_10 hf
          obtain ⟨x1_11, e_11, hf⟩ := lt_inv hf
          refine lv_iinc (v := x1_11) (lv' := [(1, .int x1_11), (0, .int x0_4)]) hx hb dJ6_numberOfTrailingZeros_0f7a4_55 hl (k := 1) rfl e_11.symm (by decide) rfl (fun ls hl => ?_)
          refine lv_iload_n hx hb dJ6_numberOfTrailingZeros_0f7a4_58 rfl (lv_at hl 1 rfl) ?_
          refine lv_iconst (v := 4) hx hb dJ6_numberOfTrailingZeros_0f7a4_59 (by decide) ?_
          refine lv_iushr hx hb dJ6_numberOfTrailingZeros_0f7a4_60 rfl ?_
          obtain ⟨x0_12, e_12, hf⟩ := lt_inv hf
          refine nmi e_12 ?_
          refine lv_istore_n (lv' := [(0, .int x0_12), (1, .int x1_11)]) hx hb dJ6_numberOfTrailingZeros_0f7a4_61 rfl hl (by decide) rfl (fun ls hl => ?_)
          exact hj_62 _ _ _ _ _ hf hC hl
      refine lv_icmp_le (tgt := 49) hx hb dJ6_numberOfTrailingZeros_0f7a4_38 (by decide) (fun c_13 => ?_) (fun c_13 => ?_)
      · have hf := it_t c_13 hf
        exact hj_49 _ _ _ _ _ hf hC hl
      · have hf := it_f c_13 hf
        obtain ⟨x1_14, e_14, hf⟩ := lt_inv hf
        refine lv_iinc (v := x1_14) (lv' := [(1, .int x1_14), (0, .int x0_3)]) hx hb dJ6_numberOfTrailingZeros_0f7a4_41 hl (k := 1) rfl e_14.symm (by decide) rfl (fun ls hl => ?_)
        refine lv_iload_n hx hb dJ6_numberOfTrailingZeros_0f7a4_44 rfl (lv_at hl 1 rfl) ?_
        refine lv_bipush (v := 8) hx hb dJ6_numberOfTrailingZeros_0f7a4_45 (by decide) ?_
        refine lv_iushr hx hb dJ6_numberOfTrailingZeros_0f7a4_47 rfl ?_
        obtain ⟨x0_15, e_15, hf⟩ := lt_inv hf
        refine nmi e_15 ?_
        refine lv_istore_n (lv' := [(0, .int x0_15), (1, .int x1_14)]) hx hb dJ6_numberOfTrailingZeros_0f7a4_48 rfl hl (by decide) rfl (fun ls hl => ?_)
        exact hj_49 _ _ _ _ _ hf hC hl
    refine lv_icmp_le (tgt := 34) hx hb dJ6_numberOfTrailingZeros_0f7a4_23 (by decide) (fun c_16 => ?_) (fun c_16 => ?_)
    · have hf := it_t c_16 hf
      exact hj_34 _ _ _ _ _ hf hC (lv_sub hl [1, 0] rfl)
    · have hf := it_f c_16 hf
      obtain ⟨x1_17, e_17, hf⟩ := lt_inv hf
      refine lv_iinc (v := x1_17) (lv' := [(1, .int x1_17), (0, .int x0_1)]) hx hb dJ6_numberOfTrailingZeros_0f7a4_26 hl (k := 0) rfl e_17.symm (by decide) rfl (fun ls hl => ?_)
      refine lv_iload_n hx hb dJ6_numberOfTrailingZeros_0f7a4_29 rfl (lv_at hl 1 rfl) ?_
      refine lv_bipush (v := 16) hx hb dJ6_numberOfTrailingZeros_0f7a4_30 (by decide) ?_
      refine lv_iushr hx hb dJ6_numberOfTrailingZeros_0f7a4_32 rfl ?_
      obtain ⟨x0_18, e_18, hf⟩ := lt_inv hf
      refine nmi e_18 ?_
      refine lv_istore_n (lv' := [(0, .int x0_18), (1, .int x1_17)]) hx hb dJ6_numberOfTrailingZeros_0f7a4_33 rfl hl (by decide) rfl (fun ls hl => ?_)
      exact hj_34 _ _ _ _ _ hf hC hl
  · have hf := it_f c_2 hf
    refine lv_iload_n hx hb dJ6_numberOfTrailingZeros_0f7a4_12 rfl (lv_at hl 0 rfl) ?_
    refine lv_bipush (v := 32) hx hb dJ6_numberOfTrailingZeros_0f7a4_13 (by decide) ?_
    refine lv_iand hx hb dJ6_numberOfTrailingZeros_0f7a4_15 ?_
    exact hret _ _ _ _ _ _ (Option.some.inj hf) rfl rfl dJ6_numberOfTrailingZeros_0f7a4_16 hC

set_option maxHeartbeats 8000000 in
set_option maxRecDepth 100000 in
theorem r_J13_numberOfTrailingZeros_95d88 {D : va_G} {y : Nat → ClassId} {ad av : Nat → Nat} {w : va_W} {x1 : Int64} {v : Int32} (hf : f_J13_numberOfTrailingZeros_95d88 x1 = some v) (l : Launch) (sz : Nat) : Met l yJ13_numberOfTrailingZeros_95d88 (Cond.code yJ13_numberOfTrailingZeros_95d88 cJ13_numberOfTrailingZeros_95d88 3 (some .int) :: ALW) { frames := 1, cells := 0, slots := 0, locals := 21 } (va_Pc [.long x1] (PZ D y ad av (w) sz)) (QZi D (w) v (w) sz) 0 0 (va_A (w) sz) := by
  refine met_i (by decide) (Nat.le_of_ble_eq_true rfl) ?_
  intro p e R s m args below meth c Q A ls hx hb hml hta hown hRc hRs hRf hRl hN hK hV hA hret hC hl
  have hl : lv_has ls 3 [(0, .long x1)] := hl
  unfold f_J13_numberOfTrailingZeros_95d88 at hf
  refine lv_lload_n hx hb dJ13_numberOfTrailingZeros_95d88_0 rfl (lv_at hl 0 rfl) ?_
  refine lv_l2i hx hb dJ13_numberOfTrailingZeros_95d88_1 rfl ?_
  obtain ⟨x2_1, e_1, hf⟩ := lt_inv hf
  refine nmi e_1 ?_
  refine lv_istore_n (lv' := [(2, .int x2_1), (0, .long x1)]) hx hb dJ13_numberOfTrailingZeros_95d88_2 rfl hl (by decide) rfl (fun ls hl => ?_)
  refine lv_iload_n hx hb dJ13_numberOfTrailingZeros_95d88_3 rfl (lv_at hl 0 rfl) ?_
  refine lv_if_ne (tgt := 21) hx hb dJ13_numberOfTrailingZeros_95d88_4 (by decide) (fun c_2 => ?_) (fun c_2 => ?_)
  · have hf := it_f c_2 hf
    refine lv_iload_n hx hb dJ13_numberOfTrailingZeros_95d88_21 rfl (lv_at hl 0 rfl) ?_
    obtain ⟨v_4, hc_4, hf⟩ := calp_inv hf
    refine cc_Si (r_J6_numberOfTrailingZeros_0f7a4 (D := D) (y := y) (w := w) (ad := ad) (av := av) hc_4 l) hx hb hml hta hown hK hN hV hA hC hRc hRs (by omega) (by omega) wq_589 wq_590 wq_591 wq_586 hd_J6_numberOfTrailingZeros_0f7a4 (As := [.int x2_1]) (rest := []) rfl rfl hl.1 rfl dJ13_numberOfTrailingZeros_95d88_22 (fun H locs hC => ?_)
    exact hret _ _ _ _ _ _ (Option.some.inj hf) rfl rfl dJ13_numberOfTrailingZeros_95d88_25 hC
  · have hf := it_t c_2 hf
    refine lv_bipush (v := 32) hx hb dJ13_numberOfTrailingZeros_95d88_7 (by decide) ?_
    refine lv_lload_n hx hb dJ13_numberOfTrailingZeros_95d88_9 rfl (lv_at hl 1 rfl) ?_
    refine lv_bipush (v := 32) hx hb dJ13_numberOfTrailingZeros_95d88_10 (by decide) ?_
    refine lv_lushr hx hb dJ13_numberOfTrailingZeros_95d88_12 rfl ?_
    refine lv_l2i hx hb dJ13_numberOfTrailingZeros_95d88_13 rfl ?_
    obtain ⟨v_3, hc_3, hf⟩ := calp_inv hf
    refine cc_Si (r_J6_numberOfTrailingZeros_0f7a4 (D := D) (y := y) (w := w) (ad := ad) (av := av) hc_3 l) hx hb hml hta hown hK hN hV hA hC hRc hRs (by omega) (by omega) wq_589 wq_590 wq_591 wq_586 hd_J6_numberOfTrailingZeros_0f7a4 (As := [.int (((x1.toUInt64 >>> ((32 : Int32).toInt64.toUInt64 &&& Int64.toUInt64 63)).toInt64).toInt32)]) (rest := [.int 32]) rfl rfl hl.1 rfl dJ13_numberOfTrailingZeros_95d88_14 (fun H locs hC => ?_)
    refine lv_iadd hx hb dJ13_numberOfTrailingZeros_95d88_17 ?_
    refine lv_goto (tgt := 25) hx hb dJ13_numberOfTrailingZeros_95d88_18 (by decide) ?_
    exact hret _ _ _ _ _ _ (Option.some.inj hf) rfl rfl dJ13_numberOfTrailingZeros_95d88_25 hC

set_option maxHeartbeats 8000000 in
set_option maxRecDepth 100000 in
theorem r_X8_sharedBefore {D : va_G} {y : Nat → ClassId} {o : Nat → Nat} {ad av : Nat → Nat} {x1 : Int32} {σ : Sto} {v : Int64} (hf : f_X8_sharedBefore x1 σ = some v) (l : Launch) (sz : Nat) : Met l yX8_sharedBefore (Cond.code yX8_sharedBefore cX8_sharedBefore 7 (some .long) :: ALW) { frames := 2, cells := 0, slots := 0, locals := 43 } (va_Pc [.ref (o 30), .int x1] (PZ D y ad av (WX y o σ) sz)) (QZl D (WX y o σ) v (WX y o σ) sz) 0 0 (va_A (WX y o σ) sz) := by
  refine met_l (by decide) (Nat.le_of_ble_eq_true rfl) ?_
  intro p e R s m args below meth c Q A ls hx hb hml hta hown hRc hRs hRf hRl hN hK hV hA hret hC hl
  have hl : lv_has ls 7 [(0, .ref (o 30)), (1, .int x1)] := hl
  unfold f_X8_sharedBefore at hf
  refine lv_lconst (v := 1) hx hb dX8_sharedBefore_0 rfl ?_
  refine lv_aload_n hx hb dX8_sharedBefore_1 rfl (lv_at hl 0 rfl) ?_
  refine gt_X8_47_shape hx hb hta hown hK hC dX8_sharedBefore_2 ?_
  refine gt_X8_109_blocks hx hb hta hown hK hC dX8_sharedBefore_5 ?_
  refine lv_lshl hx hb dX8_sharedBefore_8 rfl ?_
  refine lv_lconst (v := 1) hx hb dX8_sharedBefore_9 rfl ?_
  refine lv_lsub hx hb dX8_sharedBefore_10 ?_
  obtain ⟨x2_1, e_1, hf⟩ := lt_inv hf
  refine nml e_1 ?_
  refine lv_lstore_n (lv' := [(2, .long x2_1), (0, .ref (o 30)), (1, .int x1)]) hx hb dX8_sharedBefore_11 rfl hl (by decide) rfl (fun ls hl => ?_)
  refine lv_aload_n hx hb dX8_sharedBefore_12 rfl (lv_at hl 1 rfl) ?_
  refine gt_X8_35_shape hx hb hta hown hK hC dX8_sharedBefore_13 ?_
  refine lv_iload_n hx hb dX8_sharedBefore_16 rfl (lv_at hl 2 rfl) ?_
  obtain ⟨hi_2, hf⟩ := ix_inv hf
  obtain ⟨v_2, e_2, hf⟩ := lt_inv hf
  refine al_X_38 hx hb hK hC hi_2 e_2 dX8_sharedBefore_17 ?_
  refine lv_lstore (lv' := [(4, .long v_2), (2, .long x2_1), (0, .ref (o 30)), (1, .int x1)]) hx hb dX8_sharedBefore_18 hl (by decide) rfl (fun ls hl => ?_)
  refine lv_lload hx hb dX8_sharedBefore_20 (lv_at hl 0 rfl) ?_
  obtain ⟨v_3, hc_3, hf⟩ := calp_inv hf
  refine cc_Si (r_J13_bitCount_95d88 (D := D) (y := y) (w := WX y o σ) (ad := ad) (av := av) hc_3 l) hx hb hml hta hown hK hN hV hA hC hRc hRs (by omega) (by omega) wq_593 wq_594 wq_595 wq_582 hd_J13_bitCount_95d88 (As := [.long v_2]) (rest := []) rfl rfl hl.1 rfl dX8_sharedBefore_22 (fun H locs hC => ?_)
  refine lv_istore (lv' := [(6, .int v_3), (4, .long v_2), (2, .long x2_1), (0, .ref (o 30)), (1, .int x1)]) hx hb dX8_sharedBefore_25 hl (by decide) rfl (fun ls hl => ?_)
  refine itr_inv3 (P := fun (x2_4 : Int64) (x4_4 : Int64) (x6_4 : Int32) => ∀ (H : Heap) (locs : List Loc) (ls : Array Slot), CZ D A s H locs (WX y o σ) → lv_has ls 7 [(0, .ref (o 30)), (2, .long x2_4), (4, .long x4_4), (6, .int x6_4)] → W p l e R s m args below meth c H locs 0 0 Q (F0 m 27 ls [])) hf ?_ _ _ _ hC (lv_sub hl [3, 2, 1, 0] rfl)
  intro a_27 x2_4 x4_4 x6_4 ha_27 hf H locs ls hC hl
  refine lv_iload hx hb dX8_sharedBefore_27 (lv_at hl 3 rfl) ?_
  refine lv_if_le (tgt := 60) hx hb dX8_sharedBefore_29 (by decide) (fun c_5 => ?_) (fun c_5 => ?_)
  · have hf := it_t c_5 hf
    refine lv_lload_n hx hb dX8_sharedBefore_60 rfl (lv_at hl 1 rfl) ?_
    exact hret _ _ _ _ _ _ (Option.some.inj hf) rfl dX8_sharedBefore_61 hC
  · have hf := it_f c_5 hf
    refine lv_lload_n hx hb dX8_sharedBefore_32 rfl (lv_at hl 1 rfl) ?_
    refine lv_aload_n hx hb dX8_sharedBefore_33 rfl (lv_at hl 0 rfl) ?_
    refine gt_X8_25_shape hx hb hta hown hK hC dX8_sharedBefore_34 ?_
    refine lv_lload hx hb dX8_sharedBefore_37 (lv_at hl 2 rfl) ?_
    obtain ⟨v_6, hc_6, hf⟩ := calp_inv hf
    refine cc_Si (r_J13_numberOfTrailingZeros_95d88 (D := D) (y := y) (w := WX y o σ) (ad := ad) (av := av) hc_6 l) hx hb hml hta hown hK hN hV hA hC hRc hRs (by omega) (by omega) wq_596 wq_597 wq_595 wq_588 hd_J13_numberOfTrailingZeros_95d88 (As := [.long x4_4]) (rest := [.ref (o 35), .long x2_4]) rfl rfl hl.1 rfl dX8_sharedBefore_39 (fun H locs hC => ?_)
    obtain ⟨hi_7, hf⟩ := ix_inv hf
    obtain ⟨v_7, e_7, hf⟩ := lt_inv hf
    refine al_X_35 hx hb hK hC hi_7 e_7 dX8_sharedBefore_42 ?_
    refine lv_land hx hb dX8_sharedBefore_43 ?_
    obtain ⟨x2_8, e_8, hf⟩ := lt_inv hf
    refine nml e_8 ?_
    refine lv_lstore_n (lv' := [(2, .long x2_8), (0, .ref (o 30)), (4, .long x4_4), (6, .int x6_4)]) hx hb dX8_sharedBefore_44 rfl hl (by decide) rfl (fun ls hl => ?_)
    refine lv_lload hx hb dX8_sharedBefore_45 (lv_at hl 2 rfl) ?_
    refine lv_lload hx hb dX8_sharedBefore_47 (lv_at hl 2 rfl) ?_
    refine lv_lconst (v := 1) hx hb dX8_sharedBefore_49 rfl ?_
    refine lv_lsub hx hb dX8_sharedBefore_50 ?_
    refine lv_land hx hb dX8_sharedBefore_51 ?_
    obtain ⟨x4_9, e_9, hf⟩ := lt_inv hf
    refine nml e_9 ?_
    refine lv_lstore (lv' := [(4, .long x4_9), (2, .long x2_8), (0, .ref (o 30)), (6, .int x6_4)]) hx hb dX8_sharedBefore_52 hl (by decide) rfl (fun ls hl => ?_)
    obtain ⟨x6_10, e_10, hf⟩ := lt_inv hf
    refine lv_iinc (v := x6_10) (lv' := [(6, .int x6_10), (4, .long x4_9), (2, .long x2_8), (0, .ref (o 30))]) hx hb dX8_sharedBefore_54 hl (k := 3) rfl e_10.symm (by decide) rfl (fun ls hl => ?_)
    refine lv_goto (tgt := 27) hx hb dX8_sharedBefore_57 (by decide) ?_
    exact ha_27 _ _ _ hf _ _ _ hC (lv_sub hl [3, 2, 1, 0] rfl)

set_option maxHeartbeats 8000000 in
set_option maxRecDepth 100000 in
theorem r_X8_findDominators {D : va_G} {y : Nat → ClassId} {o : Nat → Nat} {ad av : Nat → Nat} {σ : Sto} {σ2 : Sto} (hf : f_X8_findDominators σ = some σ2) (l : Launch) (sz : Nat) : Met l yX8_findDominators (Cond.code yX8_findDominators cX8_findDominators 7 none :: ALW) { frames := 3, cells := 0, slots := 0, locals := 69 } (va_Pc [.ref (o 30)] (PZ D y ad av (WX y o σ) sz)) (QZv D (WX y o σ) (WX y o σ2) sz) 0 0 (va_A (WX y o σ) sz) := by
  refine met_v (by decide) (Nat.le_of_ble_eq_true rfl) ?_
  intro p e R s m args below meth c Q A ls hx hb hml hta hown hRc hRs hRf hRl hN hK hV hA hret hC hl
  have hl : lv_has ls 7 [(0, .ref (o 30))] := hl
  unfold f_X8_findDominators at hf
  refine lv_iconst (v := 0) hx hb dX8_findDominators_0 (by decide) ?_
  refine lv_istore_n (lv' := [(1, .int 0), (0, .ref (o 30))]) hx hb dX8_findDominators_1 rfl hl (by decide) rfl (fun ls hl => ?_)
  refine itr_inv2 (P := fun (x1_1 : Int32) (s_1 : Sto) => ∀ (H : Heap) (locs : List Loc) (ls : Array Slot), CZ D A s H locs (WX y o s_1) → lv_has ls 7 [(0, .ref (o 30)), (1, .int x1_1)] → W p l e R s m args below meth c H locs 0 0 Q (F0 m 2 ls [])) hf ?_ _ _ _ hC (lv_sub hl [1, 0] rfl)
  intro a_2 x1_1 s_1 ha_2 hf H locs ls hC hl
  refine lv_iload_n hx hb dX8_findDominators_2 rfl (lv_at hl 1 rfl) ?_
  refine lv_aload_n hx hb dX8_findDominators_3 rfl (lv_at hl 0 rfl) ?_
  refine gt_X8_47_shape hx hb hta hown hK hC dX8_findDominators_4 ?_
  refine gt_X8_109_blocks hx hb hta hown hK hC dX8_findDominators_7 ?_
  refine lv_icmp_ge (tgt := 43) hx hb dX8_findDominators_10 (by decide) (fun c_2 => ?_) (fun c_2 => ?_)
  · have hf := it_t c_2 hf
    refine lv_iconst (v := 0) hx hb dX8_findDominators_43 (by decide) ?_
    refine lv_istore_n (lv' := [(1, .int 0), (0, .ref (o 30))]) hx hb dX8_findDominators_44 rfl hl (by decide) rfl (fun ls hl => ?_)
    refine itr_inv2 (P := fun (x1_3 : Int32) (s_3 : Sto) => ∀ (H : Heap) (locs : List Loc) (ls : Array Slot), CZ D A s H locs (WX y o s_3) → lv_has ls 7 [(0, .ref (o 30)), (1, .int x1_3)] → W p l e R s m args below meth c H locs 0 0 Q (F0 m 45 ls [])) hf ?_ _ _ _ hC (lv_sub hl [1, 0] rfl)
    intro a_45 x1_3 s_3 ha_45 hf H locs ls hC hl
    refine lv_iload_n hx hb dX8_findDominators_45 rfl (lv_at hl 1 rfl) ?_
    refine lv_aload_n hx hb dX8_findDominators_46 rfl (lv_at hl 0 rfl) ?_
    refine gt_X8_47_shape hx hb hta hown hK hC dX8_findDominators_47 ?_
    refine gt_X8_75_blocks hx hb hta hown hK hC dX8_findDominators_50 ?_
    refine lv_icmp_ge (tgt := 99) hx hb dX8_findDominators_53 (by decide) (fun c_4 => ?_) (fun c_4 => ?_)
    · have hf := it_t c_4 hf
      refine lv_aload_n hx hb dX8_findDominators_99 rfl (lv_at hl 0 rfl) ?_
      refine gt_X8_25_shape hx hb hta hown hK hC dX8_findDominators_100 ?_
      refine lv_iconst (v := 0) hx hb dX8_findDominators_103 (by decide) ?_
      refine lv_lconst (v := 1) hx hb dX8_findDominators_104 rfl ?_
      obtain ⟨hi_5, hf⟩ := ix_inv hf
      obtain ⟨s_5, e_5, hf⟩ := lt_inv hf
      refine as_X_35 hx hb hK hC hi_5 e_5 dX8_findDominators_105 (fun H locs hC => ?_)
      refine lv_iconst (v := 1) hx hb dX8_findDominators_106 (by decide) ?_
      refine lv_istore_n (lv' := [(1, .int 1), (0, .ref (o 30))]) hx hb dX8_findDominators_107 rfl hl (by decide) rfl (fun ls hl => ?_)
      refine lv_iconst (v := 0) hx hb dX8_findDominators_108 (by decide) ?_
      refine lv_istore_n (lv' := [(2, .int 0), (1, .int 1), (0, .ref (o 30))]) hx hb dX8_findDominators_109 rfl hl (by decide) rfl (fun ls hl => ?_)
      refine itr_inv3 (P := fun (x1_6 : Int32) (x2_6 : Int32) (s_6 : Sto) => ∀ (H : Heap) (locs : List Loc) (ls : Array Slot), CZ D A s H locs (WX y o s_6) → lv_has ls 7 [(0, .ref (o 30)), (1, .int x1_6), (2, .int x2_6)] → W p l e R s m args below meth c H locs 0 0 Q (F0 m 110 ls [])) hf ?_ _ _ _ hC (lv_sub hl [2, 1, 0] rfl)
      intro a_110 x1_6 x2_6 s_6 ha_110 hf H locs ls hC hl
      refine lv_iload_n hx hb dX8_findDominators_110 rfl (lv_at hl 2 rfl) ?_
      refine lv_ldc hx hb hown (hta _ wq_579) dX8_findDominators_111 ?_
      refine lv_icmp_ge (tgt := 200) hx hb dX8_findDominators_113 (by decide) (fun c_7 => ?_) (fun c_7 => ?_)
      · have hf := it_t c_7 hf
        exact hret _ _ _ _ _ (congrArg (WX y o) (Option.some.inj hf)) dX8_findDominators_200 hC
      · have hf := it_f c_7 hf
        refine lv_iload_n hx hb dX8_findDominators_116 rfl (lv_at hl 1 rfl) ?_
        refine lv_if_eq (tgt := 200) hx hb dX8_findDominators_117 (by decide) (fun c_8 => ?_) (fun c_8 => ?_)
        · have hf := it_t c_8 hf
          exact hret _ _ _ _ _ (congrArg (WX y o) (Option.some.inj hf)) dX8_findDominators_200 hC
        · have hf := it_f c_8 hf
          refine lv_iconst (v := 0) hx hb dX8_findDominators_120 (by decide) ?_
          refine lv_istore_n (lv' := [(1, .int 0), (0, .ref (o 30)), (2, .int x2_6)]) hx hb dX8_findDominators_121 rfl hl (by decide) rfl (fun ls hl => ?_)
          refine lv_iconst (v := 1) hx hb dX8_findDominators_122 (by decide) ?_
          refine lv_istore_n (lv' := [(3, .int 1), (1, .int 0), (0, .ref (o 30)), (2, .int x2_6)]) hx hb dX8_findDominators_123 rfl hl (by decide) rfl (fun ls hl => ?_)
          refine itr_inv3 (P := fun (x1_9 : Int32) (x3_9 : Int32) (s_9 : Sto) => ∀ (H : Heap) (locs : List Loc) (ls : Array Slot), CZ D A s H locs (WX y o s_9) → lv_has ls 7 [(0, .ref (o 30)), (1, .int x1_9), (2, .int x2_6), (3, .int x3_9)] → W p l e R s m args below meth c H locs 0 0 Q (F0 m 124 ls [])) hf ?_ _ _ _ hC (lv_sub hl [2, 1, 3, 0] rfl)
          intro a_124 x1_9 x3_9 s_9 ha_124 hf H locs ls hC hl
          refine lv_iload_n hx hb dX8_findDominators_124 rfl (lv_at hl 3 rfl) ?_
          refine lv_aload_n hx hb dX8_findDominators_125 rfl (lv_at hl 0 rfl) ?_
          refine gt_X8_47_shape hx hb hta hown hK hC dX8_findDominators_126 ?_
          refine gt_X8_109_blocks hx hb hta hown hK hC dX8_findDominators_129 ?_
          refine lv_icmp_ge (tgt := 194) hx hb dX8_findDominators_132 (by decide) (fun c_10 => ?_) (fun c_10 => ?_)
          · have hf := it_t c_10 hf
            obtain ⟨x2_11, e_11, hf⟩ := lt_inv hf
            refine lv_iinc (v := x2_11) (lv' := [(2, .int x2_11), (0, .ref (o 30)), (1, .int x1_9), (3, .int x3_9)]) hx hb dX8_findDominators_194 hl (k := 2) rfl e_11.symm (by decide) rfl (fun ls hl => ?_)
            refine lv_goto (tgt := 110) hx hb dX8_findDominators_197 (by decide) ?_
            exact ha_110 _ _ _ hf _ _ _ hC (lv_sub hl [1, 2, 0] rfl)
          · have hf := it_f c_10 hf
            refine lv_aload_n hx hb dX8_findDominators_135 rfl (lv_at hl 0 rfl) ?_
            refine gt_X8_18_shape hx hb hta hown hK hC dX8_findDominators_136 ?_
            refine lv_iload_n hx hb dX8_findDominators_139 rfl (lv_at hl 3 rfl) ?_
            obtain ⟨hi_12, hf⟩ := ix_inv hf
            obtain ⟨v_12, e_12, hf⟩ := lt_inv hf
            refine al_X_33 hx hb hK hC hi_12 e_12 dX8_findDominators_140 ?_
            refine lv_istore (lv' := [(4, .int v_12), (0, .ref (o 30)), (1, .int x1_9), (2, .int x2_6), (3, .int x3_9)]) hx hb dX8_findDominators_141 hl (by decide) rfl (fun ls hl => ?_)
            refine lv_aload_n hx hb dX8_findDominators_143 rfl (lv_at hl 1 rfl) ?_
            refine lv_iload hx hb dX8_findDominators_144 (lv_at hl 0 rfl) ?_
            obtain ⟨v_13, hc_13, hf⟩ := calp_inv hf
            refine cc_Vl (r_X8_sharedBefore (D := D) (y := y) (o := o) (ad := ad) (av := av) hc_13 l) hx hb hml hta hown hK hN hV hA hC hRc hRs (by omega) (by omega) wq_600 (q := 30) (ci := 8) rfl rfl wq_601 wq_602 wq_603 wq_592 hd_X8_sharedBefore (As := [.int v_12]) (rest := []) rfl rfl hl.1 rfl dX8_findDominators_146 (fun H locs hC => ?_)
            refine lv_lconst (v := 1) hx hb dX8_findDominators_149 rfl ?_
            refine lv_iload hx hb dX8_findDominators_150 (lv_at hl 0 rfl) ?_
            refine lv_lshl hx hb dX8_findDominators_152 rfl ?_
            refine lv_lor hx hb dX8_findDominators_153 ?_
            obtain ⟨x5_14, e_14, hf⟩ := lt_inv hf
            refine nml e_14 ?_
            refine lv_lstore (lv' := [(5, .long x5_14), (4, .int v_12), (0, .ref (o 30)), (1, .int x1_9), (2, .int x2_6), (3, .int x3_9)]) hx hb dX8_findDominators_154 hl (by decide) rfl (fun ls hl => ?_)
            refine lv_iload_n hx hb dX8_findDominators_156 rfl (lv_at hl 3 rfl) ?_
            obtain ⟨k_178, hk_178, hf⟩ := jn_inv1 hf
            have hj_178 : ∀ (t0_15 : Int32) (H : Heap) (locs : List Loc) (ls : Array Slot), k_178 t0_15 = some σ2 → CZ D A s H locs (WX y o s_9) → lv_has ls 7 [(0, .ref (o 30)), (2, .int x2_6), (3, .int x3_9), (4, .int v_12), (5, .long x5_14)] → W p l e R s m args below meth c H locs 0 0 Q (F0 m 178 ls [.int t0_15]) := by
              intro t0_15 H locs ls hf hC hl
              have hf := hk_178 _ hf
              refine lv_istore_n (lv' := [(1, .int t0_15), (0, .ref (o 30)), (2, .int x2_6), (3, .int x3_9), (4, .int v_12), (5, .long x5_14)]) hx hb dX8_findDominators_178 rfl hl (by decide) rfl (fun ls hl => ?_)
              refine lv_aload_n hx hb dX8_findDominators_179 rfl (lv_at hl 1 rfl) ?_
              refine gt_X8_25_shape hx hb hta hown hK hC dX8_findDominators_180 ?_
              refine lv_iload hx hb dX8_findDominators_183 (lv_at hl 4 rfl) ?_
              refine lv_lload hx hb dX8_findDominators_185 (lv_at hl 5 rfl) ?_
              obtain ⟨hi_16, hf⟩ := ix_inv hf
              obtain ⟨s_16, e_16, hf⟩ := lt_inv hf
              refine as_X_35 hx hb hK hC hi_16 e_16 dX8_findDominators_187 (fun H locs hC => ?_)
              obtain ⟨x3_17, e_17, hf⟩ := lt_inv hf
              refine lv_iinc (v := x3_17) (lv' := [(3, .int x3_17), (1, .int t0_15), (0, .ref (o 30)), (2, .int x2_6), (4, .int v_12), (5, .long x5_14)]) hx hb dX8_findDominators_188 hl (k := 3) rfl e_17.symm (by decide) rfl (fun ls hl => ?_)
              refine lv_goto (tgt := 124) hx hb dX8_findDominators_191 (by decide) ?_
              exact ha_124 _ _ _ hf _ _ _ hC (lv_sub hl [2, 1, 3, 0] rfl)
            obtain ⟨k_173, hk_173, hf⟩ := jn_inv0 hf
            have hj_173 : ∀  (H : Heap) (locs : List Loc) (ls : Array Slot), k_173 = some σ2 → CZ D A s H locs (WX y o s_9) → lv_has ls 7 [(0, .ref (o 30)), (2, .int x2_6), (3, .int x3_9), (4, .int v_12), (5, .long x5_14)] → W p l e R s m args below meth c H locs 0 0 Q (F0 m 173 ls []) := by
              intro H locs ls hf hC hl
              have hf := hk_173 hf
              refine lv_iconst (v := 1) hx hb dX8_findDominators_173 (by decide) ?_
              refine lv_goto (tgt := 178) hx hb dX8_findDominators_174 (by decide) ?_
              exact hj_178 _ _ _ _ hf hC hl
            refine lv_if_ne (tgt := 173) hx hb dX8_findDominators_157 (by decide) (fun c_19 => ?_) (fun c_19 => ?_)
            · have hf := it_f c_19 hf
              exact hj_173 _ _ _ hf hC (lv_sub hl [2, 4, 5, 1, 0] rfl)
            · have hf := it_t c_19 hf
              refine lv_lload hx hb dX8_findDominators_160 (lv_at hl 0 rfl) ?_
              refine lv_aload_n hx hb dX8_findDominators_162 rfl (lv_at hl 2 rfl) ?_
              refine gt_X8_25_shape hx hb hta hown hK hC dX8_findDominators_163 ?_
              refine lv_iload hx hb dX8_findDominators_166 (lv_at hl 1 rfl) ?_
              obtain ⟨hi_20, hf⟩ := ix_inv hf
              obtain ⟨v_20, e_20, hf⟩ := lt_inv hf
              refine al_X_35 hx hb hK hC hi_20 e_20 dX8_findDominators_168 ?_
              refine W.lcmp hx hb dX8_findDominators_169 ?_
              refine lv_if_eq (tgt := 177) hx hb dX8_findDominators_170 (by decide) (fun c_21 => ?_) (fun c_21 => ?_)
              · have hf := it_t c_21 hf
                refine lv_iconst (v := 0) hx hb dX8_findDominators_177 (by decide) ?_
                exact hj_178 _ _ _ _ hf hC (lv_sub hl [2, 4, 5, 1, 0] rfl)
              · have hf := it_f c_21 hf
                exact hj_173 _ _ _ hf hC (lv_sub hl [2, 4, 5, 1, 0] rfl)
    · have hf := it_f c_4 hf
      refine lv_aload_n hx hb dX8_findDominators_56 rfl (lv_at hl 0 rfl) ?_
      refine gt_X8_9_shape hx hb hta hown hK hC dX8_findDominators_57 ?_
      refine lv_iload_n hx hb dX8_findDominators_60 rfl (lv_at hl 1 rfl) ?_
      obtain ⟨hi_22, hf⟩ := ix_inv hf
      obtain ⟨v_22, e_22, hf⟩ := lt_inv hf
      refine al_X_31 hx hb hK hC hi_22 e_22 dX8_findDominators_61 ?_
      obtain ⟨k_93, hk_93, hf⟩ := jn_inv1 hf
      have hj_93 : ∀ (s_23 : Sto) (H : Heap) (locs : List Loc) (ls : Array Slot), k_93 s_23 = some σ2 → CZ D A s H locs (WX y o s_23) → lv_has ls 7 [(0, .ref (o 30)), (1, .int x1_3)] → W p l e R s m args below meth c H locs 0 0 Q (F0 m 93 ls []) := by
        intro s_23 H locs ls hf hC hl
        have hf := hk_93 _ hf
        obtain ⟨x1_24, e_24, hf⟩ := lt_inv hf
        refine lv_iinc (v := x1_24) (lv' := [(1, .int x1_24), (0, .ref (o 30))]) hx hb dX8_findDominators_93 hl (k := 1) rfl e_24.symm (by decide) rfl (fun ls hl => ?_)
        refine lv_goto (tgt := 45) hx hb dX8_findDominators_96 (by decide) ?_
        exact ha_45 _ _ hf _ _ _ hC (lv_sub hl [1, 0] rfl)
      refine lv_if_ne (tgt := 93) hx hb dX8_findDominators_62 (by decide) (fun c_25 => ?_) (fun c_25 => ?_)
      · have hf := it_f c_25 hf
        exact hj_93 _ _ _ _ hf hC hl
      · have hf := it_t c_25 hf
        refine lv_aload_n hx hb dX8_findDominators_65 rfl (lv_at hl 0 rfl) ?_
        refine gt_X8_35_shape hx hb hta hown hK hC dX8_findDominators_66 ?_
        refine lv_aload_n hx hb dX8_findDominators_69 rfl (lv_at hl 0 rfl) ?_
        refine gt_X8_47_shape hx hb hta hown hK hC dX8_findDominators_70 ?_
        refine gt_X8_99_blocks hx hb hta hown hK hC dX8_findDominators_73 ?_
        refine lv_iload_n hx hb dX8_findDominators_76 rfl (lv_at hl 1 rfl) ?_
        obtain ⟨hi_26, hf⟩ := ix_inv hf
        obtain ⟨v_26, e_26, hf⟩ := lt_inv hf
        refine al_X_27 hx hb hK hC hi_26 e_26 dX8_findDominators_77 ?_
        refine lv_dup2_11 hx hb dX8_findDominators_78 rfl rfl ?_
        obtain ⟨hi_27, hf⟩ := ix_inv hf
        obtain ⟨v_27, e_27, hf⟩ := lt_inv hf
        refine al_X_38 hx hb hK hC hi_27 e_27 dX8_findDominators_79 ?_
        refine lv_lconst (v := 1) hx hb dX8_findDominators_80 rfl ?_
        refine lv_aload_n hx hb dX8_findDominators_81 rfl (lv_at hl 0 rfl) ?_
        refine gt_X8_47_shape hx hb hta hown hK hC dX8_findDominators_82 ?_
        refine gt_X8_102_blocks hx hb hta hown hK hC dX8_findDominators_85 ?_
        refine lv_iload_n hx hb dX8_findDominators_88 rfl (lv_at hl 1 rfl) ?_
        obtain ⟨hi_28, hf⟩ := ix_inv hf
        obtain ⟨v_28, e_28, hf⟩ := lt_inv hf
        refine al_X_26 hx hb hK hC hi_28 e_28 dX8_findDominators_89 ?_
        refine lv_lshl hx hb dX8_findDominators_90 rfl ?_
        refine lv_lor hx hb dX8_findDominators_91 ?_
        obtain ⟨hi_29, hf⟩ := ix_inv hf
        obtain ⟨s_29, e_29, hf⟩ := lt_inv hf
        refine as_X_38 hx hb hK hC hi_29 e_29 dX8_findDominators_92 (fun H locs hC => ?_)
        exact hj_93 _ _ _ _ hf hC hl
  · have hf := it_f c_2 hf
    refine lv_aload_n hx hb dX8_findDominators_13 rfl (lv_at hl 0 rfl) ?_
    refine gt_X8_35_shape hx hb hta hown hK hC dX8_findDominators_14 ?_
    refine lv_iload_n hx hb dX8_findDominators_17 rfl (lv_at hl 1 rfl) ?_
    refine lv_lconst (v := 0) hx hb dX8_findDominators_18 rfl ?_
    obtain ⟨hi_30, hf⟩ := ix_inv hf
    obtain ⟨s_30, e_30, hf⟩ := lt_inv hf
    refine as_X_38 hx hb hK hC hi_30 e_30 dX8_findDominators_19 (fun H locs hC => ?_)
    refine lv_aload_n hx hb dX8_findDominators_20 rfl (lv_at hl 0 rfl) ?_
    refine gt_X8_25_shape hx hb hta hown hK hC dX8_findDominators_21 ?_
    refine lv_iload_n hx hb dX8_findDominators_24 rfl (lv_at hl 1 rfl) ?_
    refine lv_lconst (v := 1) hx hb dX8_findDominators_25 rfl ?_
    refine lv_aload_n hx hb dX8_findDominators_26 rfl (lv_at hl 0 rfl) ?_
    refine gt_X8_47_shape hx hb hta hown hK hC dX8_findDominators_27 ?_
    refine gt_X8_109_blocks hx hb hta hown hK hC dX8_findDominators_30 ?_
    refine lv_lshl hx hb dX8_findDominators_33 rfl ?_
    refine lv_lconst (v := 1) hx hb dX8_findDominators_34 rfl ?_
    refine lv_lsub hx hb dX8_findDominators_35 ?_
    obtain ⟨hi_31, hf⟩ := ix_inv hf
    obtain ⟨s_31, e_31, hf⟩ := lt_inv hf
    refine as_X_35 hx hb hK hC hi_31 e_31 dX8_findDominators_36 (fun H locs hC => ?_)
    obtain ⟨x1_32, e_32, hf⟩ := lt_inv hf
    refine lv_iinc (v := x1_32) (lv' := [(1, .int x1_32), (0, .ref (o 30))]) hx hb dX8_findDominators_37 hl (k := 1) rfl e_32.symm (by decide) rfl (fun ls hl => ?_)
    refine lv_goto (tgt := 2) hx hb dX8_findDominators_40 (by decide) ?_
    exact ha_2 _ _ hf _ _ _ hC (lv_sub hl [1, 0] rfl)

set_option maxHeartbeats 8000000 in
set_option maxRecDepth 100000 in
theorem r_X8_isBack {D : va_G} {y : Nat → ClassId} {o : Nat → Nat} {ad av : Nat → Nat} {x1 : Int32} {σ : Sto} {v : Int32} (hf : f_X8_isBack x1 σ = some v) (l : Launch) (sz : Nat) : Met l yX8_isBack (Cond.code yX8_isBack cX8_isBack 2 (some .boolean) :: ALW) { frames := 1, cells := 0, slots := 0, locals := 22 } (va_Pc [.ref (o 30), .int x1] (PZ D y ad av (WX y o σ) sz)) (QZi D (WX y o σ) v (WX y o σ) sz) 0 0 (va_A (WX y o σ) sz) := by
  refine met_i (by decide) (Nat.le_of_ble_eq_true rfl) ?_
  intro p e R s m args below meth c Q A ls hx hb hml hta hown hRc hRs hRf hRl hN hK hV hA hret hC hl
  have hl : lv_has ls 2 [(0, .ref (o 30)), (1, .int x1)] := hl
  unfold f_X8_isBack at hf
  refine lv_aload_n hx hb dX8_isBack_0 rfl (lv_at hl 0 rfl) ?_
  refine gt_X8_25_shape hx hb hta hown hK hC dX8_isBack_1 ?_
  refine lv_aload_n hx hb dX8_isBack_4 rfl (lv_at hl 0 rfl) ?_
  refine gt_X8_47_shape hx hb hta hown hK hC dX8_isBack_5 ?_
  refine gt_X8_102_blocks hx hb hta hown hK hC dX8_isBack_8 ?_
  refine lv_iload_n hx hb dX8_isBack_11 rfl (lv_at hl 1 rfl) ?_
  obtain ⟨hi_1, hf⟩ := ix_inv hf
  obtain ⟨v_1, e_1, hf⟩ := lt_inv hf
  refine al_X_26 hx hb hK hC hi_1 e_1 dX8_isBack_12 ?_
  obtain ⟨hi_2, hf⟩ := ix_inv hf
  obtain ⟨v_2, e_2, hf⟩ := lt_inv hf
  refine al_X_35 hx hb hK hC hi_2 e_2 dX8_isBack_13 ?_
  refine lv_aload_n hx hb dX8_isBack_14 rfl (lv_at hl 0 rfl) ?_
  refine gt_X8_47_shape hx hb hta hown hK hC dX8_isBack_15 ?_
  refine gt_X8_99_blocks hx hb hta hown hK hC dX8_isBack_18 ?_
  refine lv_iload_n hx hb dX8_isBack_21 rfl (lv_at hl 1 rfl) ?_
  obtain ⟨hi_3, hf⟩ := ix_inv hf
  obtain ⟨v_3, e_3, hf⟩ := lt_inv hf
  refine al_X_27 hx hb hK hC hi_3 e_3 dX8_isBack_22 ?_
  obtain ⟨v_4, hc_4, hf⟩ := calp_inv hf
  refine cc_SiN (r_X11_isIn (D := D) (y := y) (w := WX y o σ) (ad := ad) (av := av) hc_4 l) hx hb hml hta hown hK hN hV hA hC hRc hRs (by omega) (by omega) (nw_X8_112 hN) wq_37 wq_38 wq_33 hd_X11_isIn (As := [.long v_2, .int v_3]) (rest := []) rfl rfl hl.1 rfl dX8_isBack_23 (fun H locs hC => ?_)
  obtain ⟨hb_5, hf⟩ := bz_inv hf
  exact hret _ _ _ _ _ _ (Option.some.inj hf) rfl (bz_nar hb_5) dX8_isBack_26 hC

set_option maxHeartbeats 8000000 in
set_option maxRecDepth 100000 in
theorem r_X8_isReducedNow {D : va_G} {y : Nat → ClassId} {o : Nat → Nat} {ad av : Nat → Nat} {σ : Sto} {σ2 : Sto} {v : Int32} (hf : f_X8_isReducedNow σ = some (v, σ2)) (l : Launch) (sz : Nat) : Met l yX8_isReducedNow (Cond.code yX8_isReducedNow cX8_isReducedNow 3 (some .boolean) :: ALW) { frames := 4, cells := 0, slots := 0, locals := 95 } (va_Pc [.ref (o 30)] (PZ D y ad av (WX y o σ) sz)) (QZi D (WX y o σ) v (WX y o σ2) sz) 0 0 (va_A (WX y o σ) sz) := by
  refine met_i (by decide) (Nat.le_of_ble_eq_true rfl) ?_
  intro p e R s m args below meth c Q A ls hx hb hml hta hown hRc hRs hRf hRl hN hK hV hA hret hC hl
  have hl : lv_has ls 3 [(0, .ref (o 30))] := hl
  unfold f_X8_isReducedNow at hf
  refine lv_aload_n hx hb dX8_isReducedNow_0 rfl (lv_at hl 0 rfl) ?_
  obtain ⟨v_1, s_1, hc_1, hf⟩ := calv_inv hf
  refine cc_Vi (r_X8_allAreComeTo (D := D) (y := y) (o := o) (ad := ad) (av := av) hc_1 l) hx hb hml hta hown hK hN hV hA hC hRc hRs (by omega) (by omega) wq_606 (q := 30) (ci := 8) rfl rfl wq_607 wq_608 wq_603 wq_577 hd_X8_allAreComeTo (As := []) (rest := []) rfl rfl hl.1 rfl dX8_isReducedNow_1 (fun H locs hC => ?_)
  refine lv_if_ne (tgt := 9) hx hb dX8_isReducedNow_4 (by decide) (fun c_2 => ?_) (fun c_2 => ?_)
  · have hf := it_f c_2 hf
    refine lv_aload_n hx hb dX8_isReducedNow_9 rfl (lv_at hl 0 rfl) ?_
    obtain ⟨s_3, hc_3, hf⟩ := cals_inv hf
    refine cc_Vv (r_X8_findDominators (D := D) (y := y) (o := o) (ad := ad) (av := av) hc_3 l) hx hb hml hta hown hK hN hV hA hC hRc hRs (by omega) (by omega) wq_609 (q := 30) (ci := 8) rfl rfl wq_610 wq_611 wq_603 wq_604 hd_X8_findDominators (As := []) (rest := []) rfl rfl hl.1 rfl dX8_isReducedNow_10 (fun H locs hC => ?_)
    refine lv_iconst (v := 0) hx hb dX8_isReducedNow_13 (by decide) ?_
    refine lv_istore_n (lv' := [(1, .int 0), (0, .ref (o 30))]) hx hb dX8_isReducedNow_14 rfl hl (by decide) rfl (fun ls hl => ?_)
    refine itr_inv1 (P := fun (x1_4 : Int32) => ∀ (H : Heap) (locs : List Loc) (ls : Array Slot), CZ D A s H locs (WX y o s_3) → lv_has ls 3 [(0, .ref (o 30)), (1, .int x1_4)] → W p l e R s m args below meth c H locs 0 0 Q (F0 m 15 ls [])) hf ?_ _ _ _ hC (lv_sub hl [1, 0] rfl)
    intro a_15 x1_4 ha_15 hf H locs ls hC hl
    refine lv_iload_n hx hb dX8_isReducedNow_15 rfl (lv_at hl 1 rfl) ?_
    refine lv_aload_n hx hb dX8_isReducedNow_16 rfl (lv_at hl 0 rfl) ?_
    refine gt_X8_47_shape hx hb hta hown hK hC dX8_isReducedNow_17 ?_
    refine gt_X8_75_blocks hx hb hta hown hK hC dX8_isReducedNow_20 ?_
    refine lv_icmp_ge (tgt := 92) hx hb dX8_isReducedNow_23 (by decide) (fun c_5 => ?_) (fun c_5 => ?_)
    · have hf := it_t c_5 hf
      refine lv_iconst (v := 1) hx hb dX8_isReducedNow_92 (by decide) ?_
      exact hret _ _ _ _ _ _ (rv_inv hf).1 (congrArg (WX y o) (rv_inv hf).2) rfl dX8_isReducedNow_93 hC
    · have hf := it_f c_5 hf
      refine lv_aload_n hx hb dX8_isReducedNow_26 rfl (lv_at hl 0 rfl) ?_
      refine gt_X8_22_shape hx hb hta hown hK hC dX8_isReducedNow_27 ?_
      refine lv_aload_n hx hb dX8_isReducedNow_30 rfl (lv_at hl 0 rfl) ?_
      refine gt_X8_47_shape hx hb hta hown hK hC dX8_isReducedNow_31 ?_
      refine gt_X8_99_blocks hx hb hta hown hK hC dX8_isReducedNow_34 ?_
      refine lv_iload_n hx hb dX8_isReducedNow_37 rfl (lv_at hl 1 rfl) ?_
      obtain ⟨hi_6, hf⟩ := ix_inv hf
      obtain ⟨v_6, e_6, hf⟩ := lt_inv hf
      refine al_X_27 hx hb hK hC hi_6 e_6 dX8_isReducedNow_38 ?_
      obtain ⟨hi_7, hf⟩ := ix_inv hf
      obtain ⟨v_7, e_7, hf⟩ := lt_inv hf
      refine al_X_34 hx hb hK hC hi_7 e_7 dX8_isReducedNow_39 ?_
      refine lv_aload_n hx hb dX8_isReducedNow_40 rfl (lv_at hl 0 rfl) ?_
      refine gt_X8_22_shape hx hb hta hown hK hC dX8_isReducedNow_41 ?_
      refine lv_aload_n hx hb dX8_isReducedNow_44 rfl (lv_at hl 0 rfl) ?_
      refine gt_X8_47_shape hx hb hta hown hK hC dX8_isReducedNow_45 ?_
      refine gt_X8_102_blocks hx hb hta hown hK hC dX8_isReducedNow_48 ?_
      refine lv_iload_n hx hb dX8_isReducedNow_51 rfl (lv_at hl 1 rfl) ?_
      obtain ⟨hi_8, hf⟩ := ix_inv hf
      obtain ⟨v_8, e_8, hf⟩ := lt_inv hf
      refine al_X_26 hx hb hK hC hi_8 e_8 dX8_isReducedNow_52 ?_
      obtain ⟨hi_9, hf⟩ := ix_inv hf
      obtain ⟨v_9, e_9, hf⟩ := lt_inv hf
      refine al_X_34 hx hb hK hC hi_9 e_9 dX8_isReducedNow_53 ?_
      obtain ⟨k_62, hk_62, hf⟩ := jn_inv1 hf
      have hj_62 : ∀ (t0_10 : Int32) (H : Heap) (locs : List Loc) (ls : Array Slot), k_62 t0_10 = some (v, σ2) → CZ D A s H locs (WX y o s_3) → lv_has ls 3 [(0, .ref (o 30)), (1, .int x1_4)] → W p l e R s m args below meth c H locs 0 0 Q (F0 m 62 ls [.int t0_10]) := by
        intro t0_10 H locs ls hf hC hl
        have hf := hk_62 _ hf
        refine lv_istore_n (lv' := [(2, .int t0_10), (0, .ref (o 30)), (1, .int x1_4)]) hx hb dX8_isReducedNow_62 rfl hl (by decide) rfl (fun ls hl => ?_)
        refine lv_aload_n hx hb dX8_isReducedNow_63 rfl (lv_at hl 1 rfl) ?_
        refine gt_X8_9_shape hx hb hta hown hK hC dX8_isReducedNow_64 ?_
        refine lv_iload_n hx hb dX8_isReducedNow_67 rfl (lv_at hl 2 rfl) ?_
        obtain ⟨hi_11, hf⟩ := ix_inv hf
        obtain ⟨v_11, e_11, hf⟩ := lt_inv hf
        refine al_X_31 hx hb hK hC hi_11 e_11 dX8_isReducedNow_68 ?_
        obtain ⟨k_86, hk_86, hf⟩ := jn_inv0 hf
        have hj_86 : ∀  (H : Heap) (locs : List Loc) (ls : Array Slot), k_86 = some (v, σ2) → CZ D A s H locs (WX y o s_3) → lv_has ls 3 [(0, .ref (o 30)), (1, .int x1_4)] → W p l e R s m args below meth c H locs 0 0 Q (F0 m 86 ls []) := by
          intro H locs ls hf hC hl
          have hf := hk_86 hf
          obtain ⟨x1_13, e_13, hf⟩ := lt_inv hf
          refine lv_iinc (v := x1_13) (lv' := [(1, .int x1_13), (0, .ref (o 30))]) hx hb dX8_isReducedNow_86 hl (k := 1) rfl e_13.symm (by decide) rfl (fun ls hl => ?_)
          refine lv_goto (tgt := 15) hx hb dX8_isReducedNow_89 (by decide) ?_
          exact ha_15 _ hf _ _ _ hC (lv_sub hl [1, 0] rfl)
        refine lv_if_ne (tgt := 86) hx hb dX8_isReducedNow_69 (by decide) (fun c_14 => ?_) (fun c_14 => ?_)
        · have hf := it_f c_14 hf
          exact hj_86 _ _ _ hf hC (lv_sub hl [1, 2] rfl)
        · have hf := it_t c_14 hf
          refine lv_iload_n hx hb dX8_isReducedNow_72 rfl (lv_at hl 0 rfl) ?_
          refine lv_if_eq (tgt := 86) hx hb dX8_isReducedNow_73 (by decide) (fun c_15 => ?_) (fun c_15 => ?_)
          · have hf := it_t c_15 hf
            exact hj_86 _ _ _ hf hC (lv_sub hl [1, 2] rfl)
          · have hf := it_f c_15 hf
            refine lv_aload_n hx hb dX8_isReducedNow_76 rfl (lv_at hl 1 rfl) ?_
            refine lv_iload_n hx hb dX8_isReducedNow_77 rfl (lv_at hl 2 rfl) ?_
            obtain ⟨v_16, hc_16, hf⟩ := calp_inv hf
            refine cc_Vi (r_X8_isBack (D := D) (y := y) (o := o) (ad := ad) (av := av) hc_16 l) hx hb hml hta hown hK hN hV hA hC hRc hRs (by omega) (by omega) wq_612 (q := 30) (ci := 8) rfl rfl wq_613 wq_614 wq_603 wq_605 hd_X8_isBack (As := [.int x1_4]) (rest := []) rfl rfl hl.1 rfl dX8_isReducedNow_78 (fun H locs hC => ?_)
            refine lv_if_ne (tgt := 86) hx hb dX8_isReducedNow_81 (by decide) (fun c_17 => ?_) (fun c_17 => ?_)
            · have hf := it_f c_17 hf
              exact hj_86 _ _ _ hf hC (lv_sub hl [1, 2] rfl)
            · have hf := it_t c_17 hf
              refine lv_iconst (v := 0) hx hb dX8_isReducedNow_84 (by decide) ?_
              exact hret _ _ _ _ _ _ (rv_inv hf).1 (congrArg (WX y o) (rv_inv hf).2) rfl dX8_isReducedNow_85 hC
      refine lv_icmp_gt (tgt := 61) hx hb dX8_isReducedNow_54 (by decide) (fun c_18 => ?_) (fun c_18 => ?_)
      · have hf := it_t c_18 hf
        refine lv_iconst (v := 0) hx hb dX8_isReducedNow_61 (by decide) ?_
        exact hj_62 _ _ _ _ hf hC hl
      · have hf := it_f c_18 hf
        refine lv_iconst (v := 1) hx hb dX8_isReducedNow_57 (by decide) ?_
        refine lv_goto (tgt := 62) hx hb dX8_isReducedNow_58 (by decide) ?_
        exact hj_62 _ _ _ _ hf hC hl
  · have hf := it_t c_2 hf
    refine lv_iconst (v := 0) hx hb dX8_isReducedNow_7 (by decide) ?_
    exact hret _ _ _ _ _ _ (rv_inv hf).1 (congrArg (WX y o) (rv_inv hf).2) rfl dX8_isReducedNow_8 hC

set_option maxHeartbeats 8000000 in
set_option maxRecDepth 100000 in
theorem r_X8_findAbove {D : va_G} {y : Nat → ClassId} {o : Nat → Nat} {ad av : Nat → Nat} {σ : Sto} {σ2 : Sto} (hf : f_X8_findAbove σ = some σ2) (l : Launch) (sz : Nat) : Met l yX8_findAbove (Cond.code yX8_findAbove cX8_findAbove 4 none :: ALW) { frames := 1, cells := 0, slots := 0, locals := 22 } (va_Pc [.ref (o 30)] (PZ D y ad av (WX y o σ) sz)) (QZv D (WX y o σ) (WX y o σ2) sz) 0 0 (va_A (WX y o σ) sz) := by
  refine met_v (by decide) (Nat.le_of_ble_eq_true rfl) ?_
  intro p e R s m args below meth c Q A ls hx hb hml hta hown hRc hRs hRf hRl hN hK hV hA hret hC hl
  have hl : lv_has ls 4 [(0, .ref (o 30))] := hl
  unfold f_X8_findAbove at hf
  refine lv_iconst (v := 0) hx hb dX8_findAbove_0 (by decide) ?_
  refine lv_istore_n (lv' := [(1, .int 0), (0, .ref (o 30))]) hx hb dX8_findAbove_1 rfl hl (by decide) rfl (fun ls hl => ?_)
  refine itr_inv2 (P := fun (x1_1 : Int32) (s_1 : Sto) => ∀ (H : Heap) (locs : List Loc) (ls : Array Slot), CZ D A s H locs (WX y o s_1) → lv_has ls 4 [(0, .ref (o 30)), (1, .int x1_1)] → W p l e R s m args below meth c H locs 0 0 Q (F0 m 2 ls [])) hf ?_ _ _ _ hC (lv_sub hl [1, 0] rfl)
  intro a_2 x1_1 s_1 ha_2 hf H locs ls hC hl
  refine lv_iload_n hx hb dX8_findAbove_2 rfl (lv_at hl 1 rfl) ?_
  refine lv_aload_n hx hb dX8_findAbove_3 rfl (lv_at hl 0 rfl) ?_
  refine gt_X8_47_shape hx hb hta hown hK hC dX8_findAbove_4 ?_
  refine gt_X8_109_blocks hx hb hta hown hK hC dX8_findAbove_7 ?_
  refine lv_icmp_ge (tgt := 95) hx hb dX8_findAbove_10 (by decide) (fun c_2 => ?_) (fun c_2 => ?_)
  · have hf := it_t c_2 hf
    exact hret _ _ _ _ _ (congrArg (WX y o) (Option.some.inj hf)) dX8_findAbove_95 hC
  · have hf := it_f c_2 hf
    refine lv_aload_n hx hb dX8_findAbove_13 rfl (lv_at hl 0 rfl) ?_
    refine gt_X8_29_shape hx hb hta hown hK hC dX8_findAbove_14 ?_
    refine lv_iload_n hx hb dX8_findAbove_17 rfl (lv_at hl 1 rfl) ?_
    refine lv_iconst (v := (-1)) hx hb dX8_findAbove_18 (by decide) ?_
    obtain ⟨hi_3, hf⟩ := ix_inv hf
    obtain ⟨s_3, e_3, hf⟩ := lt_inv hf
    refine as_X_36 hx hb hK hC hi_3 e_3 dX8_findAbove_19 (fun H locs hC => ?_)
    refine lv_aload_n hx hb dX8_findAbove_20 rfl (lv_at hl 0 rfl) ?_
    refine gt_X8_25_shape hx hb hta hown hK hC dX8_findAbove_21 ?_
    refine lv_iload_n hx hb dX8_findAbove_24 rfl (lv_at hl 1 rfl) ?_
    obtain ⟨hi_4, hf⟩ := ix_inv hf
    obtain ⟨v_4, e_4, hf⟩ := lt_inv hf
    refine al_X_35 hx hb hK hC hi_4 e_4 dX8_findAbove_25 ?_
    obtain ⟨v_5, hc_5, hf⟩ := calp_inv hf
    refine cc_Si (r_J13_bitCount_95d88 (D := D) (y := y) (w := WX y o s_3) (ad := ad) (av := av) hc_5 l) hx hb hml hta hown hK hN hV hA hC hRc hRs (by omega) (by omega) wq_593 wq_594 wq_595 wq_582 hd_J13_bitCount_95d88 (As := [.long v_4]) (rest := []) rfl rfl hl.1 rfl dX8_findAbove_26 (fun H locs hC => ?_)
    refine lv_iconst (v := 1) hx hb dX8_findAbove_29 (by decide) ?_
    refine lv_isub hx hb dX8_findAbove_30 ?_
    obtain ⟨x2_6, e_6, hf⟩ := lt_inv hf
    refine nmi e_6 ?_
    refine lv_istore_n (lv' := [(2, .int x2_6), (0, .ref (o 30)), (1, .int x1_1)]) hx hb dX8_findAbove_31 rfl hl (by decide) rfl (fun ls hl => ?_)
    refine lv_iconst (v := 0) hx hb dX8_findAbove_32 (by decide) ?_
    refine lv_istore_n (lv' := [(3, .int 0), (2, .int x2_6), (0, .ref (o 30)), (1, .int x1_1)]) hx hb dX8_findAbove_33 rfl hl (by decide) rfl (fun ls hl => ?_)
    refine itr_inv2 (P := fun (x3_7 : Int32) (s_7 : Sto) => ∀ (H : Heap) (locs : List Loc) (ls : Array Slot), CZ D A s H locs (WX y o s_7) → lv_has ls 4 [(0, .ref (o 30)), (1, .int x1_1), (2, .int x2_6), (3, .int x3_7)] → W p l e R s m args below meth c H locs 0 0 Q (F0 m 34 ls [])) hf ?_ _ _ _ hC (lv_sub hl [2, 3, 1, 0] rfl)
    intro a_34 x3_7 s_7 ha_34 hf H locs ls hC hl
    refine lv_iload_n hx hb dX8_findAbove_34 rfl (lv_at hl 3 rfl) ?_
    refine lv_aload_n hx hb dX8_findAbove_35 rfl (lv_at hl 0 rfl) ?_
    refine gt_X8_47_shape hx hb hta hown hK hC dX8_findAbove_36 ?_
    refine gt_X8_109_blocks hx hb hta hown hK hC dX8_findAbove_39 ?_
    refine lv_icmp_ge (tgt := 89) hx hb dX8_findAbove_42 (by decide) (fun c_8 => ?_) (fun c_8 => ?_)
    · have hf := it_t c_8 hf
      obtain ⟨x1_9, e_9, hf⟩ := lt_inv hf
      refine lv_iinc (v := x1_9) (lv' := [(1, .int x1_9), (0, .ref (o 30)), (2, .int x2_6), (3, .int x3_7)]) hx hb dX8_findAbove_89 hl (k := 1) rfl e_9.symm (by decide) rfl (fun ls hl => ?_)
      refine lv_goto (tgt := 2) hx hb dX8_findAbove_92 (by decide) ?_
      exact ha_2 _ _ hf _ _ _ hC (lv_sub hl [1, 0] rfl)
    · have hf := it_f c_8 hf
      refine lv_iload_n hx hb dX8_findAbove_45 rfl (lv_at hl 3 rfl) ?_
      refine lv_iload_n hx hb dX8_findAbove_46 rfl (lv_at hl 1 rfl) ?_
      obtain ⟨k_83, hk_83, hf⟩ := jn_inv1 hf
      have hj_83 : ∀ (s_10 : Sto) (H : Heap) (locs : List Loc) (ls : Array Slot), k_83 s_10 = some σ2 → CZ D A s H locs (WX y o s_10) → lv_has ls 4 [(0, .ref (o 30)), (1, .int x1_1), (2, .int x2_6), (3, .int x3_7)] → W p l e R s m args below meth c H locs 0 0 Q (F0 m 83 ls []) := by
        intro s_10 H locs ls hf hC hl
        have hf := hk_83 _ hf
        obtain ⟨x3_11, e_11, hf⟩ := lt_inv hf
        refine lv_iinc (v := x3_11) (lv' := [(3, .int x3_11), (0, .ref (o 30)), (1, .int x1_1), (2, .int x2_6)]) hx hb dX8_findAbove_83 hl (k := 3) rfl e_11.symm (by decide) rfl (fun ls hl => ?_)
        refine lv_goto (tgt := 34) hx hb dX8_findAbove_86 (by decide) ?_
        exact ha_34 _ _ hf _ _ _ hC (lv_sub hl [1, 2, 3, 0] rfl)
      refine lv_icmp_eq (tgt := 83) hx hb dX8_findAbove_47 (by decide) (fun c_12 => ?_) (fun c_12 => ?_)
      · have hf := it_t c_12 hf
        exact hj_83 _ _ _ _ hf hC hl
      · have hf := it_f c_12 hf
        refine lv_aload_n hx hb dX8_findAbove_50 rfl (lv_at hl 0 rfl) ?_
        refine gt_X8_25_shape hx hb hta hown hK hC dX8_findAbove_51 ?_
        refine lv_iload_n hx hb dX8_findAbove_54 rfl (lv_at hl 1 rfl) ?_
        obtain ⟨hi_13, hf⟩ := ix_inv hf
        obtain ⟨v_13, e_13, hf⟩ := lt_inv hf
        refine al_X_35 hx hb hK hC hi_13 e_13 dX8_findAbove_55 ?_
        refine lv_iload_n hx hb dX8_findAbove_56 rfl (lv_at hl 3 rfl) ?_
        obtain ⟨v_14, hc_14, hf⟩ := calp_inv hf
        refine cc_SiN (r_X11_isIn (D := D) (y := y) (w := WX y o s_7) (ad := ad) (av := av) hc_14 l) hx hb hml hta hown hK hN hV hA hC hRc hRs (by omega) (by omega) (nw_X8_112 hN) wq_37 wq_38 wq_33 hd_X11_isIn (As := [.long v_13, .int x3_7]) (rest := []) rfl rfl hl.1 rfl dX8_findAbove_57 (fun H locs hC => ?_)
        refine lv_if_eq (tgt := 83) hx hb dX8_findAbove_60 (by decide) (fun c_15 => ?_) (fun c_15 => ?_)
        · have hf := it_t c_15 hf
          exact hj_83 _ _ _ _ hf hC hl
        · have hf := it_f c_15 hf
          refine lv_aload_n hx hb dX8_findAbove_63 rfl (lv_at hl 0 rfl) ?_
          refine gt_X8_25_shape hx hb hta hown hK hC dX8_findAbove_64 ?_
          refine lv_iload_n hx hb dX8_findAbove_67 rfl (lv_at hl 3 rfl) ?_
          obtain ⟨hi_16, hf⟩ := ix_inv hf
          obtain ⟨v_16, e_16, hf⟩ := lt_inv hf
          refine al_X_35 hx hb hK hC hi_16 e_16 dX8_findAbove_68 ?_
          obtain ⟨v_17, hc_17, hf⟩ := calp_inv hf
          refine cc_Si (r_J13_bitCount_95d88 (D := D) (y := y) (w := WX y o s_7) (ad := ad) (av := av) hc_17 l) hx hb hml hta hown hK hN hV hA hC hRc hRs (by omega) (by omega) wq_593 wq_594 wq_595 wq_582 hd_J13_bitCount_95d88 (As := [.long v_16]) (rest := []) rfl rfl hl.1 rfl dX8_findAbove_69 (fun H locs hC => ?_)
          refine lv_iload_n hx hb dX8_findAbove_72 rfl (lv_at hl 2 rfl) ?_
          refine lv_icmp_ne (tgt := 83) hx hb dX8_findAbove_73 (by decide) (fun c_18 => ?_) (fun c_18 => ?_)
          · have hf := it_f c_18 hf
            exact hj_83 _ _ _ _ hf hC hl
          · have hf := it_t c_18 hf
            refine lv_aload_n hx hb dX8_findAbove_76 rfl (lv_at hl 0 rfl) ?_
            refine gt_X8_29_shape hx hb hta hown hK hC dX8_findAbove_77 ?_
            refine lv_iload_n hx hb dX8_findAbove_80 rfl (lv_at hl 1 rfl) ?_
            refine lv_iload_n hx hb dX8_findAbove_81 rfl (lv_at hl 3 rfl) ?_
            obtain ⟨hi_19, hf⟩ := ix_inv hf
            obtain ⟨s_19, e_19, hf⟩ := lt_inv hf
            refine as_X_36 hx hb hK hC hi_19 e_19 dX8_findAbove_82 (fun H locs hC => ?_)
            exact hj_83 _ _ _ _ hf hC hl

set_option maxHeartbeats 8000000 in
set_option maxRecDepth 100000 in
theorem r_X8_comingBack {D : va_G} {y : Nat → ClassId} {o : Nat → Nat} {ad av : Nat → Nat} {x1 : Int32} {x2 : Int32} {σ : Sto} {v : Int64} (hf : f_X8_comingBack x1 x2 σ = some v) (l : Launch) (sz : Nat) : Met l yX8_comingBack (Cond.code yX8_comingBack cX8_comingBack 9 (some .long) :: ALW) { frames := 1, cells := 0, slots := 0, locals := 22 } (va_Pc [.ref (o 30), .int x1, .int x2] (PZ D y ad av (WX y o σ) sz)) (QZl D (WX y o σ) v (WX y o σ) sz) 0 0 (va_A (WX y o σ) sz) := by
  refine met_l (by decide) (Nat.le_of_ble_eq_true rfl) ?_
  intro p e R s m args below meth c Q A ls hx hb hml hta hown hRc hRs hRf hRl hN hK hV hA hret hC hl
  have hl : lv_has ls 9 [(0, .ref (o 30)), (1, .int x1), (2, .int x2)] := hl
  unfold f_X8_comingBack at hf
  refine lv_lconst (v := 1) hx hb dX8_comingBack_0 rfl ?_
  refine lv_iload_n hx hb dX8_comingBack_1 rfl (lv_at hl 1 rfl) ?_
  refine lv_lshl hx hb dX8_comingBack_2 rfl ?_
  refine lv_lconst (v := 1) hx hb dX8_comingBack_3 rfl ?_
  refine lv_iload_n hx hb dX8_comingBack_4 rfl (lv_at hl 2 rfl) ?_
  refine lv_lshl hx hb dX8_comingBack_5 rfl ?_
  refine lv_lor hx hb dX8_comingBack_6 ?_
  obtain ⟨x3_1, e_1, hf⟩ := lt_inv hf
  refine nml e_1 ?_
  refine lv_lstore_n (lv' := [(3, .long x3_1), (0, .ref (o 30)), (1, .int x1), (2, .int x2)]) hx hb dX8_comingBack_7 rfl hl (by decide) rfl (fun ls hl => ?_)
  refine lv_lconst (v := 0) hx hb dX8_comingBack_8 rfl ?_
  refine lv_lstore (lv' := [(5, .long 0), (3, .long x3_1), (0, .ref (o 30)), (1, .int x1), (2, .int x2)]) hx hb dX8_comingBack_9 hl (by decide) rfl (fun ls hl => ?_)
  refine lv_iconst (v := 0) hx hb dX8_comingBack_11 (by decide) ?_
  refine lv_istore (lv' := [(7, .int 0), (5, .long 0), (3, .long x3_1), (0, .ref (o 30)), (1, .int x1), (2, .int x2)]) hx hb dX8_comingBack_12 hl (by decide) rfl (fun ls hl => ?_)
  refine itr_inv3 (P := fun (x3_2 : Int64) (x5_2 : Int64) (x7_2 : Int32) => ∀ (H : Heap) (locs : List Loc) (ls : Array Slot), CZ D A s H locs (WX y o σ) → lv_has ls 9 [(0, .ref (o 30)), (1, .int x1), (3, .long x3_2), (5, .long x5_2), (7, .int x7_2)] → W p l e R s m args below meth c H locs 0 0 Q (F0 m 14 ls [])) hf ?_ _ _ _ hC (lv_sub hl [3, 4, 2, 1, 0] rfl)
  intro a_14 x3_2 x5_2 x7_2 ha_14 hf H locs ls hC hl
  refine lv_iload hx hb dX8_comingBack_14 (lv_at hl 4 rfl) ?_
  refine lv_aload_n hx hb dX8_comingBack_16 rfl (lv_at hl 0 rfl) ?_
  refine gt_X8_47_shape hx hb hta hown hK hC dX8_comingBack_17 ?_
  refine gt_X8_109_blocks hx hb hta hown hK hC dX8_comingBack_20 ?_
  refine lv_icmp_gt (tgt := 88) hx hb dX8_comingBack_23 (by decide) (fun c_3 => ?_) (fun c_3 => ?_)
  · have hf := it_t c_3 hf
    refine lv_lload_n hx hb dX8_comingBack_88 rfl (lv_at hl 2 rfl) ?_
    exact hret _ _ _ _ _ _ (Option.some.inj hf) rfl dX8_comingBack_89 hC
  · have hf := it_f c_3 hf
    refine lv_lload hx hb dX8_comingBack_26 (lv_at hl 3 rfl) ?_
    refine lv_lload_n hx hb dX8_comingBack_28 rfl (lv_at hl 2 rfl) ?_
    refine W.lcmp hx hb dX8_comingBack_29 ?_
    refine lv_if_eq (tgt := 88) hx hb dX8_comingBack_30 (by decide) (fun c_4 => ?_) (fun c_4 => ?_)
    · have hf := it_t c_4 hf
      refine lv_lload_n hx hb dX8_comingBack_88 rfl (lv_at hl 2 rfl) ?_
      exact hret _ _ _ _ _ _ (Option.some.inj hf) rfl dX8_comingBack_89 hC
    · have hf := it_f c_4 hf
      refine lv_lload_n hx hb dX8_comingBack_33 rfl (lv_at hl 2 rfl) ?_
      refine lv_lstore (lv' := [(5, .long x3_2), (0, .ref (o 30)), (1, .int x1), (3, .long x3_2), (7, .int x7_2)]) hx hb dX8_comingBack_34 hl (by decide) rfl (fun ls hl => ?_)
      refine lv_iconst (v := 0) hx hb dX8_comingBack_36 (by decide) ?_
      refine lv_istore (lv' := [(8, .int 0), (5, .long x3_2), (0, .ref (o 30)), (1, .int x1), (3, .long x3_2), (7, .int x7_2)]) hx hb dX8_comingBack_37 hl (by decide) rfl (fun ls hl => ?_)
      refine itr_inv2 (P := fun (x3_5 : Int64) (x8_5 : Int32) => ∀ (H : Heap) (locs : List Loc) (ls : Array Slot), CZ D A s H locs (WX y o σ) → lv_has ls 9 [(0, .ref (o 30)), (1, .int x1), (3, .long x3_5), (5, .long x3_2), (7, .int x7_2), (8, .int x8_5)] → W p l e R s m args below meth c H locs 0 0 Q (F0 m 39 ls [])) hf ?_ _ _ _ hC (lv_sub hl [2, 3, 4, 1, 5, 0] rfl)
      intro a_39 x3_5 x8_5 ha_39 hf H locs ls hC hl
      refine lv_iload hx hb dX8_comingBack_39 (lv_at hl 5 rfl) ?_
      refine lv_aload_n hx hb dX8_comingBack_41 rfl (lv_at hl 0 rfl) ?_
      refine gt_X8_47_shape hx hb hta hown hK hC dX8_comingBack_42 ?_
      refine gt_X8_109_blocks hx hb hta hown hK hC dX8_comingBack_45 ?_
      refine lv_icmp_ge (tgt := 82) hx hb dX8_comingBack_48 (by decide) (fun c_6 => ?_) (fun c_6 => ?_)
      · have hf := it_t c_6 hf
        obtain ⟨x7_7, e_7, hf⟩ := lt_inv hf
        refine lv_iinc (v := x7_7) (lv' := [(7, .int x7_7), (0, .ref (o 30)), (1, .int x1), (3, .long x3_5), (5, .long x3_2), (8, .int x8_5)]) hx hb dX8_comingBack_82 hl (k := 4) rfl e_7.symm (by decide) rfl (fun ls hl => ?_)
        refine lv_goto (tgt := 14) hx hb dX8_comingBack_85 (by decide) ?_
        exact ha_14 _ _ _ hf _ _ _ hC (lv_sub hl [1, 2, 3, 4, 0] rfl)
      · have hf := it_f c_6 hf
        refine lv_iload hx hb dX8_comingBack_51 (lv_at hl 5 rfl) ?_
        refine lv_iload_n hx hb dX8_comingBack_53 rfl (lv_at hl 1 rfl) ?_
        obtain ⟨k_76, hk_76, hf⟩ := jn_inv1 hf
        have hj_76 : ∀ (x3_8 : Int64) (H : Heap) (locs : List Loc) (ls : Array Slot), k_76 x3_8 = some v → CZ D A s H locs (WX y o σ) → lv_has ls 9 [(0, .ref (o 30)), (1, .int x1), (3, .long x3_8), (5, .long x3_2), (7, .int x7_2), (8, .int x8_5)] → W p l e R s m args below meth c H locs 0 0 Q (F0 m 76 ls []) := by
          intro x3_8 H locs ls hf hC hl
          have hf := hk_76 _ hf
          obtain ⟨x8_9, e_9, hf⟩ := lt_inv hf
          refine lv_iinc (v := x8_9) (lv' := [(8, .int x8_9), (0, .ref (o 30)), (1, .int x1), (3, .long x3_8), (5, .long x3_2), (7, .int x7_2)]) hx hb dX8_comingBack_76 hl (k := 5) rfl e_9.symm (by decide) rfl (fun ls hl => ?_)
          refine lv_goto (tgt := 39) hx hb dX8_comingBack_79 (by decide) ?_
          exact ha_39 _ _ hf _ _ _ hC (lv_sub hl [1, 2, 3, 4, 5, 0] rfl)
        refine lv_icmp_eq (tgt := 76) hx hb dX8_comingBack_54 (by decide) (fun c_10 => ?_) (fun c_10 => ?_)
        · have hf := it_t c_10 hf
          exact hj_76 _ _ _ _ hf hC hl
        · have hf := it_f c_10 hf
          refine lv_lload_n hx hb dX8_comingBack_57 rfl (lv_at hl 2 rfl) ?_
          refine lv_iload hx hb dX8_comingBack_58 (lv_at hl 5 rfl) ?_
          obtain ⟨v_11, hc_11, hf⟩ := calp_inv hf
          refine cc_SiN (r_X11_isIn (D := D) (y := y) (w := WX y o σ) (ad := ad) (av := av) hc_11 l) hx hb hml hta hown hK hN hV hA hC hRc hRs (by omega) (by omega) (nw_X8_112 hN) wq_37 wq_38 wq_33 hd_X11_isIn (As := [.long x3_5, .int x8_5]) (rest := []) rfl rfl hl.1 rfl dX8_comingBack_60 (fun H locs hC => ?_)
          refine lv_if_eq (tgt := 76) hx hb dX8_comingBack_63 (by decide) (fun c_12 => ?_) (fun c_12 => ?_)
          · have hf := it_t c_12 hf
            exact hj_76 _ _ _ _ hf hC hl
          · have hf := it_f c_12 hf
            refine lv_lload_n hx hb dX8_comingBack_66 rfl (lv_at hl 2 rfl) ?_
            refine lv_aload_n hx hb dX8_comingBack_67 rfl (lv_at hl 0 rfl) ?_
            refine gt_X8_35_shape hx hb hta hown hK hC dX8_comingBack_68 ?_
            refine lv_iload hx hb dX8_comingBack_71 (lv_at hl 5 rfl) ?_
            obtain ⟨hi_13, hf⟩ := ix_inv hf
            obtain ⟨v_13, e_13, hf⟩ := lt_inv hf
            refine al_X_38 hx hb hK hC hi_13 e_13 dX8_comingBack_73 ?_
            refine lv_lor hx hb dX8_comingBack_74 ?_
            obtain ⟨x3_14, e_14, hf⟩ := lt_inv hf
            refine nml e_14 ?_
            refine lv_lstore_n (lv' := [(3, .long x3_14), (0, .ref (o 30)), (1, .int x1), (5, .long x3_2), (7, .int x7_2), (8, .int x8_5)]) hx hb dX8_comingBack_75 rfl hl (by decide) rfl (fun ls hl => ?_)
            exact hj_76 _ _ _ _ hf hC (lv_sub hl [1, 2, 0, 3, 4, 5] rfl)

set_option maxHeartbeats 8000000 in
set_option maxRecDepth 100000 in
theorem r_X8_findLoops {D : va_G} {y : Nat → ClassId} {o : Nat → Nat} {ad av : Nat → Nat} {σ : Sto} {σ2 : Sto} (hf : f_X8_findLoops σ = some σ2) (l : Launch) (sz : Nat) : Met l yX8_findLoops (Cond.code yX8_findLoops cX8_findLoops 3 none :: ALW) { frames := 2, cells := 0, slots := 0, locals := 50 } (va_Pc [.ref (o 30)] (PZ D y ad av (WX y o σ) sz)) (QZv D (WX y o σ) (WX y o σ2) sz) 0 0 (va_A (WX y o σ) sz) := by
  refine met_v (by decide) (Nat.le_of_ble_eq_true rfl) ?_
  intro p e R s m args below meth c Q A ls hx hb hml hta hown hRc hRs hRf hRl hN hK hV hA hret hC hl
  have hl : lv_has ls 3 [(0, .ref (o 30))] := hl
  unfold f_X8_findLoops at hf
  refine lv_aload_n hx hb dX8_findLoops_0 rfl (lv_at hl 0 rfl) ?_
  refine lv_lconst (v := 0) hx hb dX8_findLoops_1 rfl ?_
  obtain ⟨s_1, e_1, hf⟩ := lt_inv hf
  refine pt_X8_135_shape hx hb hta hown hK hC e_1 dX8_findLoops_2 (fun H locs hC => ?_)
  refine lv_iconst (v := 0) hx hb dX8_findLoops_5 (by decide) ?_
  refine lv_istore_n (lv' := [(1, .int 0), (0, .ref (o 30))]) hx hb dX8_findLoops_6 rfl hl (by decide) rfl (fun ls hl => ?_)
  refine itr_inv2 (P := fun (x1_2 : Int32) (s_2 : Sto) => ∀ (H : Heap) (locs : List Loc) (ls : Array Slot), CZ D A s H locs (WX y o s_2) → lv_has ls 3 [(0, .ref (o 30)), (1, .int x1_2)] → W p l e R s m args below meth c H locs 0 0 Q (F0 m 7 ls [])) hf ?_ _ _ _ hC (lv_sub hl [1, 0] rfl)
  intro a_7 x1_2 s_2 ha_7 hf H locs ls hC hl
  refine lv_iload_n hx hb dX8_findLoops_7 rfl (lv_at hl 1 rfl) ?_
  refine lv_aload_n hx hb dX8_findLoops_8 rfl (lv_at hl 0 rfl) ?_
  refine gt_X8_47_shape hx hb hta hown hK hC dX8_findLoops_9 ?_
  refine gt_X8_109_blocks hx hb hta hown hK hC dX8_findLoops_12 ?_
  refine lv_icmp_ge (tgt := 31) hx hb dX8_findLoops_15 (by decide) (fun c_3 => ?_) (fun c_3 => ?_)
  · have hf := it_t c_3 hf
    refine lv_iconst (v := 0) hx hb dX8_findLoops_31 (by decide) ?_
    refine lv_istore_n (lv' := [(1, .int 0), (0, .ref (o 30))]) hx hb dX8_findLoops_32 rfl hl (by decide) rfl (fun ls hl => ?_)
    refine itr_inv2 (P := fun (x1_4 : Int32) (s_4 : Sto) => ∀ (H : Heap) (locs : List Loc) (ls : Array Slot), CZ D A s H locs (WX y o s_4) → lv_has ls 3 [(0, .ref (o 30)), (1, .int x1_4)] → W p l e R s m args below meth c H locs 0 0 Q (F0 m 33 ls [])) hf ?_ _ _ _ hC (lv_sub hl [1, 0] rfl)
    intro a_33 x1_4 s_4 ha_33 hf H locs ls hC hl
    refine lv_iload_n hx hb dX8_findLoops_33 rfl (lv_at hl 1 rfl) ?_
    refine lv_aload_n hx hb dX8_findLoops_34 rfl (lv_at hl 0 rfl) ?_
    refine gt_X8_47_shape hx hb hta hown hK hC dX8_findLoops_35 ?_
    refine gt_X8_75_blocks hx hb hta hown hK hC dX8_findLoops_38 ?_
    refine lv_icmp_ge (tgt := 113) hx hb dX8_findLoops_41 (by decide) (fun c_5 => ?_) (fun c_5 => ?_)
    · have hf := it_t c_5 hf
      exact hret _ _ _ _ _ (congrArg (WX y o) (Option.some.inj hf)) dX8_findLoops_113 hC
    · have hf := it_f c_5 hf
      refine lv_aload_n hx hb dX8_findLoops_44 rfl (lv_at hl 0 rfl) ?_
      refine gt_X8_15_shape hx hb hta hown hK hC dX8_findLoops_45 ?_
      refine lv_iload_n hx hb dX8_findLoops_48 rfl (lv_at hl 1 rfl) ?_
      obtain ⟨hi_6, hf⟩ := ix_inv hf
      obtain ⟨v_6, e_6, hf⟩ := lt_inv hf
      refine al_X_32 hx hb hK hC hi_6 e_6 dX8_findLoops_49 ?_
      obtain ⟨k_107, hk_107, hf⟩ := jn_inv1 hf
      have hj_107 : ∀ (s_7 : Sto) (H : Heap) (locs : List Loc) (ls : Array Slot), k_107 s_7 = some σ2 → CZ D A s H locs (WX y o s_7) → lv_has ls 3 [(0, .ref (o 30)), (1, .int x1_4)] → W p l e R s m args below meth c H locs 0 0 Q (F0 m 107 ls []) := by
        intro s_7 H locs ls hf hC hl
        have hf := hk_107 _ hf
        obtain ⟨x1_8, e_8, hf⟩ := lt_inv hf
        refine lv_iinc (v := x1_8) (lv' := [(1, .int x1_8), (0, .ref (o 30))]) hx hb dX8_findLoops_107 hl (k := 1) rfl e_8.symm (by decide) rfl (fun ls hl => ?_)
        refine lv_goto (tgt := 33) hx hb dX8_findLoops_110 (by decide) ?_
        exact ha_33 _ _ hf _ _ _ hC (lv_sub hl [1, 0] rfl)
      refine lv_if_eq (tgt := 107) hx hb dX8_findLoops_50 (by decide) (fun c_9 => ?_) (fun c_9 => ?_)
      · have hf := it_t c_9 hf
        exact hj_107 _ _ _ _ hf hC hl
      · have hf := it_f c_9 hf
        refine lv_aload_n hx hb dX8_findLoops_53 rfl (lv_at hl 0 rfl) ?_
        refine gt_X8_9_shape hx hb hta hown hK hC dX8_findLoops_54 ?_
        refine lv_iload_n hx hb dX8_findLoops_57 rfl (lv_at hl 1 rfl) ?_
        obtain ⟨hi_10, hf⟩ := ix_inv hf
        obtain ⟨v_10, e_10, hf⟩ := lt_inv hf
        refine al_X_31 hx hb hK hC hi_10 e_10 dX8_findLoops_58 ?_
        refine lv_if_ne (tgt := 107) hx hb dX8_findLoops_59 (by decide) (fun c_11 => ?_) (fun c_11 => ?_)
        · have hf := it_f c_11 hf
          exact hj_107 _ _ _ _ hf hC hl
        · have hf := it_t c_11 hf
          refine lv_aload_n hx hb dX8_findLoops_62 rfl (lv_at hl 0 rfl) ?_
          refine gt_X8_47_shape hx hb hta hown hK hC dX8_findLoops_63 ?_
          refine gt_X8_99_blocks hx hb hta hown hK hC dX8_findLoops_66 ?_
          refine lv_iload_n hx hb dX8_findLoops_69 rfl (lv_at hl 1 rfl) ?_
          obtain ⟨hi_12, hf⟩ := ix_inv hf
          obtain ⟨v_12, e_12, hf⟩ := lt_inv hf
          refine al_X_27 hx hb hK hC hi_12 e_12 dX8_findLoops_70 ?_
          refine lv_istore_n (lv' := [(2, .int v_12), (0, .ref (o 30)), (1, .int x1_4)]) hx hb dX8_findLoops_71 rfl hl (by decide) rfl (fun ls hl => ?_)
          refine lv_aload_n hx hb dX8_findLoops_72 rfl (lv_at hl 1 rfl) ?_
          refine lv_dup hx hb dX8_findLoops_73 rfl ?_
          refine gt_X8_135_shape hx hb hta hown hK hC dX8_findLoops_74 ?_
          refine lv_lconst (v := 1) hx hb dX8_findLoops_77 rfl ?_
          refine lv_iload_n hx hb dX8_findLoops_78 rfl (lv_at hl 0 rfl) ?_
          refine lv_lshl hx hb dX8_findLoops_79 rfl ?_
          refine lv_lor hx hb dX8_findLoops_80 ?_
          obtain ⟨s_13, e_13, hf⟩ := lt_inv hf
          refine pt_X8_135_shape hx hb hta hown hK hC e_13 dX8_findLoops_81 (fun H locs hC => ?_)
          refine lv_aload_n hx hb dX8_findLoops_84 rfl (lv_at hl 1 rfl) ?_
          refine gt_X8_32_shape hx hb hta hown hK hC dX8_findLoops_85 ?_
          refine lv_iload_n hx hb dX8_findLoops_88 rfl (lv_at hl 0 rfl) ?_
          refine lv_dup2_11 hx hb dX8_findLoops_89 rfl rfl ?_
          obtain ⟨hi_14, hf⟩ := ix_inv hf
          obtain ⟨v_14, e_14, hf⟩ := lt_inv hf
          refine al_X_37 hx hb hK hC hi_14 e_14 dX8_findLoops_90 ?_
          refine lv_aload_n hx hb dX8_findLoops_91 rfl (lv_at hl 1 rfl) ?_
          refine lv_iload_n hx hb dX8_findLoops_92 rfl (lv_at hl 0 rfl) ?_
          refine lv_aload_n hx hb dX8_findLoops_93 rfl (lv_at hl 1 rfl) ?_
          refine gt_X8_47_shape hx hb hta hown hK hC dX8_findLoops_94 ?_
          refine gt_X8_102_blocks hx hb hta hown hK hC dX8_findLoops_97 ?_
          refine lv_iload_n hx hb dX8_findLoops_100 rfl (lv_at hl 2 rfl) ?_
          obtain ⟨hi_15, hf⟩ := ix_inv hf
          obtain ⟨v_15, e_15, hf⟩ := lt_inv hf
          refine al_X_26 hx hb hK hC hi_15 e_15 dX8_findLoops_101 ?_
          obtain ⟨v_16, hc_16, hf⟩ := calp_inv hf
          refine cc_Vl (r_X8_comingBack (D := D) (y := y) (o := o) (ad := ad) (av := av) hc_16 l) hx hb hml hta hown hK hN hV hA hC hRc hRs (by omega) (by omega) wq_629 (q := 30) (ci := 8) rfl rfl wq_630 wq_631 wq_603 wq_626 hd_X8_comingBack (As := [.int v_12, .int v_15]) (rest := [.long v_14, .int v_12, .ref (o 37)]) rfl rfl hl.1 rfl dX8_findLoops_102 (fun H locs hC => ?_)
          refine lv_lor hx hb dX8_findLoops_105 ?_
          obtain ⟨hi_17, hf⟩ := ix_inv hf
          obtain ⟨s_17, e_17, hf⟩ := lt_inv hf
          refine as_X_37 hx hb hK hC hi_17 e_17 dX8_findLoops_106 (fun H locs hC => ?_)
          exact hj_107 _ _ _ _ hf hC (lv_sub hl [1, 2] rfl)
  · have hf := it_f c_3 hf
    refine lv_aload_n hx hb dX8_findLoops_18 rfl (lv_at hl 0 rfl) ?_
    refine gt_X8_32_shape hx hb hta hown hK hC dX8_findLoops_19 ?_
    refine lv_iload_n hx hb dX8_findLoops_22 rfl (lv_at hl 1 rfl) ?_
    refine lv_lconst (v := 0) hx hb dX8_findLoops_23 rfl ?_
    obtain ⟨hi_18, hf⟩ := ix_inv hf
    obtain ⟨s_18, e_18, hf⟩ := lt_inv hf
    refine as_X_37 hx hb hK hC hi_18 e_18 dX8_findLoops_24 (fun H locs hC => ?_)
    obtain ⟨x1_19, e_19, hf⟩ := lt_inv hf
    refine lv_iinc (v := x1_19) (lv' := [(1, .int x1_19), (0, .ref (o 30))]) hx hb dX8_findLoops_25 hl (k := 1) rfl e_19.symm (by decide) rfl (fun ls hl => ?_)
    refine lv_goto (tgt := 7) hx hb dX8_findLoops_28 (by decide) ?_
    exact ha_7 _ _ hf _ _ _ hC (lv_sub hl [1, 0] rfl)

set_option maxHeartbeats 8000000 in
set_option maxRecDepth 100000 in
theorem r_X8_findMerges {D : va_G} {y : Nat → ClassId} {o : Nat → Nat} {ad av : Nat → Nat} {σ : Sto} {σ2 : Sto} (hf : f_X8_findMerges σ = some σ2) (l : Launch) (sz : Nat) : Met l yX8_findMerges (Cond.code yX8_findMerges cX8_findMerges 6 none :: ALW) { frames := 0, cells := 0, slots := 0, locals := 0 } (va_Pc [.ref (o 30)] (PZ D y ad av (WX y o σ) sz)) (QZv D (WX y o σ) (WX y o σ2) sz) 0 0 (va_A (WX y o σ) sz) := by
  refine met_v (by decide) (Nat.le_of_ble_eq_true rfl) ?_
  intro p e R s m args below meth c Q A ls hx hb hml hta hown hRc hRs hRf hRl hN hK hV hA hret hC hl
  have hl : lv_has ls 6 [(0, .ref (o 30))] := hl
  unfold f_X8_findMerges at hf
  refine lv_lconst (v := 0) hx hb dX8_findMerges_0 rfl ?_
  refine lv_lstore_n (lv' := [(1, .long 0), (0, .ref (o 30))]) hx hb dX8_findMerges_1 rfl hl (by decide) rfl (fun ls hl => ?_)
  refine lv_aload_n hx hb dX8_findMerges_2 rfl (lv_at hl 1 rfl) ?_
  refine lv_lconst (v := 0) hx hb dX8_findMerges_3 rfl ?_
  obtain ⟨s_1, e_1, hf⟩ := lt_inv hf
  refine pt_X8_143_shape hx hb hta hown hK hC e_1 dX8_findMerges_4 (fun H locs hC => ?_)
  refine lv_iconst (v := 0) hx hb dX8_findMerges_7 (by decide) ?_
  refine lv_istore_n (lv' := [(3, .int 0), (1, .long 0), (0, .ref (o 30))]) hx hb dX8_findMerges_8 rfl hl (by decide) rfl (fun ls hl => ?_)
  refine itr_inv3 (P := fun (x1_2 : Int64) (x3_2 : Int32) (s_2 : Sto) => ∀ (H : Heap) (locs : List Loc) (ls : Array Slot), CZ D A s H locs (WX y o s_2) → lv_has ls 6 [(0, .ref (o 30)), (1, .long x1_2), (3, .int x3_2)] → W p l e R s m args below meth c H locs 0 0 Q (F0 m 9 ls [])) hf ?_ _ _ _ hC (lv_sub hl [2, 1, 0] rfl)
  intro a_9 x1_2 x3_2 s_2 ha_9 hf H locs ls hC hl
  refine lv_iload_n hx hb dX8_findMerges_9 rfl (lv_at hl 2 rfl) ?_
  refine lv_aload_n hx hb dX8_findMerges_10 rfl (lv_at hl 0 rfl) ?_
  refine gt_X8_47_shape hx hb hta hown hK hC dX8_findMerges_11 ?_
  refine gt_X8_75_blocks hx hb hta hown hK hC dX8_findMerges_14 ?_
  refine lv_icmp_ge (tgt := 98) hx hb dX8_findMerges_17 (by decide) (fun c_3 => ?_) (fun c_3 => ?_)
  · have hf := it_t c_3 hf
    exact hret _ _ _ _ _ (congrArg (WX y o) (Option.some.inj hf)) dX8_findMerges_98 hC
  · have hf := it_f c_3 hf
    refine lv_lconst (v := 1) hx hb dX8_findMerges_20 rfl ?_
    refine lv_aload_n hx hb dX8_findMerges_21 rfl (lv_at hl 0 rfl) ?_
    refine gt_X8_47_shape hx hb hta hown hK hC dX8_findMerges_22 ?_
    refine gt_X8_99_blocks hx hb hta hown hK hC dX8_findMerges_25 ?_
    refine lv_iload_n hx hb dX8_findMerges_28 rfl (lv_at hl 2 rfl) ?_
    obtain ⟨hi_4, hf⟩ := ix_inv hf
    obtain ⟨v_4, e_4, hf⟩ := lt_inv hf
    refine al_X_27 hx hb hK hC hi_4 e_4 dX8_findMerges_29 ?_
    refine lv_lshl hx hb dX8_findMerges_30 rfl ?_
    obtain ⟨x4_5, e_5, hf⟩ := lt_inv hf
    refine nml e_5 ?_
    refine lv_lstore (lv' := [(4, .long x4_5), (0, .ref (o 30)), (1, .long x1_2), (3, .int x3_2)]) hx hb dX8_findMerges_31 hl (by decide) rfl (fun ls hl => ?_)
    refine lv_aload_n hx hb dX8_findMerges_33 rfl (lv_at hl 1 rfl) ?_
    refine gt_X8_47_shape hx hb hta hown hK hC dX8_findMerges_34 ?_
    refine gt_X8_132_blocks hx hb hta hown hK hC dX8_findMerges_37 ?_
    refine lv_iload_n hx hb dX8_findMerges_40 rfl (lv_at hl 3 rfl) ?_
    obtain ⟨hi_6, hf⟩ := ix_inv hf
    obtain ⟨v_6, e_6, hf⟩ := lt_inv hf
    refine al_X_28 hx hb hK hC hi_6 e_6 dX8_findMerges_41 ?_
    obtain ⟨k_56, hk_56, hf⟩ := jn_inv1 hf
    have hj_56 : ∀ (s_7 : Sto) (H : Heap) (locs : List Loc) (ls : Array Slot), k_56 s_7 = some σ2 → CZ D A s H locs (WX y o s_7) → lv_has ls 6 [(0, .ref (o 30)), (1, .long x1_2), (3, .int x3_2), (4, .long x4_5)] → W p l e R s m args below meth c H locs 0 0 Q (F0 m 56 ls []) := by
      intro s_7 H locs ls hf hC hl
      have hf := hk_56 _ hf
      refine lv_aload_n hx hb dX8_findMerges_56 rfl (lv_at hl 0 rfl) ?_
      refine gt_X8_9_shape hx hb hta hown hK hC dX8_findMerges_57 ?_
      refine lv_iload_n hx hb dX8_findMerges_60 rfl (lv_at hl 2 rfl) ?_
      obtain ⟨hi_8, hf⟩ := ix_inv hf
      obtain ⟨v_8, e_8, hf⟩ := lt_inv hf
      refine al_X_31 hx hb hK hC hi_8 e_8 dX8_findMerges_61 ?_
      obtain ⟨k_92, hk_92, hf⟩ := jn_inv2 hf
      have hj_92 : ∀ (x1_9 : Int64) (s_9 : Sto) (H : Heap) (locs : List Loc) (ls : Array Slot), k_92 x1_9 s_9 = some σ2 → CZ D A s H locs (WX y o s_9) → lv_has ls 6 [(0, .ref (o 30)), (1, .long x1_9), (3, .int x3_2)] → W p l e R s m args below meth c H locs 0 0 Q (F0 m 92 ls []) := by
        intro x1_9 s_9 H locs ls hf hC hl
        have hf := hk_92 _ _ hf
        obtain ⟨x3_10, e_10, hf⟩ := lt_inv hf
        refine lv_iinc (v := x3_10) (lv' := [(3, .int x3_10), (0, .ref (o 30)), (1, .long x1_9)]) hx hb dX8_findMerges_92 hl (k := 2) rfl e_10.symm (by decide) rfl (fun ls hl => ?_)
        refine lv_goto (tgt := 9) hx hb dX8_findMerges_95 (by decide) ?_
        exact ha_9 _ _ _ hf _ _ _ hC (lv_sub hl [1, 2, 0] rfl)
      refine lv_if_ne (tgt := 92) hx hb dX8_findMerges_62 (by decide) (fun c_11 => ?_) (fun c_11 => ?_)
      · have hf := it_f c_11 hf
        exact hj_92 _ _ _ _ _ hf hC (lv_sub hl [0, 1, 2] rfl)
      · have hf := it_t c_11 hf
        refine lv_aload_n hx hb dX8_findMerges_65 rfl (lv_at hl 0 rfl) ?_
        refine gt_X8_15_shape hx hb hta hown hK hC dX8_findMerges_66 ?_
        refine lv_iload_n hx hb dX8_findMerges_69 rfl (lv_at hl 2 rfl) ?_
        obtain ⟨hi_12, hf⟩ := ix_inv hf
        obtain ⟨v_12, e_12, hf⟩ := lt_inv hf
        refine al_X_32 hx hb hK hC hi_12 e_12 dX8_findMerges_70 ?_
        refine lv_if_ne (tgt := 92) hx hb dX8_findMerges_71 (by decide) (fun c_13 => ?_) (fun c_13 => ?_)
        · have hf := it_f c_13 hf
          exact hj_92 _ _ _ _ _ hf hC (lv_sub hl [0, 1, 2] rfl)
        · have hf := it_t c_13 hf
          refine lv_aload_n hx hb dX8_findMerges_74 rfl (lv_at hl 0 rfl) ?_
          refine lv_dup hx hb dX8_findMerges_75 rfl ?_
          refine gt_X8_143_shape hx hb hta hown hK hC dX8_findMerges_76 ?_
          refine lv_lload_n hx hb dX8_findMerges_79 rfl (lv_at hl 1 rfl) ?_
          refine lv_lload hx hb dX8_findMerges_80 (lv_at hl 3 rfl) ?_
          refine lv_land hx hb dX8_findMerges_82 ?_
          refine lv_lor hx hb dX8_findMerges_83 ?_
          obtain ⟨s_14, e_14, hf⟩ := lt_inv hf
          refine pt_X8_143_shape hx hb hta hown hK hC e_14 dX8_findMerges_84 (fun H locs hC => ?_)
          refine lv_lload_n hx hb dX8_findMerges_87 rfl (lv_at hl 1 rfl) ?_
          refine lv_lload hx hb dX8_findMerges_88 (lv_at hl 3 rfl) ?_
          refine lv_lor hx hb dX8_findMerges_90 ?_
          obtain ⟨x1_15, e_15, hf⟩ := lt_inv hf
          refine nml e_15 ?_
          refine lv_lstore_n (lv' := [(1, .long x1_15), (0, .ref (o 30)), (3, .int x3_2), (4, .long x4_5)]) hx hb dX8_findMerges_91 rfl hl (by decide) rfl (fun ls hl => ?_)
          exact hj_92 _ _ _ _ _ hf hC (lv_sub hl [1, 0, 2] rfl)
    refine lv_if_eq (tgt := 56) hx hb dX8_findMerges_42 (by decide) (fun c_16 => ?_) (fun c_16 => ?_)
    · have hf := it_t c_16 hf
      exact hj_56 _ _ _ _ hf hC (lv_sub hl [1, 2, 3, 0] rfl)
    · have hf := it_f c_16 hf
      refine lv_aload_n hx hb dX8_findMerges_45 rfl (lv_at hl 1 rfl) ?_
      refine lv_dup hx hb dX8_findMerges_46 rfl ?_
      refine gt_X8_143_shape hx hb hta hown hK hC dX8_findMerges_47 ?_
      refine lv_lload hx hb dX8_findMerges_50 (lv_at hl 0 rfl) ?_
      refine lv_lor hx hb dX8_findMerges_52 ?_
      obtain ⟨s_17, e_17, hf⟩ := lt_inv hf
      refine pt_X8_143_shape hx hb hta hown hK hC e_17 dX8_findMerges_53 (fun H locs hC => ?_)
      exact hj_56 _ _ _ _ hf hC (lv_sub hl [1, 2, 3, 0] rfl)

set_option maxHeartbeats 8000000 in
set_option maxRecDepth 100000 in
theorem r_X8_findCandidates {D : va_G} {y : Nat → ClassId} {o : Nat → Nat} {ad av : Nat → Nat} {σ : Sto} {σ2 : Sto} (hf : f_X8_findCandidates σ = some σ2) (l : Launch) (sz : Nat) : Met l yX8_findCandidates (Cond.code yX8_findCandidates cX8_findCandidates 3 none :: ALW) { frames := 2, cells := 0, slots := 0, locals := 43 } (va_Pc [.ref (o 30)] (PZ D y ad av (WX y o σ) sz)) (QZv D (WX y o σ) (WX y o σ2) sz) 0 0 (va_A (WX y o σ) sz) := by
  refine met_v (by decide) (Nat.le_of_ble_eq_true rfl) ?_
  intro p e R s m args below meth c Q A ls hx hb hml hta hown hRc hRs hRf hRl hN hK hV hA hret hC hl
  have hl : lv_has ls 3 [(0, .ref (o 30))] := hl
  unfold f_X8_findCandidates at hf
  refine lv_aload_n hx hb dX8_findCandidates_0 rfl (lv_at hl 0 rfl) ?_
  refine lv_iconst (v := 0) hx hb dX8_findCandidates_1 (by decide) ?_
  obtain ⟨s_1, e_1, hf⟩ := lt_inv hf
  refine pt_X8_129_shape hx hb hta hown hK hC e_1 dX8_findCandidates_2 (fun H locs hC => ?_)
  refine lv_iconst (v := 0) hx hb dX8_findCandidates_5 (by decide) ?_
  refine lv_istore_n (lv' := [(1, .int 0), (0, .ref (o 30))]) hx hb dX8_findCandidates_6 rfl hl (by decide) rfl (fun ls hl => ?_)
  refine itr_inv2 (P := fun (x1_2 : Int32) (s_2 : Sto) => ∀ (H : Heap) (locs : List Loc) (ls : Array Slot), CZ D A s H locs (WX y o s_2) → lv_has ls 3 [(0, .ref (o 30)), (1, .int x1_2)] → W p l e R s m args below meth c H locs 0 0 Q (F0 m 7 ls [])) hf ?_ _ _ _ hC (lv_sub hl [1, 0] rfl)
  intro a_7 x1_2 s_2 ha_7 hf H locs ls hC hl
  refine lv_iload_n hx hb dX8_findCandidates_7 rfl (lv_at hl 1 rfl) ?_
  refine lv_aload_n hx hb dX8_findCandidates_8 rfl (lv_at hl 0 rfl) ?_
  refine gt_X8_47_shape hx hb hta hown hK hC dX8_findCandidates_9 ?_
  refine gt_X8_75_blocks hx hb hta hown hK hC dX8_findCandidates_12 ?_
  refine lv_icmp_ge (tgt := 95) hx hb dX8_findCandidates_15 (by decide) (fun c_3 => ?_) (fun c_3 => ?_)
  · have hf := it_t c_3 hf
    exact hret _ _ _ _ _ (congrArg (WX y o) (Option.some.inj hf)) dX8_findCandidates_95 hC
  · have hf := it_f c_3 hf
    refine lv_aload_n hx hb dX8_findCandidates_18 rfl (lv_at hl 0 rfl) ?_
    refine gt_X8_35_shape hx hb hta hown hK hC dX8_findCandidates_19 ?_
    refine lv_aload_n hx hb dX8_findCandidates_22 rfl (lv_at hl 0 rfl) ?_
    refine gt_X8_47_shape hx hb hta hown hK hC dX8_findCandidates_23 ?_
    refine gt_X8_99_blocks hx hb hta hown hK hC dX8_findCandidates_26 ?_
    refine lv_iload_n hx hb dX8_findCandidates_29 rfl (lv_at hl 1 rfl) ?_
    obtain ⟨hi_4, hf⟩ := ix_inv hf
    obtain ⟨v_4, e_4, hf⟩ := lt_inv hf
    refine al_X_27 hx hb hK hC hi_4 e_4 dX8_findCandidates_30 ?_
    obtain ⟨hi_5, hf⟩ := ix_inv hf
    obtain ⟨v_5, e_5, hf⟩ := lt_inv hf
    refine al_X_38 hx hb hK hC hi_5 e_5 dX8_findCandidates_31 ?_
    obtain ⟨v_6, hc_6, hf⟩ := calp_inv hf
    refine cc_Si (r_J13_bitCount_95d88 (D := D) (y := y) (w := WX y o s_2) (ad := ad) (av := av) hc_6 l) hx hb hml hta hown hK hN hV hA hC hRc hRs (by omega) (by omega) wq_593 wq_594 wq_595 wq_582 hd_J13_bitCount_95d88 (As := [.long v_5]) (rest := []) rfl rfl hl.1 rfl dX8_findCandidates_32 (fun H locs hC => ?_)
    refine lv_iconst (v := 2) hx hb dX8_findCandidates_35 (by decide) ?_
    obtain ⟨k_44, hk_44, hf⟩ := jn_inv1 hf
    have hj_44 : ∀ (t0_7 : Int32) (H : Heap) (locs : List Loc) (ls : Array Slot), k_44 t0_7 = some σ2 → CZ D A s H locs (WX y o s_2) → lv_has ls 3 [(0, .ref (o 30)), (1, .int x1_2)] → W p l e R s m args below meth c H locs 0 0 Q (F0 m 44 ls [.int t0_7]) := by
      intro t0_7 H locs ls hf hC hl
      have hf := hk_44 _ hf
      refine lv_istore_n (lv' := [(2, .int t0_7), (0, .ref (o 30)), (1, .int x1_2)]) hx hb dX8_findCandidates_44 rfl hl (by decide) rfl (fun ls hl => ?_)
      refine lv_aload_n hx hb dX8_findCandidates_45 rfl (lv_at hl 1 rfl) ?_
      refine gt_X8_47_shape hx hb hta hown hK hC dX8_findCandidates_46 ?_
      refine gt_X8_132_blocks hx hb hta hown hK hC dX8_findCandidates_49 ?_
      refine lv_iload_n hx hb dX8_findCandidates_52 rfl (lv_at hl 2 rfl) ?_
      obtain ⟨hi_8, hf⟩ := ix_inv hf
      obtain ⟨v_8, e_8, hf⟩ := lt_inv hf
      refine al_X_28 hx hb hK hC hi_8 e_8 dX8_findCandidates_53 ?_
      obtain ⟨k_89, hk_89, hf⟩ := jn_inv1 hf
      have hj_89 : ∀ (s_9 : Sto) (H : Heap) (locs : List Loc) (ls : Array Slot), k_89 s_9 = some σ2 → CZ D A s H locs (WX y o s_9) → lv_has ls 3 [(0, .ref (o 30)), (1, .int x1_2)] → W p l e R s m args below meth c H locs 0 0 Q (F0 m 89 ls []) := by
        intro s_9 H locs ls hf hC hl
        have hf := hk_89 _ hf
        obtain ⟨x1_10, e_10, hf⟩ := lt_inv hf
        refine lv_iinc (v := x1_10) (lv' := [(1, .int x1_10), (0, .ref (o 30))]) hx hb dX8_findCandidates_89 hl (k := 1) rfl e_10.symm (by decide) rfl (fun ls hl => ?_)
        refine lv_goto (tgt := 7) hx hb dX8_findCandidates_92 (by decide) ?_
        exact ha_7 _ _ hf _ _ _ hC (lv_sub hl [1, 0] rfl)
      refine lv_if_ne (tgt := 89) hx hb dX8_findCandidates_54 (by decide) (fun c_11 => ?_) (fun c_11 => ?_)
      · have hf := it_f c_11 hf
        exact hj_89 _ _ _ _ hf hC (lv_sub hl [1, 2] rfl)
      · have hf := it_t c_11 hf
        refine lv_aload_n hx hb dX8_findCandidates_57 rfl (lv_at hl 1 rfl) ?_
        refine lv_iload_n hx hb dX8_findCandidates_58 rfl (lv_at hl 2 rfl) ?_
        obtain ⟨v_12, hc_12, hf⟩ := calp_inv hf
        refine cc_Vi (r_X8_isBack (D := D) (y := y) (o := o) (ad := ad) (av := av) hc_12 l) hx hb hml hta hown hK hN hV hA hC hRc hRs (by omega) (by omega) wq_612 (q := 30) (ci := 8) rfl rfl wq_613 wq_614 wq_603 wq_605 hd_X8_isBack (As := [.int x1_2]) (rest := []) rfl rfl hl.1 rfl dX8_findCandidates_59 (fun H locs hC => ?_)
        refine lv_if_ne (tgt := 89) hx hb dX8_findCandidates_62 (by decide) (fun c_13 => ?_) (fun c_13 => ?_)
        · have hf := it_f c_13 hf
          exact hj_89 _ _ _ _ hf hC (lv_sub hl [1, 2] rfl)
        · have hf := it_t c_13 hf
          refine lv_iload_n hx hb dX8_findCandidates_65 rfl (lv_at hl 0 rfl) ?_
          refine lv_if_ne (tgt := 89) hx hb dX8_findCandidates_66 (by decide) (fun c_14 => ?_) (fun c_14 => ?_)
          · have hf := it_f c_14 hf
            exact hj_89 _ _ _ _ hf hC (lv_sub hl [1, 2] rfl)
          · have hf := it_t c_14 hf
            refine lv_aload_n hx hb dX8_findCandidates_69 rfl (lv_at hl 1 rfl) ?_
            refine gt_X8_44_shape hx hb hta hown hK hC dX8_findCandidates_70 ?_
            refine lv_aload_n hx hb dX8_findCandidates_73 rfl (lv_at hl 1 rfl) ?_
            refine gt_X8_129_shape hx hb hta hown hK hC dX8_findCandidates_74 ?_
            refine lv_iload_n hx hb dX8_findCandidates_77 rfl (lv_at hl 2 rfl) ?_
            obtain ⟨hi_15, hf⟩ := ix_inv hf
            obtain ⟨s_15, e_15, hf⟩ := lt_inv hf
            refine as_X_41 hx hb hK hC hi_15 e_15 dX8_findCandidates_78 (fun H locs hC => ?_)
            refine lv_aload_n hx hb dX8_findCandidates_79 rfl (lv_at hl 1 rfl) ?_
            refine lv_dup hx hb dX8_findCandidates_80 rfl ?_
            refine gt_X8_129_shape hx hb hta hown hK hC dX8_findCandidates_81 ?_
            refine lv_iconst (v := 1) hx hb dX8_findCandidates_84 (by decide) ?_
            refine lv_iadd hx hb dX8_findCandidates_85 ?_
            obtain ⟨s_16, e_16, hf⟩ := lt_inv hf
            refine pt_X8_129_shape hx hb hta hown hK hC e_16 dX8_findCandidates_86 (fun H locs hC => ?_)
            exact hj_89 _ _ _ _ hf hC (lv_sub hl [1, 2] rfl)
    refine lv_icmp_ge (tgt := 43) hx hb dX8_findCandidates_36 (by decide) (fun c_17 => ?_) (fun c_17 => ?_)
    · have hf := it_t c_17 hf
      refine lv_iconst (v := 0) hx hb dX8_findCandidates_43 (by decide) ?_
      exact hj_44 _ _ _ _ hf hC hl
    · have hf := it_f c_17 hf
      refine lv_iconst (v := 1) hx hb dX8_findCandidates_39 (by decide) ?_
      refine lv_goto (tgt := 44) hx hb dX8_findCandidates_40 (by decide) ?_
      exact hj_44 _ _ _ _ hf hC hl
