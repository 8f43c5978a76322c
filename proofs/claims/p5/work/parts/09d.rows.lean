set_option maxHeartbeats 8000000 in
set_option maxRecDepth 100000 in
theorem r_X12_block {D : va_G} {y : Nat → ClassId} {o : Nat → Nat} {ad av : Nat → Nat} {x1 : Int32} {x2 : Int32} {σ : Sto} {σ2 : Sto} {v : Int32} (hf : f_X12_block x1 x2 σ = some (v, σ2)) (l : Launch) (sz : Nat) : Met l yX12_block (Cond.code yX12_block cX12_block 3 (some .int) :: ALW) { frames := 3, cells := 0, slots := 0, locals := 68 } (va_Pc [.ref (o 0), .int x1, .int x2] (PZ D y ad av (WM y o σ) sz)) (QZi D (WM y o σ) v (WM y o σ2) sz) 0 0 (va_A (WM y o σ) sz) := by
  refine met_i (by decide) (Nat.le_of_ble_eq_true rfl) ?_
  intro p e R s m args below meth c Q A ls hx hb hml hta hown hRc hRs hRf hRl hN hK hV hA hret hC hl
  have hl : lv_has ls 3 [(0, .ref (o 0)), (1, .int x1), (2, .int x2)] := hl
  unfold f_X12_block at hf
  refine lv_aload_n hx hb dX12_block_0 rfl (lv_at hl 0 rfl) ?_
  refine lv_aload_n hx hb dX12_block_1 rfl (lv_at hl 0 rfl) ?_
  refine lv_iload_n hx hb dX12_block_2 rfl (lv_at hl 1 rfl) ?_
  obtain ⟨v_1, hc_1, hf⟩ := calp_inv hf
  refine cc_Vi (r_X12_isBlock (D := D) (y := y) (o := o) (ad := ad) (av := av) hc_1 l) hx hb hml hta hown hK hN hV hA hC hRc hRs (by omega) (by omega) wq_1422 (q := 0) (ci := 12) rfl rfl wq_1423 wq_1424 wq_1012 wq_1421 hd_X12_isBlock (As := [.int x1]) (rest := [.ref (o 0)]) rfl rfl hl.1 rfl dX12_block_3 (fun H locs hC => ?_)
  obtain ⟨k_26, hk_26, hf⟩ := jn_inv1 hf
  have hj_26 : ∀ (t0_2 : Int32) (H : Heap) (locs : List Loc) (ls : Array Slot), k_26 t0_2 = some (v, σ2) → CZ D A s H locs (WM y o σ) → lv_has ls 3 [(0, .ref (o 0)), (1, .int x1), (2, .int x2)] → W p l e R s m args below meth c H locs 0 0 Q (F0 m 26 ls [.int t0_2, .ref (o 0)]) := by
    intro t0_2 H locs ls hf hC hl
    have hf := hk_26 _ hf
    obtain ⟨s_3, e_3, hf⟩ := lt_inv hf
    refine pt_X12_169_m hx hb hta hown hK hC e_3 dX12_block_26 (fun H locs hC => ?_)
    refine lv_aload_n hx hb dX12_block_29 rfl (lv_at hl 0 rfl) ?_
    refine gt_X12_169_m hx hb hta hown hK hC dX12_block_30 ?_
    refine lv_if_le (tgt := 38) hx hb dX12_block_33 (by decide) (fun c_4 => ?_) (fun c_4 => ?_)
    · have hf := it_t c_4 hf
      refine lv_iload_n hx hb dX12_block_38 rfl (lv_at hl 2 rfl) ?_
      by_cases h_5_0 : x2.toInt = 0
      · have hf := it_t h_5_0 hf
        refine lv_tab (tgt := 100) hx hb dX12_block_39 (Or.inr ⟨61, by omega, by omega, by (rw [h_5_0]; decide), by decide⟩) ?_
        refine lv_aload_n hx hb dX12_block_100 rfl (lv_at hl 0 rfl) ?_
        refine gt_X12_47_m hx hb hta hown hK hC dX12_block_101 ?_
        refine lv_iload_n hx hb dX12_block_104 rfl (lv_at hl 1 rfl) ?_
        obtain ⟨hi_6, hf⟩ := ix_inv hf
        obtain ⟨v_6, e_6, hf⟩ := lt_inv hf
        refine al_M_13 hx hb hK hC hi_6 e_6 dX12_block_105 ?_
        exact hret _ _ _ _ _ _ (rv_inv hf).1 (congrArg (WM y o) (rv_inv hf).2) rfl dX12_block_106 hC
      have hf := it_f h_5_0 hf
      by_cases h_5_1 : x2.toInt = 1
      · have hf := it_t h_5_1 hf
        refine lv_tab (tgt := 107) hx hb dX12_block_39 (Or.inr ⟨68, by omega, by omega, by (rw [h_5_1]; decide), by decide⟩) ?_
        refine lv_aload_n hx hb dX12_block_107 rfl (lv_at hl 0 rfl) ?_
        refine gt_X12_50_m hx hb hta hown hK hC dX12_block_108 ?_
        refine lv_iload_n hx hb dX12_block_111 rfl (lv_at hl 1 rfl) ?_
        obtain ⟨hi_7, hf⟩ := ix_inv hf
        obtain ⟨v_7, e_7, hf⟩ := lt_inv hf
        refine al_M_14 hx hb hK hC hi_7 e_7 dX12_block_112 ?_
        exact hret _ _ _ _ _ _ (rv_inv hf).1 (congrArg (WM y o) (rv_inv hf).2) rfl dX12_block_113 hC
      have hf := it_f h_5_1 hf
      by_cases h_5_2 : x2.toInt = 2
      · have hf := it_t h_5_2 hf
        refine lv_tab (tgt := 114) hx hb dX12_block_39 (Or.inr ⟨75, by omega, by omega, by (rw [h_5_2]; decide), by decide⟩) ?_
        refine lv_aload_n hx hb dX12_block_114 rfl (lv_at hl 0 rfl) ?_
        refine gt_X12_44_m hx hb hta hown hK hC dX12_block_115 ?_
        refine lv_aload_n hx hb dX12_block_118 rfl (lv_at hl 0 rfl) ?_
        refine gt_X12_47_m hx hb hta hown hK hC dX12_block_119 ?_
        refine lv_iload_n hx hb dX12_block_122 rfl (lv_at hl 1 rfl) ?_
        obtain ⟨hi_8, hf⟩ := ix_inv hf
        obtain ⟨v_8, e_8, hf⟩ := lt_inv hf
        refine al_M_13 hx hb hK hC hi_8 e_8 dX12_block_123 ?_
        obtain ⟨hi_9, hf⟩ := ix_inv hf
        obtain ⟨v_9, e_9, hf⟩ := lt_inv hf
        refine al_M_12 hx hb hK hC hi_9 e_9 dX12_block_124 ?_
        exact hret _ _ _ _ _ _ (rv_inv hf).1 (congrArg (WM y o) (rv_inv hf).2) rfl dX12_block_125 hC
      have hf := it_f h_5_2 hf
      by_cases h_5_3 : x2.toInt = 3
      · have hf := it_t h_5_3 hf
        refine lv_tab (tgt := 126) hx hb dX12_block_39 (Or.inr ⟨87, by omega, by omega, by (rw [h_5_3]; decide), by decide⟩) ?_
        refine lv_aload_n hx hb dX12_block_126 rfl (lv_at hl 0 rfl) ?_
        refine gt_X12_82_m hx hb hta hown hK hC dX12_block_127 ?_
        refine lv_iload_n hx hb dX12_block_130 rfl (lv_at hl 1 rfl) ?_
        obtain ⟨hi_10, hf⟩ := ix_inv hf
        obtain ⟨v_10, e_10, hf⟩ := lt_inv hf
        refine al_M_24 hx hb hK hC hi_10 e_10 dX12_block_131 ?_
        exact hret _ _ _ _ _ _ (rv_inv hf).1 (congrArg (WM y o) (rv_inv hf).2) rfl dX12_block_132 hC
      have hf := it_f h_5_3 hf
      by_cases h_5_4 : x2.toInt = 4
      · have hf := it_t h_5_4 hf
        refine lv_tab (tgt := 133) hx hb dX12_block_39 (Or.inr ⟨94, by omega, by omega, by (rw [h_5_4]; decide), by decide⟩) ?_
        refine lv_aload_n hx hb dX12_block_133 rfl (lv_at hl 0 rfl) ?_
        refine gt_X12_85_m hx hb hta hown hK hC dX12_block_134 ?_
        refine lv_iload_n hx hb dX12_block_137 rfl (lv_at hl 1 rfl) ?_
        obtain ⟨hi_11, hf⟩ := ix_inv hf
        obtain ⟨v_11, e_11, hf⟩ := lt_inv hf
        refine al_M_25 hx hb hK hC hi_11 e_11 dX12_block_138 ?_
        exact hret _ _ _ _ _ _ (rv_inv hf).1 (congrArg (WM y o) (rv_inv hf).2) rfl dX12_block_139 hC
      have hf := it_f h_5_4 hf
      by_cases h_5_5 : x2.toInt = 5
      · have hf := it_t h_5_5 hf
        refine lv_tab (tgt := 140) hx hb dX12_block_39 (Or.inr ⟨101, by omega, by omega, by (rw [h_5_5]; decide), by decide⟩) ?_
        refine lv_aload_n hx hb dX12_block_140 rfl (lv_at hl 0 rfl) ?_
        refine lv_iload_n hx hb dX12_block_141 rfl (lv_at hl 1 rfl) ?_
        obtain ⟨v_12, hc_12, hf⟩ := calp_inv hf
        refine cc_Vi (r_X12_innermost (D := D) (y := y) (o := o) (ad := ad) (av := av) hc_12 l) hx hb hml hta hown hK hN hV hA hC hRc hRs (by omega) (by omega) wq_1457 (q := 0) (ci := 12) rfl rfl wq_1458 wq_1459 wq_1012 wq_1453 hd_X12_innermost (As := [.int x1]) (rest := []) rfl rfl hl.1 rfl dX12_block_142 (fun H locs hC => ?_)
        exact hret _ _ _ _ _ _ (rv_inv hf).1 (congrArg (WM y o) (rv_inv hf).2) rfl dX12_block_145 hC
      have hf := it_f h_5_5 hf
      by_cases h_5_6 : x2.toInt = 6
      · have hf := it_t h_5_6 hf
        refine lv_tab (tgt := 146) hx hb dX12_block_39 (Or.inr ⟨107, by omega, by omega, by (rw [h_5_6]; decide), by decide⟩) ?_
        refine lv_aload_n hx hb dX12_block_146 rfl (lv_at hl 0 rfl) ?_
        refine lv_iload_n hx hb dX12_block_147 rfl (lv_at hl 1 rfl) ?_
        obtain ⟨v_13, hc_13, hf⟩ := calp_inv hf
        refine cc_Vi (r_X12_loopsOf (D := D) (y := y) (o := o) (ad := ad) (av := av) hc_13 l) hx hb hml hta hown hK hN hV hA hC hRc hRs (by omega) (by omega) wq_1460 (q := 0) (ci := 12) rfl rfl wq_1461 wq_1462 wq_1012 wq_1452 hd_X12_loopsOf (As := [.int x1]) (rest := []) rfl rfl hl.1 rfl dX12_block_148 (fun H locs hC => ?_)
        exact hret _ _ _ _ _ _ (rv_inv hf).1 (congrArg (WM y o) (rv_inv hf).2) rfl dX12_block_151 hC
      have hf := it_f h_5_6 hf
      by_cases h_5_7 : x2.toInt = 7
      · have hf := it_t h_5_7 hf
        refine lv_tab (tgt := 152) hx hb dX12_block_39 (Or.inr ⟨113, by omega, by omega, by (rw [h_5_7]; decide), by decide⟩) ?_
        refine lv_aload_n hx hb dX12_block_152 rfl (lv_at hl 0 rfl) ?_
        refine lv_iload_n hx hb dX12_block_153 rfl (lv_at hl 1 rfl) ?_
        obtain ⟨v_14, hc_14, hf⟩ := calp_inv hf
        refine cc_Vi (r_X12_isMerge (D := D) (y := y) (o := o) (ad := ad) (av := av) hc_14 l) hx hb hml hta hown hK hN hV hA hC hRc hRs (by omega) (by omega) wq_1278 (q := 0) (ci := 12) rfl rfl wq_1279 wq_1280 wq_1012 wq_1269 hd_X12_isMerge (As := [.int x1]) (rest := []) rfl rfl hl.1 rfl dX12_block_154 (fun H locs hC => ?_)
        refine lv_if_eq (tgt := 164) hx hb dX12_block_157 (by decide) (fun c_15 => ?_) (fun c_15 => ?_)
        · have hf := it_t c_15 hf
          refine lv_iconst (v := 0) hx hb dX12_block_164 (by decide) ?_
          exact hret _ _ _ _ _ _ (rv_inv hf).1 (congrArg (WM y o) (rv_inv hf).2) rfl dX12_block_165 hC
        · have hf := it_f c_15 hf
          refine lv_iconst (v := 1) hx hb dX12_block_160 (by decide) ?_
          refine lv_goto (tgt := 165) hx hb dX12_block_161 (by decide) ?_
          exact hret _ _ _ _ _ _ (rv_inv hf).1 (congrArg (WM y o) (rv_inv hf).2) rfl dX12_block_165 hC
      have hf := it_f h_5_7 hf
      by_cases h_5_8 : x2.toInt = 8
      · have hf := it_t h_5_8 hf
        refine lv_tab (tgt := 166) hx hb dX12_block_39 (Or.inr ⟨127, by omega, by omega, by (rw [h_5_8]; decide), by decide⟩) ?_
        refine lv_aload_n hx hb dX12_block_166 rfl (lv_at hl 0 rfl) ?_
        refine gt_X12_79_m hx hb hta hown hK hC dX12_block_167 ?_
        refine lv_iload_n hx hb dX12_block_170 rfl (lv_at hl 1 rfl) ?_
        obtain ⟨hi_16, hf⟩ := ix_inv hf
        obtain ⟨v_16, e_16, hf⟩ := lt_inv hf
        refine al_M_23 hx hb hK hC hi_16 e_16 dX12_block_171 ?_
        refine lv_lconst (v := 0) hx hb dX12_block_172 rfl ?_
        refine W.lcmp hx hb dX12_block_173 ?_
        refine lv_if_ne (tgt := 181) hx hb dX12_block_174 (by decide) (fun c_17 => ?_) (fun c_17 => ?_)
        · have hf := it_f c_17 hf
          refine lv_iconst (v := 1) hx hb dX12_block_181 (by decide) ?_
          exact hret _ _ _ _ _ _ (rv_inv hf).1 (congrArg (WM y o) (rv_inv hf).2) rfl dX12_block_182 hC
        · have hf := it_t c_17 hf
          refine lv_iconst (v := 0) hx hb dX12_block_177 (by decide) ?_
          refine lv_goto (tgt := 182) hx hb dX12_block_178 (by decide) ?_
          exact hret _ _ _ _ _ _ (rv_inv hf).1 (congrArg (WM y o) (rv_inv hf).2) rfl dX12_block_182 hC
      have hf := it_f h_5_8 hf
      by_cases h_5_9 : x2.toInt = 9
      · have hf := it_t h_5_9 hf
        refine lv_tab (tgt := 183) hx hb dX12_block_39 (Or.inr ⟨144, by omega, by omega, by (rw [h_5_9]; decide), by decide⟩) ?_
        refine lv_aload_n hx hb dX12_block_183 rfl (lv_at hl 0 rfl) ?_
        refine gt_X12_106_m hx hb hta hown hK hC dX12_block_184 ?_
        refine lv_iload_n hx hb dX12_block_187 rfl (lv_at hl 1 rfl) ?_
        refine lv_iconst (v := 1) hx hb dX12_block_188 (by decide) ?_
        refine lv_iadd hx hb dX12_block_189 ?_
        obtain ⟨hi_18, hf⟩ := ix_inv hf
        obtain ⟨v_18, e_18, hf⟩ := lt_inv hf
        refine al_M_32 hx hb hK hC hi_18 e_18 dX12_block_190 ?_
        refine lv_aload_n hx hb dX12_block_191 rfl (lv_at hl 0 rfl) ?_
        refine gt_X12_106_m hx hb hta hown hK hC dX12_block_192 ?_
        refine lv_iload_n hx hb dX12_block_195 rfl (lv_at hl 1 rfl) ?_
        obtain ⟨hi_19, hf⟩ := ix_inv hf
        obtain ⟨v_19, e_19, hf⟩ := lt_inv hf
        refine al_M_32 hx hb hK hC hi_19 e_19 dX12_block_196 ?_
        refine lv_isub hx hb dX12_block_197 ?_
        exact hret _ _ _ _ _ _ (rv_inv hf).1 (congrArg (WM y o) (rv_inv hf).2) rfl dX12_block_198 hC
      have hf := it_f h_5_9 hf
      by_cases h_5_10 : x2.toInt = 10
      · have hf := it_t h_5_10 hf
        refine lv_tab (tgt := 199) hx hb dX12_block_39 (Or.inr ⟨160, by omega, by omega, by (rw [h_5_10]; decide), by decide⟩) ?_
        refine lv_aload_n hx hb dX12_block_199 rfl (lv_at hl 0 rfl) ?_
        refine gt_X12_124_m hx hb hta hown hK hC dX12_block_200 ?_
        refine lv_iload_n hx hb dX12_block_203 rfl (lv_at hl 1 rfl) ?_
        obtain ⟨hi_20, hf⟩ := ix_inv hf
        obtain ⟨v_20, e_20, hf⟩ := lt_inv hf
        refine al_M_38 hx hb hK hC hi_20 e_20 dX12_block_204 ?_
        exact hret _ _ _ _ _ _ (rv_inv hf).1 (congrArg (WM y o) (rv_inv hf).2) rfl dX12_block_205 hC
      have hf := it_f h_5_10 hf
      by_cases h_5_11 : x2.toInt = 11
      · have hf := it_t h_5_11 hf
        refine lv_tab (tgt := 206) hx hb dX12_block_39 (Or.inr ⟨167, by omega, by omega, by (rw [h_5_11]; decide), by decide⟩) ?_
        refine lv_aload_n hx hb dX12_block_206 rfl (lv_at hl 0 rfl) ?_
        refine gt_X12_127_m hx hb hta hown hK hC dX12_block_207 ?_
        refine lv_iload_n hx hb dX12_block_210 rfl (lv_at hl 1 rfl) ?_
        obtain ⟨hi_21, hf⟩ := ix_inv hf
        obtain ⟨v_21, e_21, hf⟩ := lt_inv hf
        refine al_M_39 hx hb hK hC hi_21 e_21 dX12_block_211 ?_
        exact hret _ _ _ _ _ _ (rv_inv hf).1 (congrArg (WM y o) (rv_inv hf).2) rfl dX12_block_212 hC
      have hf := it_f h_5_11 hf
      refine lv_tab (tgt := 213) hx hb dX12_block_39 (Or.inl ⟨by omega, by decide⟩) ?_
      refine lv_aload_n hx hb dX12_block_213 rfl (lv_at hl 0 rfl) ?_
      refine gt_X12_56_m hx hb hta hown hK hC dX12_block_214 ?_
      refine lv_iload_n hx hb dX12_block_217 rfl (lv_at hl 1 rfl) ?_
      obtain ⟨hi_22, hf⟩ := ix_inv hf
      obtain ⟨v_22, e_22, hf⟩ := lt_inv hf
      refine al_M_16 hx hb hK hC hi_22 e_22 dX12_block_218 ?_
      exact hret _ _ _ _ _ _ (rv_inv hf).1 (congrArg (WM y o) (rv_inv hf).2) rfl dX12_block_219 hC
    · have hf := it_f c_4 hf
      refine lv_iconst (v := 0) hx hb dX12_block_36 (by decide) ?_
      exact hret _ _ _ _ _ _ (rv_inv hf).1 (congrArg (WM y o) (rv_inv hf).2) rfl dX12_block_37 hC
  obtain ⟨k_25, hk_25, hf⟩ := jn_inv0 hf
  have hj_25 : ∀  (H : Heap) (locs : List Loc) (ls : Array Slot), k_25 = some (v, σ2) → CZ D A s H locs (WM y o σ) → lv_has ls 3 [(0, .ref (o 0)), (1, .int x1), (2, .int x2)] → W p l e R s m args below meth c H locs 0 0 Q (F0 m 25 ls [.ref (o 0)]) := by
    intro H locs ls hf hC hl
    have hf := hk_25 hf
    refine lv_iconst (v := 1) hx hb dX12_block_25 (by decide) ?_
    exact hj_26 _ _ _ _ hf hC hl
  refine lv_if_eq (tgt := 25) hx hb dX12_block_6 (by decide) (fun c_24 => ?_) (fun c_24 => ?_)
  · have hf := it_t c_24 hf
    exact hj_25 _ _ _ hf hC hl
  · have hf := it_f c_24 hf
    refine lv_iload_n hx hb dX12_block_9 rfl (lv_at hl 2 rfl) ?_
    refine lv_i2l hx hb dX12_block_10 rfl ?_
    refine lv_lconst (v := 0) hx hb dX12_block_11 rfl ?_
    refine lv_ldc2 hx hb hown (hta _ wq_1456) dX12_block_12 ?_
    obtain ⟨v_25, hc_25, hf⟩ := calp_inv hf
    refine cc_Si (r_X12_isIn (D := D) (y := y) (w := WM y o σ) (ad := ad) (av := av) hc_25 l) hx hb hml hta hown hK hN hV hA hC hRc hRs (by omega) (by omega) wq_1362 wq_1363 wq_1012 wq_1007 hd_X12_isIn (As := [.long x2.toInt64, .long 0, .long 12]) (rest := [.ref (o 0)]) rfl rfl hl.1 rfl dX12_block_15 (fun H locs hC => ?_)
    refine lv_if_eq (tgt := 25) hx hb dX12_block_18 (by decide) (fun c_26 => ?_) (fun c_26 => ?_)
    · have hf := it_t c_26 hf
      exact hj_25 _ _ _ hf hC hl
    · have hf := it_f c_26 hf
      refine lv_iconst (v := 0) hx hb dX12_block_21 (by decide) ?_
      refine lv_goto (tgt := 26) hx hb dX12_block_22 (by decide) ?_
      exact hj_26 _ _ _ _ hf hC hl

set_option maxHeartbeats 8000000 in
set_option maxRecDepth 100000 in
theorem r_X12_edge {D : va_G} {y : Nat → ClassId} {o : Nat → Nat} {ad av : Nat → Nat} {x1 : Int32} {x2 : Int32} {σ : Sto} {σ2 : Sto} {v : Int32} (hf : f_X12_edge x1 x2 σ = some (v, σ2)) (l : Launch) (sz : Nat) : Met l yX12_edge (Cond.code yX12_edge cX12_edge 3 (some .int) :: ALW) { frames := 1, cells := 0, slots := 0, locals := 25 } (va_Pc [.ref (o 0), .int x1, .int x2] (PZ D y ad av (WM y o σ) sz)) (QZi D (WM y o σ) v (WM y o σ2) sz) 0 0 (va_A (WM y o σ) sz) := by
  refine met_i (by decide) (Nat.le_of_ble_eq_true rfl) ?_
  intro p e R s m args below meth c Q A ls hx hb hml hta hown hRc hRs hRf hRl hN hK hV hA hret hC hl
  have hl : lv_has ls 3 [(0, .ref (o 0)), (1, .int x1), (2, .int x2)] := hl
  unfold f_X12_edge at hf
  refine lv_aload_n hx hb dX12_edge_0 rfl (lv_at hl 0 rfl) ?_
  refine lv_iconst (v := 0) hx hb dX12_edge_1 (by decide) ?_
  obtain ⟨s_1, e_1, hf⟩ := lt_inv hf
  refine pt_X12_169_m hx hb hta hown hK hC e_1 dX12_edge_2 (fun H locs hC => ?_)
  refine lv_aload_n hx hb dX12_edge_5 rfl (lv_at hl 0 rfl) ?_
  refine gt_X12_292_m hx hb hta hown hK hC dX12_edge_6 ?_
  refine lv_if_eq (tgt := 40) hx hb dX12_edge_9 (by decide) (fun c_2 => ?_) (fun c_2 => ?_)
  · have hf := it_t c_2 hf
    refine lv_ldcw hx hb hown (hta _ wq_1420) dX12_edge_40 ?_
    exact hret _ _ _ _ _ _ (rv_inv hf).1 (congrArg (WM y o) (rv_inv hf).2) rfl dX12_edge_43 hC
  · have hf := it_f c_2 hf
    refine lv_iload_n hx hb dX12_edge_12 rfl (lv_at hl 1 rfl) ?_
    refine lv_i2l hx hb dX12_edge_13 rfl ?_
    refine lv_lconst (v := 0) hx hb dX12_edge_14 rfl ?_
    refine lv_aload_n hx hb dX12_edge_15 rfl (lv_at hl 0 rfl) ?_
    refine gt_X12_327_m hx hb hta hown hK hC dX12_edge_16 ?_
    refine lv_iconst (v := 1) hx hb dX12_edge_19 (by decide) ?_
    refine lv_isub hx hb dX12_edge_20 ?_
    refine lv_i2l hx hb dX12_edge_21 rfl ?_
    obtain ⟨v_3, hc_3, hf⟩ := calp_inv hf
    refine cc_Si (r_X12_isIn (D := D) (y := y) (w := WM y o s_1) (ad := ad) (av := av) hc_3 l) hx hb hml hta hown hK hN hV hA hC hRc hRs (by omega) (by omega) wq_1362 wq_1363 wq_1012 wq_1007 hd_X12_isIn (As := [.long x1.toInt64, .long 0, .long (((s_1.1 32 0) - 1).toInt64)]) (rest := []) rfl rfl hl.1 rfl dX12_edge_22 (fun H locs hC => ?_)
    refine lv_if_eq (tgt := 40) hx hb dX12_edge_25 (by decide) (fun c_4 => ?_) (fun c_4 => ?_)
    · have hf := it_t c_4 hf
      refine lv_ldcw hx hb hown (hta _ wq_1420) dX12_edge_40 ?_
      exact hret _ _ _ _ _ _ (rv_inv hf).1 (congrArg (WM y o) (rv_inv hf).2) rfl dX12_edge_43 hC
    · have hf := it_f c_4 hf
      refine lv_iload_n hx hb dX12_edge_28 rfl (lv_at hl 2 rfl) ?_
      refine lv_i2l hx hb dX12_edge_29 rfl ?_
      refine lv_lconst (v := 0) hx hb dX12_edge_30 rfl ?_
      refine lv_ldc2 hx hb hown (hta _ wq_1426) dX12_edge_31 ?_
      obtain ⟨v_5, hc_5, hf⟩ := calp_inv hf
      refine cc_Si (r_X12_isIn (D := D) (y := y) (w := WM y o s_1) (ad := ad) (av := av) hc_5 l) hx hb hml hta hown hK hN hV hA hC hRc hRs (by omega) (by omega) wq_1362 wq_1363 wq_1012 wq_1007 hd_X12_isIn (As := [.long x2.toInt64, .long 0, .long 4]) (rest := []) rfl rfl hl.1 rfl dX12_edge_34 (fun H locs hC => ?_)
      refine lv_if_ne (tgt := 44) hx hb dX12_edge_37 (by decide) (fun c_6 => ?_) (fun c_6 => ?_)
      · have hf := it_f c_6 hf
        refine lv_iload_n hx hb dX12_edge_44 rfl (lv_at hl 2 rfl) ?_
        by_cases h_7_0 : x2.toInt = 0
        · have hf := it_t h_7_0 hf
          refine lv_tab (tgt := 76) hx hb dX12_edge_45 (Or.inr ⟨31, by omega, by omega, by (rw [h_7_0]; decide), by decide⟩) ?_
          refine lv_aload_n hx hb dX12_edge_76 rfl (lv_at hl 0 rfl) ?_
          refine gt_X12_59_m hx hb hta hown hK hC dX12_edge_77 ?_
          refine lv_iload_n hx hb dX12_edge_80 rfl (lv_at hl 1 rfl) ?_
          obtain ⟨hi_8, hf⟩ := ix_inv hf
          obtain ⟨v_8, e_8, hf⟩ := lt_inv hf
          refine al_M_17 hx hb hK hC hi_8 e_8 dX12_edge_81 ?_
          exact hret _ _ _ _ _ _ (rv_inv hf).1 (congrArg (WM y o) (rv_inv hf).2) rfl dX12_edge_82 hC
        have hf := it_f h_7_0 hf
        by_cases h_7_1 : x2.toInt = 1
        · have hf := it_t h_7_1 hf
          refine lv_tab (tgt := 83) hx hb dX12_edge_45 (Or.inr ⟨38, by omega, by omega, by (rw [h_7_1]; decide), by decide⟩) ?_
          refine lv_aload_n hx hb dX12_edge_83 rfl (lv_at hl 0 rfl) ?_
          refine gt_X12_62_m hx hb hta hown hK hC dX12_edge_84 ?_
          refine lv_iload_n hx hb dX12_edge_87 rfl (lv_at hl 1 rfl) ?_
          obtain ⟨hi_9, hf⟩ := ix_inv hf
          obtain ⟨v_9, e_9, hf⟩ := lt_inv hf
          refine al_M_18 hx hb hK hC hi_9 e_9 dX12_edge_88 ?_
          exact hret _ _ _ _ _ _ (rv_inv hf).1 (congrArg (WM y o) (rv_inv hf).2) rfl dX12_edge_89 hC
        have hf := it_f h_7_1 hf
        by_cases h_7_2 : x2.toInt = 2
        · have hf := it_t h_7_2 hf
          refine lv_tab (tgt := 90) hx hb dX12_edge_45 (Or.inr ⟨45, by omega, by omega, by (rw [h_7_2]; decide), by decide⟩) ?_
          refine lv_aload_n hx hb dX12_edge_90 rfl (lv_at hl 0 rfl) ?_
          refine gt_X12_72_m hx hb hta hown hK hC dX12_edge_91 ?_
          refine lv_iload_n hx hb dX12_edge_94 rfl (lv_at hl 1 rfl) ?_
          obtain ⟨hi_10, hf⟩ := ix_inv hf
          obtain ⟨v_10, e_10, hf⟩ := lt_inv hf
          refine al_M_21 hx hb hK hC hi_10 e_10 dX12_edge_95 ?_
          refine lv_if_eq (tgt := 103) hx hb dX12_edge_96 (by decide) (fun c_11 => ?_) (fun c_11 => ?_)
          · have hf := it_t c_11 hf
            refine lv_iconst (v := 0) hx hb dX12_edge_103 (by decide) ?_
            exact hret _ _ _ _ _ _ (rv_inv hf).1 (congrArg (WM y o) (rv_inv hf).2) rfl dX12_edge_104 hC
          · have hf := it_f c_11 hf
            refine lv_iconst (v := 1) hx hb dX12_edge_99 (by decide) ?_
            refine lv_goto (tgt := 104) hx hb dX12_edge_100 (by decide) ?_
            exact hret _ _ _ _ _ _ (rv_inv hf).1 (congrArg (WM y o) (rv_inv hf).2) rfl dX12_edge_104 hC
        have hf := it_f h_7_2 hf
        by_cases h_7_3 : x2.toInt = 3
        · have hf := it_t h_7_3 hf
          refine lv_tab (tgt := 105) hx hb dX12_edge_45 (Or.inr ⟨60, by omega, by omega, by (rw [h_7_3]; decide), by decide⟩) ?_
          refine lv_aload_n hx hb dX12_edge_105 rfl (lv_at hl 0 rfl) ?_
          refine gt_X12_69_m hx hb hta hown hK hC dX12_edge_106 ?_
          refine lv_iload_n hx hb dX12_edge_109 rfl (lv_at hl 1 rfl) ?_
          obtain ⟨hi_12, hf⟩ := ix_inv hf
          obtain ⟨v_12, e_12, hf⟩ := lt_inv hf
          refine al_M_20 hx hb hK hC hi_12 e_12 dX12_edge_110 ?_
          refine lv_if_eq (tgt := 118) hx hb dX12_edge_111 (by decide) (fun c_13 => ?_) (fun c_13 => ?_)
          · have hf := it_t c_13 hf
            refine lv_iconst (v := 0) hx hb dX12_edge_118 (by decide) ?_
            exact hret _ _ _ _ _ _ (rv_inv hf).1 (congrArg (WM y o) (rv_inv hf).2) rfl dX12_edge_119 hC
          · have hf := it_f c_13 hf
            refine lv_iconst (v := 1) hx hb dX12_edge_114 (by decide) ?_
            refine lv_goto (tgt := 119) hx hb dX12_edge_115 (by decide) ?_
            exact hret _ _ _ _ _ _ (rv_inv hf).1 (congrArg (WM y o) (rv_inv hf).2) rfl dX12_edge_119 hC
        have hf := it_f h_7_3 hf
        refine lv_tab (tgt := 120) hx hb dX12_edge_45 (Or.inl ⟨by omega, by decide⟩) ?_
        refine lv_aload_n hx hb dX12_edge_120 rfl (lv_at hl 0 rfl) ?_
        refine gt_X12_65_m hx hb hta hown hK hC dX12_edge_121 ?_
        refine lv_iload_n hx hb dX12_edge_124 rfl (lv_at hl 1 rfl) ?_
        obtain ⟨hi_14, hf⟩ := ix_inv hf
        obtain ⟨v_14, e_14, hf⟩ := lt_inv hf
        refine al_M_19 hx hb hK hC hi_14 e_14 dX12_edge_125 ?_
        refine lv_if_eq (tgt := 133) hx hb dX12_edge_126 (by decide) (fun c_15 => ?_) (fun c_15 => ?_)
        · have hf := it_t c_15 hf
          refine lv_iconst (v := 0) hx hb dX12_edge_133 (by decide) ?_
          exact hret _ _ _ _ _ _ (rv_inv hf).1 (congrArg (WM y o) (rv_inv hf).2) rfl dX12_edge_134 hC
        · have hf := it_f c_15 hf
          refine lv_iconst (v := 1) hx hb dX12_edge_129 (by decide) ?_
          refine lv_goto (tgt := 134) hx hb dX12_edge_130 (by decide) ?_
          exact hret _ _ _ _ _ _ (rv_inv hf).1 (congrArg (WM y o) (rv_inv hf).2) rfl dX12_edge_134 hC
      · have hf := it_t c_6 hf
        refine lv_ldcw hx hb hown (hta _ wq_1420) dX12_edge_40 ?_
        exact hret _ _ _ _ _ _ (rv_inv hf).1 (congrArg (WM y o) (rv_inv hf).2) rfl dX12_edge_43 hC

set_option maxHeartbeats 8000000 in
set_option maxRecDepth 100000 in
theorem r_X12_dominates {D : va_G} {y : Nat → ClassId} {o : Nat → Nat} {ad av : Nat → Nat} {x1 : Int32} {x2 : Int32} {σ : Sto} {σ2 : Sto} {v : Int32} (hf : f_X12_dominates x1 x2 σ = some (v, σ2)) (l : Launch) (sz : Nat) : Met l yX12_dominates (Cond.code yX12_dominates cX12_dominates 3 (some .boolean) :: ALW) { frames := 2, cells := 0, slots := 0, locals := 46 } (va_Pc [.ref (o 0), .int x1, .int x2] (PZ D y ad av (WM y o σ) sz)) (QZi D (WM y o σ) v (WM y o σ2) sz) 0 0 (va_A (WM y o σ) sz) := by
  refine met_i (by decide) (Nat.le_of_ble_eq_true rfl) ?_
  intro p e R s m args below meth c Q A ls hx hb hml hta hown hRc hRs hRf hRl hN hK hV hA hret hC hl
  have hl : lv_has ls 3 [(0, .ref (o 0)), (1, .int x1), (2, .int x2)] := hl
  unfold f_X12_dominates at hf
  refine lv_aload_n hx hb dX12_dominates_0 rfl (lv_at hl 0 rfl) ?_
  refine lv_iconst (v := 0) hx hb dX12_dominates_1 (by decide) ?_
  obtain ⟨s_1, e_1, hf⟩ := lt_inv hf
  refine pt_X12_169_m hx hb hta hown hK hC e_1 dX12_dominates_2 (fun H locs hC => ?_)
  refine lv_aload_n hx hb dX12_dominates_5 rfl (lv_at hl 0 rfl) ?_
  refine lv_iload_n hx hb dX12_dominates_6 rfl (lv_at hl 1 rfl) ?_
  obtain ⟨v_2, hc_2, hf⟩ := calp_inv hf
  refine cc_Vi (r_X12_isBlock (D := D) (y := y) (o := o) (ad := ad) (av := av) hc_2 l) hx hb hml hta hown hK hN hV hA hC hRc hRs (by omega) (by omega) wq_1422 (q := 0) (ci := 12) rfl rfl wq_1423 wq_1424 wq_1012 wq_1421 hd_X12_isBlock (As := [.int x1]) (rest := []) rfl rfl hl.1 rfl dX12_dominates_7 (fun H locs hC => ?_)
  obtain ⟨k_38, hk_38, hf⟩ := jn_inv0 hf
  have hj_38 : ∀  (H : Heap) (locs : List Loc) (ls : Array Slot), k_38 = some (v, σ2) → CZ D A s H locs (WM y o s_1) → lv_has ls 3 [] → W p l e R s m args below meth c H locs 0 0 Q (F0 m 38 ls []) := by
    intro H locs ls hf hC hl
    have hf := hk_38 hf
    refine lv_iconst (v := 0) hx hb dX12_dominates_38 (by decide) ?_
    exact hret _ _ _ _ _ _ (rv_inv hf).1 (congrArg (WM y o) (rv_inv hf).2) rfl dX12_dominates_39 hC
  refine lv_if_eq (tgt := 38) hx hb dX12_dominates_10 (by decide) (fun c_4 => ?_) (fun c_4 => ?_)
  · have hf := it_t c_4 hf
    exact hj_38 _ _ _ hf hC (lv_sub hl [] rfl)
  · have hf := it_f c_4 hf
    refine lv_aload_n hx hb dX12_dominates_13 rfl (lv_at hl 0 rfl) ?_
    refine lv_iload_n hx hb dX12_dominates_14 rfl (lv_at hl 2 rfl) ?_
    obtain ⟨v_5, hc_5, hf⟩ := calp_inv hf
    refine cc_Vi (r_X12_isBlock (D := D) (y := y) (o := o) (ad := ad) (av := av) hc_5 l) hx hb hml hta hown hK hN hV hA hC hRc hRs (by omega) (by omega) wq_1422 (q := 0) (ci := 12) rfl rfl wq_1423 wq_1424 wq_1012 wq_1421 hd_X12_isBlock (As := [.int x2]) (rest := []) rfl rfl hl.1 rfl dX12_dominates_15 (fun H locs hC => ?_)
    refine lv_if_eq (tgt := 38) hx hb dX12_dominates_18 (by decide) (fun c_6 => ?_) (fun c_6 => ?_)
    · have hf := it_t c_6 hf
      exact hj_38 _ _ _ hf hC (lv_sub hl [] rfl)
    · have hf := it_f c_6 hf
      refine lv_aload_n hx hb dX12_dominates_21 rfl (lv_at hl 0 rfl) ?_
      refine gt_X12_75_m hx hb hta hown hK hC dX12_dominates_22 ?_
      refine lv_iload_n hx hb dX12_dominates_25 rfl (lv_at hl 2 rfl) ?_
      obtain ⟨hi_7, hf⟩ := ix_inv hf
      obtain ⟨v_7, e_7, hf⟩ := lt_inv hf
      refine al_M_22 hx hb hK hC hi_7 e_7 dX12_dominates_26 ?_
      refine lv_iload_n hx hb dX12_dominates_27 rfl (lv_at hl 1 rfl) ?_
      obtain ⟨v_8, hc_8, hf⟩ := calp_inv hf
      refine cc_Si (r_X12_has (D := D) (y := y) (w := WM y o s_1) (ad := ad) (av := av) hc_8 l) hx hb hml hta hown hK hN hV hA hC hRc hRs (by omega) (by omega) wq_1010 wq_1011 wq_1012 wq_1008 hd_X12_has (As := [.long v_7, .int x1]) (rest := []) rfl rfl hl.1 rfl dX12_dominates_28 (fun H locs hC => ?_)
      refine lv_if_eq (tgt := 38) hx hb dX12_dominates_31 (by decide) (fun c_9 => ?_) (fun c_9 => ?_)
      · have hf := it_t c_9 hf
        exact hj_38 _ _ _ hf hC (lv_sub hl [] rfl)
      · have hf := it_f c_9 hf
        refine lv_iconst (v := 1) hx hb dX12_dominates_34 (by decide) ?_
        refine lv_goto (tgt := 39) hx hb dX12_dominates_35 (by decide) ?_
        exact hret _ _ _ _ _ _ (rv_inv hf).1 (congrArg (WM y o) (rv_inv hf).2) rfl dX12_dominates_39 hC

set_option maxHeartbeats 8000000 in
set_option maxRecDepth 100000 in
theorem r_X12_loop {D : va_G} {y : Nat → ClassId} {o : Nat → Nat} {ad av : Nat → Nat} {x1 : Int32} {σ : Sto} {σ2 : Sto} {v : Int64} (hf : f_X12_loop x1 σ = some (v, σ2)) (l : Launch) (sz : Nat) : Met l yX12_loop (Cond.code yX12_loop cX12_loop 2 (some .long) :: ALW) { frames := 2, cells := 0, slots := 0, locals := 46 } (va_Pc [.ref (o 0), .int x1] (PZ D y ad av (WM y o σ) sz)) (QZl D (WM y o σ) v (WM y o σ2) sz) 0 0 (va_A (WM y o σ) sz) := by
  refine met_l (by decide) (Nat.le_of_ble_eq_true rfl) ?_
  intro p e R s m args below meth c Q A ls hx hb hml hta hown hRc hRs hRf hRl hN hK hV hA hret hC hl
  have hl : lv_has ls 2 [(0, .ref (o 0)), (1, .int x1)] := hl
  unfold f_X12_loop at hf
  refine lv_aload_n hx hb dX12_loop_0 rfl (lv_at hl 0 rfl) ?_
  refine lv_iconst (v := 0) hx hb dX12_loop_1 (by decide) ?_
  obtain ⟨s_1, e_1, hf⟩ := lt_inv hf
  refine pt_X12_169_m hx hb hta hown hK hC e_1 dX12_loop_2 (fun H locs hC => ?_)
  refine lv_aload_n hx hb dX12_loop_5 rfl (lv_at hl 0 rfl) ?_
  refine lv_iload_n hx hb dX12_loop_6 rfl (lv_at hl 1 rfl) ?_
  obtain ⟨v_2, hc_2, hf⟩ := calp_inv hf
  refine cc_Vi (r_X12_isBlock (D := D) (y := y) (o := o) (ad := ad) (av := av) hc_2 l) hx hb hml hta hown hK hN hV hA hC hRc hRs (by omega) (by omega) wq_1422 (q := 0) (ci := 12) rfl rfl wq_1423 wq_1424 wq_1012 wq_1421 hd_X12_isBlock (As := [.int x1]) (rest := []) rfl rfl hl.1 rfl dX12_loop_7 (fun H locs hC => ?_)
  obtain ⟨k_33, hk_33, hf⟩ := jn_inv0 hf
  have hj_33 : ∀  (H : Heap) (locs : List Loc) (ls : Array Slot), k_33 = some (v, σ2) → CZ D A s H locs (WM y o s_1) → lv_has ls 2 [] → W p l e R s m args below meth c H locs 0 0 Q (F0 m 33 ls []) := by
    intro H locs ls hf hC hl
    have hf := hk_33 hf
    refine lv_ldc2 hx hb hown (hta _ wq_1467) dX12_loop_33 ?_
    exact hret _ _ _ _ _ _ (rv_inv hf).1 (congrArg (WM y o) (rv_inv hf).2) dX12_loop_36 hC
  refine lv_if_eq (tgt := 33) hx hb dX12_loop_10 (by decide) (fun c_4 => ?_) (fun c_4 => ?_)
  · have hf := it_t c_4 hf
    exact hj_33 _ _ _ hf hC (lv_sub hl [] rfl)
  · have hf := it_f c_4 hf
    refine lv_aload_n hx hb dX12_loop_13 rfl (lv_at hl 0 rfl) ?_
    refine gt_X12_79_m hx hb hta hown hK hC dX12_loop_14 ?_
    refine lv_iload_n hx hb dX12_loop_17 rfl (lv_at hl 1 rfl) ?_
    obtain ⟨hi_5, hf⟩ := ix_inv hf
    obtain ⟨v_5, e_5, hf⟩ := lt_inv hf
    refine al_M_23 hx hb hK hC hi_5 e_5 dX12_loop_18 ?_
    refine lv_lconst (v := 0) hx hb dX12_loop_19 rfl ?_
    refine W.lcmp hx hb dX12_loop_20 ?_
    refine lv_if_eq (tgt := 33) hx hb dX12_loop_21 (by decide) (fun c_6 => ?_) (fun c_6 => ?_)
    · have hf := it_t c_6 hf
      exact hj_33 _ _ _ hf hC (lv_sub hl [] rfl)
    · have hf := it_f c_6 hf
      refine lv_aload_n hx hb dX12_loop_24 rfl (lv_at hl 0 rfl) ?_
      refine gt_X12_79_m hx hb hta hown hK hC dX12_loop_25 ?_
      refine lv_iload_n hx hb dX12_loop_28 rfl (lv_at hl 1 rfl) ?_
      obtain ⟨hi_7, hf⟩ := ix_inv hf
      obtain ⟨v_7, e_7, hf⟩ := lt_inv hf
      refine al_M_23 hx hb hK hC hi_7 e_7 dX12_loop_29 ?_
      refine lv_goto (tgt := 36) hx hb dX12_loop_30 (by decide) ?_
      exact hret _ _ _ _ _ _ (rv_inv hf).1 (congrArg (WM y o) (rv_inv hf).2) dX12_loop_36 hC

set_option maxHeartbeats 8000000 in
set_option maxRecDepth 100000 in
theorem r_X12_writes {D : va_G} {y : Nat → ClassId} {o : Nat → Nat} {ad av : Nat → Nat} {x1 : Int32} {σ : Sto} {σ2 : Sto} (hf : f_X12_writes x1 σ = some σ2) (l : Launch) (sz : Nat) : Met l yX12_writes (Cond.code yX12_writes cX12_writes 2 none :: ALW) { frames := 0, cells := 0, slots := 0, locals := 0 } (va_Pc [.ref (o 0), .int x1] (PZ D y ad av (WM y o σ) sz)) (QZv D (WM y o σ) (WM y o σ2) sz) 0 0 (va_A (WM y o σ) sz) := by
  refine met_v (by decide) (Nat.le_of_ble_eq_true rfl) ?_
  intro p e R s m args below meth c Q A ls hx hb hml hta hown hRc hRs hRf hRl hN hK hV hA hret hC hl
  have hl : lv_has ls 2 [(0, .ref (o 0)), (1, .int x1)] := hl
  unfold f_X12_writes at hf
  refine lv_aload_n hx hb dX12_writes_0 rfl (lv_at hl 0 rfl) ?_
  refine gt_X12_148_m hx hb hta hown hK hC dX12_writes_1 ?_
  refine lv_aload_n hx hb dX12_writes_4 rfl (lv_at hl 0 rfl) ?_
  refine gt_X12_550_m hx hb hta hown hK hC dX12_writes_5 ?_
  refine lv_iload_n hx hb dX12_writes_8 rfl (lv_at hl 1 rfl) ?_
  obtain ⟨hi_1, hf⟩ := ix_inv hf
  obtain ⟨s_1, e_1, hf⟩ := lt_inv hf
  refine as_M_46 hx hb hK hC hi_1 e_1 dX12_writes_9 (fun H locs hC => ?_)
  refine lv_aload_n hx hb dX12_writes_10 rfl (lv_at hl 0 rfl) ?_
  refine lv_dup hx hb dX12_writes_11 rfl ?_
  refine gt_X12_550_m hx hb hta hown hK hC dX12_writes_12 ?_
  refine lv_iconst (v := 1) hx hb dX12_writes_15 (by decide) ?_
  refine lv_iadd hx hb dX12_writes_16 ?_
  obtain ⟨s_2, e_2, hf⟩ := lt_inv hf
  refine pt_X12_550_m hx hb hta hown hK hC e_2 dX12_writes_17 (fun H locs hC => ?_)
  exact hret _ _ _ _ _ (congrArg (WM y o) (Option.some.inj hf)) dX12_writes_20 hC

set_option maxHeartbeats 8000000 in
set_option maxRecDepth 100000 in
theorem rg_X12_writesNumber {D : va_G} {y : Nat → ClassId} {o : Nat → Nat} {ad av : Nat → Nat} : ∀ d : Nat, (∀ {x1 : Int32} {σ : Sto} {σ2 : Sto}, f_X12_writesNumber d x1 σ = some σ2 → ∀ (l : Launch) (sz : Nat), Met l yX12_writesNumber (Cond.code yX12_writesNumber cX12_writesNumber 2 none :: ALW) { frames := d + 1, cells := 0, slots := 0, locals := d * 21 + 21 } (va_Pc [.ref (o 0), .int x1] (PZ D y ad av (WM y o σ) sz)) (QZv D (WM y o σ) (WM y o σ2) sz) 0 0 (va_A (WM y o σ) sz)) := by
  intro d
  induction d with
  | zero => exact fun hc => by have hc : (none : Option (Sto)) = some _ := hc; cases hc
  | succ d ih =>
    have h_X12_writesNumber := @ih
    intro x1 σ σ2 hf l sz
    have hf : b_X12_writesNumber (f_X12_writesNumber d) x1 σ = some σ2 := hf
    refine met_v (by decide) (Nat.le_of_ble_eq_true rfl) ?_
    intro p e R s m args below meth c Q A ls hx hb hml hta hown hRc hRs hRf hRl hN hK hV hA hret hC hl
    have hl : lv_has ls 2 [(0, .ref (o 0)), (1, .int x1)] := hl
    unfold b_X12_writesNumber at hf
    refine lv_iload_n hx hb dX12_writesNumber_0 rfl (lv_at hl 1 rfl) ?_
    refine lv_bipush (v := 9) hx hb dX12_writesNumber_1 (by decide) ?_
    obtain ⟨k_14, hk_14, hf⟩ := jn_inv1 hf
    have hj_14 : ∀ (s_1 : Sto) (H : Heap) (locs : List Loc) (ls : Array Slot), k_14 s_1 = some σ2 → CZ D A s H locs (WM y o s_1) → lv_has ls 2 [(0, .ref (o 0)), (1, .int x1)] → W p l e R s m args below meth c H locs 0 0 Q (F0 m 14 ls []) := by
      intro s_1 H locs ls hf hC hl
      have hf := hk_14 _ hf
      refine lv_aload_n hx hb dX12_writesNumber_14 rfl (lv_at hl 0 rfl) ?_
      refine lv_bipush (v := 48) hx hb dX12_writesNumber_15 (by decide) ?_
      refine lv_iload_n hx hb dX12_writesNumber_17 rfl (lv_at hl 1 rfl) ?_
      refine lv_bipush (v := 10) hx hb dX12_writesNumber_18 (by decide) ?_
      refine lv_irem hx hb dX12_writesNumber_20 (by decide) ?_
      refine lv_iadd hx hb dX12_writesNumber_21 ?_
      obtain ⟨s_2, hc_2, hf⟩ := cals_inv hf
      refine cc_Vv (r_X12_writes (D := D) (y := y) (o := o) (ad := ad) (av := av) hc_2 l) hx hb hml hta hown hK hN hV hA hC hRc hRs (by omega) (by omega) wq_1378 (q := 0) (ci := 12) rfl rfl wq_1379 wq_1380 wq_1012 wq_1376 hd_X12_writes (As := [.int ((48 : Int32) + (x1 - x1 / 10 * 10))]) (rest := []) rfl rfl hl.1 rfl dX12_writesNumber_22 (fun H locs hC => ?_)
      exact hret _ _ _ _ _ (congrArg (WM y o) (Option.some.inj hf)) dX12_writesNumber_25 hC
    refine lv_icmp_le (tgt := 14) hx hb dX12_writesNumber_3 (by decide) (fun c_3 => ?_) (fun c_3 => ?_)
    · have hf := it_t c_3 hf
      exact hj_14 _ _ _ _ hf hC hl
    · have hf := it_f c_3 hf
      refine lv_aload_n hx hb dX12_writesNumber_6 rfl (lv_at hl 0 rfl) ?_
      refine lv_iload_n hx hb dX12_writesNumber_7 rfl (lv_at hl 1 rfl) ?_
      refine lv_bipush (v := 10) hx hb dX12_writesNumber_8 (by decide) ?_
      refine lv_idiv hx hb dX12_writesNumber_10 (by decide) ?_
      obtain ⟨s_4, hc_4, hf⟩ := cals_inv hf
      refine cc_Vv (h_X12_writesNumber hc_4 l) hx hb hml hta hown hK hN hV hA hC hRc hRs (by omega) (by omega) wq_1383 (q := 0) (ci := 12) rfl rfl wq_1384 wq_1385 wq_1012 wq_1382 hd_X12_writesNumber (As := [.int (x1 / 10)]) (rest := []) rfl rfl hl.1 rfl dX12_writesNumber_11 (fun H locs hC => ?_)
      exact hj_14 _ _ _ _ hf hC hl
theorem r_X12_writesNumber (d : Nat) {D : va_G} {y : Nat → ClassId} {o : Nat → Nat} {ad av : Nat → Nat} {x1 : Int32} {σ : Sto} {σ2 : Sto} (hf : f_X12_writesNumber d x1 σ = some σ2) (l : Launch) (sz : Nat) : Met l yX12_writesNumber (Cond.code yX12_writesNumber cX12_writesNumber 2 none :: ALW) { frames := d + 1, cells := 0, slots := 0, locals := d * 21 + 21 } (va_Pc [.ref (o 0), .int x1] (PZ D y ad av (WM y o σ) sz)) (QZv D (WM y o σ) (WM y o σ2) sz) 0 0 (va_A (WM y o σ) sz) := (rg_X12_writesNumber d) hf l sz

set_option maxHeartbeats 8000000 in
set_option maxRecDepth 100000 in
theorem r_X12_writesName {D : va_G} {y : Nat → ClassId} {o : Nat → Nat} {ad av : Nat → Nat} {x1 : Int32} {x2 : Int32} {σ : Sto} {σ2 : Sto} (hf : f_X12_writesName x1 x2 σ = some σ2) (l : Launch) (sz : Nat) : Met l yX12_writesName (Cond.code yX12_writesName cX12_writesName 3 none :: ALW) { frames := 252, cells := 0, slots := 0, locals := 5292 } (va_Pc [.ref (o 0), .int x1, .int x2] (PZ D y ad av (WM y o σ) sz)) (QZv D (WM y o σ) (WM y o σ2) sz) 0 0 (va_A (WM y o σ) sz) := by
  refine met_v (by decide) (Nat.le_of_ble_eq_true rfl) ?_
  intro p e R s m args below meth c Q A ls hx hb hml hta hown hRc hRs hRf hRl hN hK hV hA hret hC hl
  have hl : lv_has ls 3 [(0, .ref (o 0)), (1, .int x1), (2, .int x2)] := hl
  unfold f_X12_writesName at hf
  refine lv_aload_n hx hb dX12_writesName_0 rfl (lv_at hl 0 rfl) ?_
  refine lv_iload_n hx hb dX12_writesName_1 rfl (lv_at hl 1 rfl) ?_
  obtain ⟨s_1, hc_1, hf⟩ := cals_inv hf
  refine cc_Vv (r_X12_writes (D := D) (y := y) (o := o) (ad := ad) (av := av) hc_1 l) hx hb hml hta hown hK hN hV hA hC hRc hRs (by omega) (by omega) wq_1378 (q := 0) (ci := 12) rfl rfl wq_1379 wq_1380 wq_1012 wq_1376 hd_X12_writes (As := [.int x1]) (rest := []) rfl rfl hl.1 rfl dX12_writesName_2 (fun H locs hC => ?_)
  refine lv_aload_n hx hb dX12_writesName_5 rfl (lv_at hl 0 rfl) ?_
  refine lv_iload_n hx hb dX12_writesName_6 rfl (lv_at hl 2 rfl) ?_
  obtain ⟨s_2, hc_2, hf⟩ := cals_inv hf
  refine cc_Vv (r_X12_writesNumber 250 (D := D) (y := y) (o := o) (ad := ad) (av := av) hc_2 l) hx hb hml hta hown hK hN hV hA hC hRc hRs (by omega) (by omega) wq_1383 (q := 0) (ci := 12) rfl rfl wq_1384 wq_1385 wq_1012 wq_1382 hd_X12_writesNumber (As := [.int x2]) (rest := []) rfl rfl hl.1 rfl dX12_writesName_7 (fun H locs hC => ?_)
  exact hret _ _ _ _ _ (congrArg (WM y o) (Option.some.inj hf)) dX12_writesName_10 hC

set_option maxHeartbeats 8000000 in
set_option maxRecDepth 100000 in
theorem r_X12_writesWord_s110 {D : va_G} {y : Nat → ClassId} {o : Nat → Nat} {ad av : Nat → Nat} {σ : Sto} {σ2 : Sto} (hf : f_X12_writesWord_s110 σ = some σ2) (l : Launch) (sz : Nat) : Met l yX12_writesWord (Cond.code yX12_writesWord cX12_writesWord 3 none :: ALW) { frames := 8, cells := 0, slots := 0, locals := 200 } (va_Pc [.ref (o 0), .ref (ad 110)] (PZ D y ad av (WM y o σ) sz)) (QZv D (WM y o σ) (WM y o σ2) sz) 0 0 (va_A (WM y o σ) sz) := by
  refine met_v (by decide) (Nat.le_of_ble_eq_true rfl) ?_
  intro p e R s m args below meth c Q A ls hx hb hml hta hown hRc hRs hRf hRl hN hK hV hA hret hC hl
  have hl : lv_has ls 3 [(0, .ref (o 0)), (1, .ref (ad 110))] := hl
  unfold f_X12_writesWord_s110 at hf
  refine lv_iconst (v := 0) hx hb dX12_writesWord_0 (by decide) ?_
  refine lv_istore_n (lv' := [(2, .int 0), (0, .ref (o 0)), (1, .ref (ad 110))]) hx hb dX12_writesWord_1 rfl hl (by decide) rfl (fun ls hl => ?_)
  refine itr_inv2 (P := fun (x2_1 : Int32) (s_1 : Sto) => ∀ (H : Heap) (locs : List Loc) (ls : Array Slot), CZ D A s H locs (WM y o s_1) → lv_has ls 3 [(0, .ref (o 0)), (1, .ref (ad 110)), (2, .int x2_1)] → W p l e R s m args below meth c H locs 0 0 Q (F0 m 2 ls [])) hf ?_ _ _ _ hC (lv_sub hl [1, 2, 0] rfl)
  intro a_2 x2_1 s_1 ha_2 hf H locs ls hC hl
  refine lv_iload_n hx hb dX12_writesWord_2 rfl (lv_at hl 2 rfl) ?_
  refine lv_aload_n hx hb dX12_writesWord_3 rfl (lv_at hl 1 rfl) ?_
  refine cc_length hx hb hml hta hown hK hN hV hA hC hRc hRs (by omega) (by omega) wq_1039 (i := 110) (n := 2) (by decide) (by decide) (by decide) hl.1 rfl dX12_writesWord_4 (fun H locs hC => ?_)
  refine lv_icmp_ge (tgt := 25) hx hb dX12_writesWord_7 (by decide) (fun c_2 => ?_) (fun c_2 => ?_)
  · have hf := it_t c_2 hf
    exact hret _ _ _ _ _ (congrArg (WM y o) (Option.some.inj hf)) dX12_writesWord_25 hC
  · have hf := it_f c_2 hf
    refine lv_aload_n hx hb dX12_writesWord_10 rfl (lv_at hl 0 rfl) ?_
    refine lv_aload_n hx hb dX12_writesWord_11 rfl (lv_at hl 1 rfl) ?_
    refine lv_iload_n hx hb dX12_writesWord_12 rfl (lv_at hl 2 rfl) ?_
    obtain ⟨hi_3, hf⟩ := ix_inv hf
    obtain ⟨v_3, e_3, hf⟩ := lt_inv hf
    refine cc_charAt hx hb hml hta hown hK hN hV hA hC hRc hRs (by omega) (by omega) wq_1040 (i := 110) (n := 2) (by decide) (by decide) (by decide) hi_3 e_3 hl.1 rfl dX12_writesWord_13 (fun H locs hC => ?_)
    obtain ⟨s_4, hc_4, hf⟩ := cals_inv hf
    refine cc_Vv (r_X12_writes (D := D) (y := y) (o := o) (ad := ad) (av := av) hc_4 l) hx hb hml hta hown hK hN hV hA hC hRc hRs (by omega) (by omega) wq_1378 (q := 0) (ci := 12) rfl rfl wq_1379 wq_1380 wq_1012 wq_1376 hd_X12_writes (As := [.int v_3]) (rest := []) rfl rfl hl.1 rfl dX12_writesWord_16 (fun H locs hC => ?_)
    obtain ⟨x2_5, e_5, hf⟩ := lt_inv hf
    refine lv_iinc (v := x2_5) (lv' := [(2, .int x2_5), (0, .ref (o 0)), (1, .ref (ad 110))]) hx hb dX12_writesWord_19 hl (k := 2) rfl e_5.symm (by decide) rfl (fun ls hl => ?_)
    refine lv_goto (tgt := 2) hx hb dX12_writesWord_22 (by decide) ?_
    exact ha_2 _ _ hf _ _ _ hC (lv_sub hl [1, 2, 0] rfl)

set_option maxHeartbeats 8000000 in
set_option maxRecDepth 100000 in
theorem rg_X12_spells {D : va_G} {y : Nat → ClassId} {o : Nat → Nat} {ad av : Nat → Nat} : ∀ d : Nat, (∀ {x1 : Int32} {σ : Sto} {σ2 : Sto}, f_X12_spells d x1 σ = some σ2 → ∀ (l : Launch) (sz : Nat), Met l yX12_spells (Cond.code yX12_spells cX12_spells 2 none :: ALW) { frames := d + 253, cells := 0, slots := 0, locals := d * 21 + 5314 } (va_Pc [.ref (o 0), .int x1] (PZ D y ad av (WM y o σ) sz)) (QZv D (WM y o σ) (WM y o σ2) sz) 0 0 (va_A (WM y o σ) sz)) := by
  intro d
  induction d with
  | zero => exact fun hc => by have hc : (none : Option (Sto)) = some _ := hc; cases hc
  | succ d ih =>
    have h_X12_spells := @ih
    intro x1 σ σ2 hf l sz
    have hf : b_X12_spells (f_X12_spells d) x1 σ = some σ2 := hf
    refine met_v (by decide) (Nat.le_of_ble_eq_true rfl) ?_
    intro p e R s m args below meth c Q A ls hx hb hml hta hown hRc hRs hRf hRl hN hK hV hA hret hC hl
    have hl : lv_has ls 2 [(0, .ref (o 0)), (1, .int x1)] := hl
    unfold b_X12_spells at hf
    refine lv_aload_n hx hb dX12_spells_0 rfl (lv_at hl 0 rfl) ?_
    refine gt_X12_88_m hx hb hta hown hK hC dX12_spells_1 ?_
    refine lv_iload_n hx hb dX12_spells_4 rfl (lv_at hl 1 rfl) ?_
    obtain ⟨hi_1, hf⟩ := ix_inv hf
    obtain ⟨v_1, e_1, hf⟩ := lt_inv hf
    refine al_M_26 hx hb hK hC hi_1 e_1 dX12_spells_5 ?_
    by_cases h_2_0 : v_1.toInt = 0
    · have hf := it_t h_2_0 hf
      refine lv_tab (tgt := 48) hx hb dX12_spells_6 (Or.inr ⟨42, by omega, by omega, by (rw [h_2_0]; decide), by decide⟩) ?_
      refine lv_aload_n hx hb dX12_spells_48 rfl (lv_at hl 0 rfl) ?_
      refine lv_aload_n hx hb dX12_spells_49 rfl (lv_at hl 0 rfl) ?_
      refine gt_X12_91_m hx hb hta hown hK hC dX12_spells_50 ?_
      refine lv_iload_n hx hb dX12_spells_53 rfl (lv_at hl 1 rfl) ?_
      obtain ⟨hi_3, hf⟩ := ix_inv hf
      obtain ⟨v_3, e_3, hf⟩ := lt_inv hf
      refine al_M_27 hx hb hK hC hi_3 e_3 dX12_spells_54 ?_
      obtain ⟨s_4, hc_4, hf⟩ := cals_inv hf
      refine cc_Vv (r_X12_writesNumber 250 (D := D) (y := y) (o := o) (ad := ad) (av := av) hc_4 l) hx hb hml hta hown hK hN hV hA hC hRc hRs (by omega) (by omega) wq_1383 (q := 0) (ci := 12) rfl rfl wq_1384 wq_1385 wq_1012 wq_1382 hd_X12_writesNumber (As := [.int v_3]) (rest := []) rfl rfl hl.1 rfl dX12_spells_55 (fun H locs hC => ?_)
      exact hret _ _ _ _ _ (congrArg (WM y o) (Option.some.inj hf)) dX12_spells_58 hC
    have hf := it_f h_2_0 hf
    by_cases h_2_1 : v_1.toInt = 1
    · have hf := it_t h_2_1 hf
      refine lv_tab (tgt := 59) hx hb dX12_spells_6 (Or.inr ⟨53, by omega, by omega, by (rw [h_2_1]; decide), by decide⟩) ?_
      refine lv_aload_n hx hb dX12_spells_59 rfl (lv_at hl 0 rfl) ?_
      refine lv_bipush (v := 97) hx hb dX12_spells_60 (by decide) ?_
      refine lv_aload_n hx hb dX12_spells_62 rfl (lv_at hl 0 rfl) ?_
      refine gt_X12_91_m hx hb hta hown hK hC dX12_spells_63 ?_
      refine lv_iload_n hx hb dX12_spells_66 rfl (lv_at hl 1 rfl) ?_
      obtain ⟨hi_5, hf⟩ := ix_inv hf
      obtain ⟨v_5, e_5, hf⟩ := lt_inv hf
      refine al_M_27 hx hb hK hC hi_5 e_5 dX12_spells_67 ?_
      refine lv_iadd hx hb dX12_spells_68 ?_
      obtain ⟨s_6, hc_6, hf⟩ := cals_inv hf
      refine cc_Vv (r_X12_writes (D := D) (y := y) (o := o) (ad := ad) (av := av) hc_6 l) hx hb hml hta hown hK hN hV hA hC hRc hRs (by omega) (by omega) wq_1378 (q := 0) (ci := 12) rfl rfl wq_1379 wq_1380 wq_1012 wq_1376 hd_X12_writes (As := [.int ((97 : Int32) + v_5)]) (rest := []) rfl rfl hl.1 rfl dX12_spells_69 (fun H locs hC => ?_)
      exact hret _ _ _ _ _ (congrArg (WM y o) (Option.some.inj hf)) dX12_spells_72 hC
    have hf := it_f h_2_1 hf
    by_cases h_2_2 : v_1.toInt = 2
    · have hf := it_t h_2_2 hf
      refine lv_tab (tgt := 73) hx hb dX12_spells_6 (Or.inr ⟨67, by omega, by omega, by (rw [h_2_2]; decide), by decide⟩) ?_
      refine lv_aload_n hx hb dX12_spells_73 rfl (lv_at hl 0 rfl) ?_
      refine lv_bipush (v := 116) hx hb dX12_spells_74 (by decide) ?_
      refine lv_aload_n hx hb dX12_spells_76 rfl (lv_at hl 0 rfl) ?_
      refine gt_X12_91_m hx hb hta hown hK hC dX12_spells_77 ?_
      refine lv_iload_n hx hb dX12_spells_80 rfl (lv_at hl 1 rfl) ?_
      obtain ⟨hi_7, hf⟩ := ix_inv hf
      obtain ⟨v_7, e_7, hf⟩ := lt_inv hf
      refine al_M_27 hx hb hK hC hi_7 e_7 dX12_spells_81 ?_
      obtain ⟨s_8, hc_8, hf⟩ := cals_inv hf
      refine cc_Vv (r_X12_writesName (D := D) (y := y) (o := o) (ad := ad) (av := av) hc_8 l) hx hb hml hta hown hK hN hV hA hC hRc hRs (by omega) (by omega) wq_1387 (q := 0) (ci := 12) rfl rfl wq_1388 wq_1389 wq_1012 wq_1386 hd_X12_writesName (As := [.int 116, .int v_7]) (rest := []) rfl rfl hl.1 rfl dX12_spells_82 (fun H locs hC => ?_)
      exact hret _ _ _ _ _ (congrArg (WM y o) (Option.some.inj hf)) dX12_spells_85 hC
    have hf := it_f h_2_2 hf
    by_cases h_2_3 : v_1.toInt = 3
    · have hf := it_t h_2_3 hf
      refine lv_tab (tgt := 86) hx hb dX12_spells_6 (Or.inr ⟨80, by omega, by omega, by (rw [h_2_3]; decide), by decide⟩) ?_
      refine lv_aload_n hx hb dX12_spells_86 rfl (lv_at hl 0 rfl) ?_
      refine lv_bipush (v := 120) hx hb dX12_spells_87 (by decide) ?_
      refine lv_aload_n hx hb dX12_spells_89 rfl (lv_at hl 0 rfl) ?_
      refine gt_X12_91_m hx hb hta hown hK hC dX12_spells_90 ?_
      refine lv_iload_n hx hb dX12_spells_93 rfl (lv_at hl 1 rfl) ?_
      obtain ⟨hi_9, hf⟩ := ix_inv hf
      obtain ⟨v_9, e_9, hf⟩ := lt_inv hf
      refine al_M_27 hx hb hK hC hi_9 e_9 dX12_spells_94 ?_
      obtain ⟨s_10, hc_10, hf⟩ := cals_inv hf
      refine cc_Vv (r_X12_writesName (D := D) (y := y) (o := o) (ad := ad) (av := av) hc_10 l) hx hb hml hta hown hK hN hV hA hC hRc hRs (by omega) (by omega) wq_1387 (q := 0) (ci := 12) rfl rfl wq_1388 wq_1389 wq_1012 wq_1386 hd_X12_writesName (As := [.int 120, .int v_9]) (rest := []) rfl rfl hl.1 rfl dX12_spells_95 (fun H locs hC => ?_)
      exact hret _ _ _ _ _ (congrArg (WM y o) (Option.some.inj hf)) dX12_spells_98 hC
    have hf := it_f h_2_3 hf
    by_cases h_2_4 : v_1.toInt = 4
    · have hf := it_t h_2_4 hf
      refine lv_tab (tgt := 99) hx hb dX12_spells_6 (Or.inr ⟨93, by omega, by omega, by (rw [h_2_4]; decide), by decide⟩) ?_
      refine lv_aload_n hx hb dX12_spells_99 rfl (lv_at hl 0 rfl) ?_
      refine va_ldcSw hx hb hown (ss_Rm hV 10 rfl) dX12_spells_100 ?_
      obtain ⟨s_11, hc_11, hf⟩ := cals_inv hf
      refine cc_Vv (r_X12_writesWord_s110 (D := D) (y := y) (o := o) (ad := ad) (av := av) hc_11 l) hx hb hml hta hown hK hN hV hA hC hRc hRs (by omega) (by omega) wq_1390 (q := 0) (ci := 12) rfl rfl wq_1391 wq_1392 wq_1012 wq_1381 hd_X12_writesWord (As := [.ref (ad 110)]) (rest := []) rfl rfl hl.1 rfl dX12_spells_103 (fun H locs hC => ?_)
      exact hret _ _ _ _ _ (congrArg (WM y o) (Option.some.inj hf)) dX12_spells_106 hC
    have hf := it_f h_2_4 hf
    by_cases h_2_5 : v_1.toInt = 5
    · have hf := it_t h_2_5 hf
      refine lv_tab (tgt := 107) hx hb dX12_spells_6 (Or.inr ⟨101, by omega, by omega, by (rw [h_2_5]; decide), by decide⟩) ?_
      refine lv_aload_n hx hb dX12_spells_107 rfl (lv_at hl 0 rfl) ?_
      refine lv_bipush (v := 33) hx hb dX12_spells_108 (by decide) ?_
      obtain ⟨s_12, hc_12, hf⟩ := cals_inv hf
      refine cc_Vv (r_X12_writes (D := D) (y := y) (o := o) (ad := ad) (av := av) hc_12 l) hx hb hml hta hown hK hN hV hA hC hRc hRs (by omega) (by omega) wq_1378 (q := 0) (ci := 12) rfl rfl wq_1379 wq_1380 wq_1012 wq_1376 hd_X12_writes (As := [.int 33]) (rest := []) rfl rfl hl.1 rfl dX12_spells_110 (fun H locs hC => ?_)
      refine lv_aload_n hx hb dX12_spells_113 rfl (lv_at hl 0 rfl) ?_
      refine lv_aload_n hx hb dX12_spells_114 rfl (lv_at hl 0 rfl) ?_
      refine gt_X12_91_m hx hb hta hown hK hC dX12_spells_115 ?_
      refine lv_iload_n hx hb dX12_spells_118 rfl (lv_at hl 1 rfl) ?_
      obtain ⟨hi_13, hf⟩ := ix_inv hf
      obtain ⟨v_13, e_13, hf⟩ := lt_inv hf
      refine al_M_27 hx hb hK hC hi_13 e_13 dX12_spells_119 ?_
      obtain ⟨s_14, hc_14, hf⟩ := cals_inv hf
      refine cc_Vv (h_X12_spells hc_14 l) hx hb hml hta hown hK hN hV hA hC hRc hRs (by omega) (by omega) wq_1393 (q := 0) (ci := 12) rfl rfl wq_1394 wq_1395 wq_1012 wq_1396 hd_X12_spells (As := [.int v_13]) (rest := []) rfl rfl hl.1 rfl dX12_spells_120 (fun H locs hC => ?_)
      exact hret _ _ _ _ _ (congrArg (WM y o) (Option.some.inj hf)) dX12_spells_123 hC
    have hf := it_f h_2_5 hf
    by_cases h_2_6 : v_1.toInt = 6
    · have hf := it_t h_2_6 hf
      refine lv_tab (tgt := 124) hx hb dX12_spells_6 (Or.inr ⟨118, by omega, by omega, by (rw [h_2_6]; decide), by decide⟩) ?_
      refine lv_aload_n hx hb dX12_spells_124 rfl (lv_at hl 0 rfl) ?_
      refine lv_bipush (v := 45) hx hb dX12_spells_125 (by decide) ?_
      obtain ⟨s_15, hc_15, hf⟩ := cals_inv hf
      refine cc_Vv (r_X12_writes (D := D) (y := y) (o := o) (ad := ad) (av := av) hc_15 l) hx hb hml hta hown hK hN hV hA hC hRc hRs (by omega) (by omega) wq_1378 (q := 0) (ci := 12) rfl rfl wq_1379 wq_1380 wq_1012 wq_1376 hd_X12_writes (As := [.int 45]) (rest := []) rfl rfl hl.1 rfl dX12_spells_127 (fun H locs hC => ?_)
      refine lv_aload_n hx hb dX12_spells_130 rfl (lv_at hl 0 rfl) ?_
      refine lv_aload_n hx hb dX12_spells_131 rfl (lv_at hl 0 rfl) ?_
      refine gt_X12_91_m hx hb hta hown hK hC dX12_spells_132 ?_
      refine lv_iload_n hx hb dX12_spells_135 rfl (lv_at hl 1 rfl) ?_
      obtain ⟨hi_16, hf⟩ := ix_inv hf
      obtain ⟨v_16, e_16, hf⟩ := lt_inv hf
      refine al_M_27 hx hb hK hC hi_16 e_16 dX12_spells_136 ?_
      obtain ⟨s_17, hc_17, hf⟩ := cals_inv hf
      refine cc_Vv (h_X12_spells hc_17 l) hx hb hml hta hown hK hN hV hA hC hRc hRs (by omega) (by omega) wq_1393 (q := 0) (ci := 12) rfl rfl wq_1394 wq_1395 wq_1012 wq_1396 hd_X12_spells (As := [.int v_16]) (rest := []) rfl rfl hl.1 rfl dX12_spells_137 (fun H locs hC => ?_)
      exact hret _ _ _ _ _ (congrArg (WM y o) (Option.some.inj hf)) dX12_spells_140 hC
    have hf := it_f h_2_6 hf
    refine lv_tab (tgt := 141) hx hb dX12_spells_6 (Or.inl ⟨by omega, by decide⟩) ?_
    refine lv_aload_n hx hb dX12_spells_141 rfl (lv_at hl 0 rfl) ?_
    refine lv_bipush (v := 40) hx hb dX12_spells_142 (by decide) ?_
    obtain ⟨s_18, hc_18, hf⟩ := cals_inv hf
    refine cc_Vv (r_X12_writes (D := D) (y := y) (o := o) (ad := ad) (av := av) hc_18 l) hx hb hml hta hown hK hN hV hA hC hRc hRs (by omega) (by omega) wq_1378 (q := 0) (ci := 12) rfl rfl wq_1379 wq_1380 wq_1012 wq_1376 hd_X12_writes (As := [.int 40]) (rest := []) rfl rfl hl.1 rfl dX12_spells_144 (fun H locs hC => ?_)
    refine lv_aload_n hx hb dX12_spells_147 rfl (lv_at hl 0 rfl) ?_
    refine lv_aload_n hx hb dX12_spells_148 rfl (lv_at hl 0 rfl) ?_
    refine gt_X12_91_m hx hb hta hown hK hC dX12_spells_149 ?_
    refine lv_iload_n hx hb dX12_spells_152 rfl (lv_at hl 1 rfl) ?_
    obtain ⟨hi_19, hf⟩ := ix_inv hf
    obtain ⟨v_19, e_19, hf⟩ := lt_inv hf
    refine al_M_27 hx hb hK hC hi_19 e_19 dX12_spells_153 ?_
    obtain ⟨s_20, hc_20, hf⟩ := cals_inv hf
    refine cc_Vv (h_X12_spells hc_20 l) hx hb hml hta hown hK hN hV hA hC hRc hRs (by omega) (by omega) wq_1393 (q := 0) (ci := 12) rfl rfl wq_1394 wq_1395 wq_1012 wq_1396 hd_X12_spells (As := [.int v_19]) (rest := []) rfl rfl hl.1 rfl dX12_spells_154 (fun H locs hC => ?_)
    refine lv_aload_n hx hb dX12_spells_157 rfl (lv_at hl 0 rfl) ?_
    refine lv_aload_n hx hb dX12_spells_158 rfl (lv_at hl 0 rfl) ?_
    refine gt_X12_88_m hx hb hta hown hK hC dX12_spells_159 ?_
    refine lv_iload_n hx hb dX12_spells_162 rfl (lv_at hl 1 rfl) ?_
    obtain ⟨hi_21, hf⟩ := ix_inv hf
    obtain ⟨v_21, e_21, hf⟩ := lt_inv hf
    refine al_M_26 hx hb hK hC hi_21 e_21 dX12_spells_163 ?_
    obtain ⟨s_22, hc_22, hf⟩ := cals_inv hf
    refine cc_Vv (r_X12_writes (D := D) (y := y) (o := o) (ad := ad) (av := av) hc_22 l) hx hb hml hta hown hK hN hV hA hC hRc hRs (by omega) (by omega) wq_1378 (q := 0) (ci := 12) rfl rfl wq_1379 wq_1380 wq_1012 wq_1376 hd_X12_writes (As := [.int v_21]) (rest := []) rfl rfl hl.1 rfl dX12_spells_164 (fun H locs hC => ?_)
    refine lv_aload_n hx hb dX12_spells_167 rfl (lv_at hl 0 rfl) ?_
    refine lv_aload_n hx hb dX12_spells_168 rfl (lv_at hl 0 rfl) ?_
    refine gt_X12_94_m hx hb hta hown hK hC dX12_spells_169 ?_
    refine lv_iload_n hx hb dX12_spells_172 rfl (lv_at hl 1 rfl) ?_
    obtain ⟨hi_23, hf⟩ := ix_inv hf
    obtain ⟨v_23, e_23, hf⟩ := lt_inv hf
    refine al_M_28 hx hb hK hC hi_23 e_23 dX12_spells_173 ?_
    obtain ⟨s_24, hc_24, hf⟩ := cals_inv hf
    refine cc_Vv (h_X12_spells hc_24 l) hx hb hml hta hown hK hN hV hA hC hRc hRs (by omega) (by omega) wq_1393 (q := 0) (ci := 12) rfl rfl wq_1394 wq_1395 wq_1012 wq_1396 hd_X12_spells (As := [.int v_23]) (rest := []) rfl rfl hl.1 rfl dX12_spells_174 (fun H locs hC => ?_)
    refine lv_aload_n hx hb dX12_spells_177 rfl (lv_at hl 0 rfl) ?_
    refine lv_bipush (v := 41) hx hb dX12_spells_178 (by decide) ?_
    obtain ⟨s_25, hc_25, hf⟩ := cals_inv hf
    refine cc_Vv (r_X12_writes (D := D) (y := y) (o := o) (ad := ad) (av := av) hc_25 l) hx hb hml hta hown hK hN hV hA hC hRc hRs (by omega) (by omega) wq_1378 (q := 0) (ci := 12) rfl rfl wq_1379 wq_1380 wq_1012 wq_1376 hd_X12_writes (As := [.int 41]) (rest := []) rfl rfl hl.1 rfl dX12_spells_180 (fun H locs hC => ?_)
    exact hret _ _ _ _ _ (congrArg (WM y o) (Option.some.inj hf)) dX12_spells_183 hC
theorem r_X12_spells (d : Nat) {D : va_G} {y : Nat → ClassId} {o : Nat → Nat} {ad av : Nat → Nat} {x1 : Int32} {σ : Sto} {σ2 : Sto} (hf : f_X12_spells d x1 σ = some σ2) (l : Launch) (sz : Nat) : Met l yX12_spells (Cond.code yX12_spells cX12_spells 2 none :: ALW) { frames := d + 253, cells := 0, slots := 0, locals := d * 21 + 5314 } (va_Pc [.ref (o 0), .int x1] (PZ D y ad av (WM y o σ) sz)) (QZv D (WM y o σ) (WM y o σ2) sz) 0 0 (va_A (WM y o σ) sz) := (rg_X12_spells d) hf l sz

set_option maxHeartbeats 8000000 in
set_option maxRecDepth 100000 in
theorem rg_X12_within {D : va_G} {y : Nat → ClassId} {o : Nat → Nat} {ad av : Nat → Nat} : ∀ d : Nat, (∀ {x1 : Int32} {σ : Sto} {v : Int32}, f_X12_within d x1 σ = some v → ∀ (l : Launch) (sz : Nat), Met l yX12_within (Cond.code yX12_within cX12_within 2 (some .int) :: ALW) { frames := d + 1, cells := 0, slots := 0, locals := d * 21 + 21 } (va_Pc [.ref (o 0), .int x1] (PZ D y ad av (WM y o σ) sz)) (QZi D (WM y o σ) v (WM y o σ) sz) 0 0 (va_A (WM y o σ) sz)) := by
  intro d
  induction d with
  | zero => exact fun hc => by have hc : (none : Option (Int32)) = some _ := hc; cases hc
  | succ d ih =>
    have h_X12_within := @ih
    intro x1 σ v hf l sz
    have hf : b_X12_within (f_X12_within d) x1 σ = some v := hf
    refine met_i (by decide) (Nat.le_of_ble_eq_true rfl) ?_
    intro p e R s m args below meth c Q A ls hx hb hml hta hown hRc hRs hRf hRl hN hK hV hA hret hC hl
    have hl : lv_has ls 2 [(0, .ref (o 0)), (1, .int x1)] := hl
    unfold b_X12_within at hf
    refine lv_aload_n hx hb dX12_within_0 rfl (lv_at hl 0 rfl) ?_
    refine lv_iload_n hx hb dX12_within_1 rfl (lv_at hl 1 rfl) ?_
    obtain ⟨v_1, hc_1, hf⟩ := calp_inv hf
    refine cc_Vi (r_X12_isOne (D := D) (y := y) (o := o) (ad := ad) (av := av) hc_1 l) hx hb hml hta hown hK hN hV hA hC hRc hRs (by omega) (by omega) wq_1174 (q := 0) (ci := 12) rfl rfl wq_1175 wq_1176 wq_1012 wq_1171 hd_X12_isOne (As := [.int x1]) (rest := []) rfl rfl hl.1 rfl dX12_within_2 (fun H locs hC => ?_)
    refine lv_if_eq (tgt := 21) hx hb dX12_within_5 (by decide) (fun c_2 => ?_) (fun c_2 => ?_)
    · have hf := it_t c_2 hf
      refine lv_aload_n hx hb dX12_within_21 rfl (lv_at hl 0 rfl) ?_
      refine lv_iload_n hx hb dX12_within_22 rfl (lv_at hl 1 rfl) ?_
      obtain ⟨v_3, hc_3, hf⟩ := calp_inv hf
      refine cc_Vi (r_X12_isBoth (D := D) (y := y) (o := o) (ad := ad) (av := av) hc_3 l) hx hb hml hta hown hK hN hV hA hC hRc hRs (by omega) (by omega) wq_1180 (q := 0) (ci := 12) rfl rfl wq_1181 wq_1182 wq_1012 wq_1172 hd_X12_isBoth (As := [.int x1]) (rest := []) rfl rfl hl.1 rfl dX12_within_23 (fun H locs hC => ?_)
      refine lv_if_eq (tgt := 55) hx hb dX12_within_26 (by decide) (fun c_4 => ?_) (fun c_4 => ?_)
      · have hf := it_t c_4 hf
        refine lv_iconst (v := 1) hx hb dX12_within_55 (by decide) ?_
        exact hret _ _ _ _ _ _ (Option.some.inj hf) rfl rfl dX12_within_56 hC
      · have hf := it_f c_4 hf
        refine lv_iconst (v := 1) hx hb dX12_within_29 (by decide) ?_
        refine lv_aload_n hx hb dX12_within_30 rfl (lv_at hl 0 rfl) ?_
        refine lv_aload_n hx hb dX12_within_31 rfl (lv_at hl 0 rfl) ?_
        refine gt_X12_91_m hx hb hta hown hK hC dX12_within_32 ?_
        refine lv_iload_n hx hb dX12_within_35 rfl (lv_at hl 1 rfl) ?_
        obtain ⟨hi_5, hf⟩ := ix_inv hf
        obtain ⟨v_5, e_5, hf⟩ := lt_inv hf
        refine al_M_27 hx hb hK hC hi_5 e_5 dX12_within_36 ?_
        obtain ⟨v_6, hc_6, hf⟩ := calp_inv hf
        refine cc_Vi (h_X12_within hc_6 l) hx hb hml hta hown hK hN hV hA hC hRc hRs (by omega) (by omega) wq_1369 (q := 0) (ci := 12) rfl rfl wq_1370 wq_1371 wq_1012 wq_1368 hd_X12_within (As := [.int v_5]) (rest := [.int 1]) rfl rfl hl.1 rfl dX12_within_37 (fun H locs hC => ?_)
        refine lv_iadd hx hb dX12_within_40 ?_
        refine lv_aload_n hx hb dX12_within_41 rfl (lv_at hl 0 rfl) ?_
        refine lv_aload_n hx hb dX12_within_42 rfl (lv_at hl 0 rfl) ?_
        refine gt_X12_94_m hx hb hta hown hK hC dX12_within_43 ?_
        refine lv_iload_n hx hb dX12_within_46 rfl (lv_at hl 1 rfl) ?_
        obtain ⟨hi_7, hf⟩ := ix_inv hf
        obtain ⟨v_7, e_7, hf⟩ := lt_inv hf
        refine al_M_28 hx hb hK hC hi_7 e_7 dX12_within_47 ?_
        obtain ⟨v_8, hc_8, hf⟩ := calp_inv hf
        refine cc_Vi (h_X12_within hc_8 l) hx hb hml hta hown hK hN hV hA hC hRc hRs (by omega) (by omega) wq_1369 (q := 0) (ci := 12) rfl rfl wq_1370 wq_1371 wq_1012 wq_1368 hd_X12_within (As := [.int v_7]) (rest := [.int ((1 : Int32) + v_6)]) rfl rfl hl.1 rfl dX12_within_48 (fun H locs hC => ?_)
        refine lv_iadd hx hb dX12_within_51 ?_
        refine lv_goto (tgt := 56) hx hb dX12_within_52 (by decide) ?_
        exact hret _ _ _ _ _ _ (Option.some.inj hf) rfl rfl dX12_within_56 hC
    · have hf := it_f c_2 hf
      refine lv_iconst (v := 1) hx hb dX12_within_8 (by decide) ?_
      refine lv_aload_n hx hb dX12_within_9 rfl (lv_at hl 0 rfl) ?_
      refine lv_aload_n hx hb dX12_within_10 rfl (lv_at hl 0 rfl) ?_
      refine gt_X12_91_m hx hb hta hown hK hC dX12_within_11 ?_
      refine lv_iload_n hx hb dX12_within_14 rfl (lv_at hl 1 rfl) ?_
      obtain ⟨hi_9, hf⟩ := ix_inv hf
      obtain ⟨v_9, e_9, hf⟩ := lt_inv hf
      refine al_M_27 hx hb hK hC hi_9 e_9 dX12_within_15 ?_
      obtain ⟨v_10, hc_10, hf⟩ := calp_inv hf
      refine cc_Vi (h_X12_within hc_10 l) hx hb hml hta hown hK hN hV hA hC hRc hRs (by omega) (by omega) wq_1369 (q := 0) (ci := 12) rfl rfl wq_1370 wq_1371 wq_1012 wq_1368 hd_X12_within (As := [.int v_9]) (rest := [.int 1]) rfl rfl hl.1 rfl dX12_within_16 (fun H locs hC => ?_)
      refine lv_iadd hx hb dX12_within_19 ?_
      exact hret _ _ _ _ _ _ (Option.some.inj hf) rfl rfl dX12_within_20 hC
theorem r_X12_within (d : Nat) {D : va_G} {y : Nat → ClassId} {o : Nat → Nat} {ad av : Nat → Nat} {x1 : Int32} {σ : Sto} {v : Int32} (hf : f_X12_within d x1 σ = some v) (l : Launch) (sz : Nat) : Met l yX12_within (Cond.code yX12_within cX12_within 2 (some .int) :: ALW) { frames := d + 1, cells := 0, slots := 0, locals := d * 21 + 21 } (va_Pc [.ref (o 0), .int x1] (PZ D y ad av (WM y o σ) sz)) (QZi D (WM y o σ) v (WM y o σ) sz) 0 0 (va_A (WM y o σ) sz) := (rg_X12_within d) hf l sz

set_option maxHeartbeats 8000000 in
set_option maxRecDepth 100000 in
theorem r_X12_statement {D : va_G} {y : Nat → ClassId} {o : Nat → Nat} {ad av : Nat → Nat} {x1 : Int32} {x2 : Int32} {x3 : Int32} {σ : Sto} {σ2 : Sto} {v : Int32} (hf : f_X12_statement x1 x2 x3 σ = some (v, σ2)) (l : Launch) (sz : Nat) : Met l yX12_statement (Cond.code yX12_statement cX12_statement 6 (some .int) :: ALW) { frames := 504, cells := 0, slots := 0, locals := 10585 } (va_Pc [.ref (o 0), .int x1, .int x2, .int x3] (PZ D y ad av (WM y o σ) sz)) (QZi D (WM y o σ) v (WM y o σ2) sz) 0 0 (va_A (WM y o σ) sz) := by
  refine met_i (by decide) (Nat.le_of_ble_eq_true rfl) ?_
  intro p e R s m args below meth c Q A ls hx hb hml hta hown hRc hRs hRf hRl hN hK hV hA hret hC hl
  have hl : lv_has ls 6 [(0, .ref (o 0)), (1, .int x1), (2, .int x2), (3, .int x3)] := hl
  unfold f_X12_statement at hf
  refine lv_aload_n hx hb dX12_statement_0 rfl (lv_at hl 0 rfl) ?_
  refine lv_iconst (v := 0) hx hb dX12_statement_1 (by decide) ?_
  obtain ⟨s_1, e_1, hf⟩ := lt_inv hf
  refine pt_X12_169_m hx hb hta hown hK hC e_1 dX12_statement_2 (fun H locs hC => ?_)
  refine lv_aload_n hx hb dX12_statement_5 rfl (lv_at hl 0 rfl) ?_
  refine lv_iload_n hx hb dX12_statement_6 rfl (lv_at hl 1 rfl) ?_
  obtain ⟨v_2, hc_2, hf⟩ := calp_inv hf
  refine cc_Vi (r_X12_isBlock (D := D) (y := y) (o := o) (ad := ad) (av := av) hc_2 l) hx hb hml hta hown hK hN hV hA hC hRc hRs (by omega) (by omega) wq_1422 (q := 0) (ci := 12) rfl rfl wq_1423 wq_1424 wq_1012 wq_1421 hd_X12_isBlock (As := [.int x1]) (rest := []) rfl rfl hl.1 rfl dX12_statement_7 (fun H locs hC => ?_)
  refine lv_if_eq (tgt := 52) hx hb dX12_statement_10 (by decide) (fun c_3 => ?_) (fun c_3 => ?_)
  · have hf := it_t c_3 hf
    refine lv_ldcw hx hb hown (hta _ wq_1420) dX12_statement_52 ?_
    exact hret _ _ _ _ _ _ (rv_inv hf).1 (congrArg (WM y o) (rv_inv hf).2) rfl dX12_statement_55 hC
  · have hf := it_f c_3 hf
    refine lv_iload_n hx hb dX12_statement_13 rfl (lv_at hl 2 rfl) ?_
    refine lv_i2l hx hb dX12_statement_14 rfl ?_
    refine lv_lconst (v := 0) hx hb dX12_statement_15 rfl ?_
    refine lv_aload_n hx hb dX12_statement_16 rfl (lv_at hl 0 rfl) ?_
    refine gt_X12_106_m hx hb hta hown hK hC dX12_statement_17 ?_
    refine lv_iload_n hx hb dX12_statement_20 rfl (lv_at hl 1 rfl) ?_
    refine lv_iconst (v := 1) hx hb dX12_statement_21 (by decide) ?_
    refine lv_iadd hx hb dX12_statement_22 ?_
    obtain ⟨hi_4, hf⟩ := ix_inv hf
    obtain ⟨v_4, e_4, hf⟩ := lt_inv hf
    refine al_M_32 hx hb hK hC hi_4 e_4 dX12_statement_23 ?_
    refine lv_aload_n hx hb dX12_statement_24 rfl (lv_at hl 0 rfl) ?_
    refine gt_X12_106_m hx hb hta hown hK hC dX12_statement_25 ?_
    refine lv_iload_n hx hb dX12_statement_28 rfl (lv_at hl 1 rfl) ?_
    obtain ⟨hi_5, hf⟩ := ix_inv hf
    obtain ⟨v_5, e_5, hf⟩ := lt_inv hf
    refine al_M_32 hx hb hK hC hi_5 e_5 dX12_statement_29 ?_
    refine lv_isub hx hb dX12_statement_30 ?_
    refine lv_iconst (v := 1) hx hb dX12_statement_31 (by decide) ?_
    refine lv_isub hx hb dX12_statement_32 ?_
    refine lv_i2l hx hb dX12_statement_33 rfl ?_
    obtain ⟨v_6, hc_6, hf⟩ := calp_inv hf
    refine cc_Si (r_X12_isIn (D := D) (y := y) (w := WM y o s_1) (ad := ad) (av := av) hc_6 l) hx hb hml hta hown hK hN hV hA hC hRc hRs (by omega) (by omega) wq_1362 wq_1363 wq_1012 wq_1007 hd_X12_isIn (As := [.long x2.toInt64, .long 0, .long (((v_4 - v_5) - 1).toInt64)]) (rest := []) rfl rfl hl.1 rfl dX12_statement_34 (fun H locs hC => ?_)
    refine lv_if_eq (tgt := 52) hx hb dX12_statement_37 (by decide) (fun c_7 => ?_) (fun c_7 => ?_)
    · have hf := it_t c_7 hf
      refine lv_ldcw hx hb hown (hta _ wq_1420) dX12_statement_52 ?_
      exact hret _ _ _ _ _ _ (rv_inv hf).1 (congrArg (WM y o) (rv_inv hf).2) rfl dX12_statement_55 hC
    · have hf := it_f c_7 hf
      refine lv_iload_n hx hb dX12_statement_40 rfl (lv_at hl 3 rfl) ?_
      refine lv_i2l hx hb dX12_statement_41 rfl ?_
      refine lv_lconst (v := 0) hx hb dX12_statement_42 rfl ?_
      refine lv_ldc2 hx hb hown (hta _ wq_1426) dX12_statement_43 ?_
      obtain ⟨v_8, hc_8, hf⟩ := calp_inv hf
      refine cc_Si (r_X12_isIn (D := D) (y := y) (w := WM y o s_1) (ad := ad) (av := av) hc_8 l) hx hb hml hta hown hK hN hV hA hC hRc hRs (by omega) (by omega) wq_1362 wq_1363 wq_1012 wq_1007 hd_X12_isIn (As := [.long x3.toInt64, .long 0, .long 4]) (rest := []) rfl rfl hl.1 rfl dX12_statement_46 (fun H locs hC => ?_)
      refine lv_if_ne (tgt := 56) hx hb dX12_statement_49 (by decide) (fun c_9 => ?_) (fun c_9 => ?_)
      · have hf := it_f c_9 hf
        refine lv_aload_n hx hb dX12_statement_56 rfl (lv_at hl 0 rfl) ?_
        refine gt_X12_106_m hx hb hta hown hK hC dX12_statement_57 ?_
        refine lv_iload_n hx hb dX12_statement_60 rfl (lv_at hl 1 rfl) ?_
        obtain ⟨hi_10, hf⟩ := ix_inv hf
        obtain ⟨v_10, e_10, hf⟩ := lt_inv hf
        refine al_M_32 hx hb hK hC hi_10 e_10 dX12_statement_61 ?_
        refine lv_iload_n hx hb dX12_statement_62 rfl (lv_at hl 2 rfl) ?_
        refine lv_iadd hx hb dX12_statement_63 ?_
        obtain ⟨x4_11, e_11, hf⟩ := lt_inv hf
        refine nmi e_11 ?_
        refine lv_istore (lv' := [(4, .int x4_11), (0, .ref (o 0)), (1, .int x1), (2, .int x2), (3, .int x3)]) hx hb dX12_statement_64 hl (by decide) rfl (fun ls hl => ?_)
        refine lv_aload_n hx hb dX12_statement_66 rfl (lv_at hl 1 rfl) ?_
        refine gt_X12_103_m hx hb hta hown hK hC dX12_statement_67 ?_
        refine lv_iload hx hb dX12_statement_70 (lv_at hl 0 rfl) ?_
        obtain ⟨hi_12, hf⟩ := ix_inv hf
        obtain ⟨v_12, e_12, hf⟩ := lt_inv hf
        refine al_M_31 hx hb hK hC hi_12 e_12 dX12_statement_72 ?_
        refine lv_istore (lv' := [(5, .int v_12), (4, .int x4_11), (0, .ref (o 0)), (1, .int x1), (2, .int x2), (3, .int x3)]) hx hb dX12_statement_73 hl (by decide) rfl (fun ls hl => ?_)
        refine lv_iload_n hx hb dX12_statement_75 rfl (lv_at hl 5 rfl) ?_
        refine lv_if_ne (tgt := 87) hx hb dX12_statement_76 (by decide) (fun c_13 => ?_) (fun c_13 => ?_)
        · have hf := it_f c_13 hf
          refine lv_iload_n hx hb dX12_statement_87 rfl (lv_at hl 5 rfl) ?_
          refine lv_iconst (v := 1) hx hb dX12_statement_88 (by decide) ?_
          refine lv_icmp_ne (tgt := 100) hx hb dX12_statement_89 (by decide) (fun c_15 => ?_) (fun c_15 => ?_)
          · have hf := it_f c_15 hf
            refine lv_iload hx hb dX12_statement_100 (lv_at hl 0 rfl) ?_
            refine lv_iconst (v := (-1)) hx hb dX12_statement_102 (by decide) ?_
            refine lv_icmp_ne (tgt := 108) hx hb dX12_statement_103 (by decide) (fun c_17 => ?_) (fun c_17 => ?_)
            · have hf := it_f c_17 hf
              refine lv_aload_n hx hb dX12_statement_108 rfl (lv_at hl 2 rfl) ?_
              refine lv_iconst (v := 0) hx hb dX12_statement_109 (by decide) ?_
              obtain ⟨s_18, e_18, hf⟩ := lt_inv hf
              refine pt_X12_550_m hx hb hta hown hK hC e_18 dX12_statement_110 (fun H locs hC => ?_)
              refine lv_aload_n hx hb dX12_statement_113 rfl (lv_at hl 2 rfl) ?_
              refine lv_iload hx hb dX12_statement_114 (lv_at hl 0 rfl) ?_
              obtain ⟨s_19, hc_19, hf⟩ := cals_inv hf
              refine cc_Vv (r_X12_spells 250 (D := D) (y := y) (o := o) (ad := ad) (av := av) hc_19 l) hx hb hml hta hown hK hN hV hA hC hRc hRs (by omega) (by omega) wq_1393 (q := 0) (ci := 12) rfl rfl wq_1394 wq_1395 wq_1012 wq_1396 hd_X12_spells (As := [.int v_12]) (rest := []) rfl rfl hl.1 rfl dX12_statement_116 (fun H locs hC => ?_)
              refine lv_iload_n hx hb dX12_statement_119 rfl (lv_at hl 5 rfl) ?_
              refine lv_iconst (v := 2) hx hb dX12_statement_120 (by decide) ?_
              refine lv_icmp_ne (tgt := 131) hx hb dX12_statement_121 (by decide) (fun c_20 => ?_) (fun c_20 => ?_)
              · have hf := it_f c_20 hf
                refine lv_iload_n hx hb dX12_statement_131 rfl (lv_at hl 5 rfl) ?_
                refine lv_iconst (v := 3) hx hb dX12_statement_132 (by decide) ?_
                refine lv_icmp_ne (tgt := 153) hx hb dX12_statement_133 (by decide) (fun c_21 => ?_) (fun c_21 => ?_)
                · have hf := it_f c_21 hf
                  refine lv_aload_n hx hb dX12_statement_153 rfl (lv_at hl 2 rfl) ?_
                  refine lv_iload hx hb dX12_statement_154 (lv_at hl 0 rfl) ?_
                  obtain ⟨v_24, hc_24, hf⟩ := calp_inv hf
                  refine cc_Vi (r_X12_within 250 (D := D) (y := y) (o := o) (ad := ad) (av := av) hc_24 l) hx hb hml hta hown hK hN hV hA hC hRc hRs (by omega) (by omega) wq_1369 (q := 0) (ci := 12) rfl rfl wq_1370 wq_1371 wq_1012 wq_1368 hd_X12_within (As := [.int v_12]) (rest := []) rfl rfl hl.1 rfl dX12_statement_156 (fun H locs hC => ?_)
                  exact hret _ _ _ _ _ _ (rv_inv hf).1 (congrArg (WM y o) (rv_inv hf).2) rfl dX12_statement_159 hC
                · have hf := it_t c_21 hf
                  refine lv_aload_n hx hb dX12_statement_136 rfl (lv_at hl 2 rfl) ?_
                  refine lv_iload hx hb dX12_statement_137 (lv_at hl 0 rfl) ?_
                  obtain ⟨v_22, hc_22, hf⟩ := calp_inv hf
                  refine cc_Vi (r_X12_hasEffects 250 (D := D) (y := y) (o := o) (ad := ad) (av := av) hc_22 l) hx hb hml hta hown hK hN hV hA hC hRc hRs (by omega) (by omega) wq_1177 (q := 0) (ci := 12) rfl rfl wq_1178 wq_1179 wq_1012 wq_1173 hd_X12_hasEffects (As := [.int v_12]) (rest := []) rfl rfl hl.1 rfl dX12_statement_139 (fun H locs hC => ?_)
                  refine lv_if_eq (tgt := 149) hx hb dX12_statement_142 (by decide) (fun c_23 => ?_) (fun c_23 => ?_)
                  · have hf := it_t c_23 hf
                    refine lv_iconst (v := 0) hx hb dX12_statement_149 (by decide) ?_
                    refine lv_goto (tgt := 159) hx hb dX12_statement_150 (by decide) ?_
                    exact hret _ _ _ _ _ _ (rv_inv hf).1 (congrArg (WM y o) (rv_inv hf).2) rfl dX12_statement_159 hC
                  · have hf := it_f c_23 hf
                    refine lv_iconst (v := 1) hx hb dX12_statement_145 (by decide) ?_
                    refine lv_goto (tgt := 159) hx hb dX12_statement_146 (by decide) ?_
                    exact hret _ _ _ _ _ _ (rv_inv hf).1 (congrArg (WM y o) (rv_inv hf).2) rfl dX12_statement_159 hC
              · have hf := it_t c_20 hf
                refine lv_aload_n hx hb dX12_statement_124 rfl (lv_at hl 2 rfl) ?_
                refine gt_X12_550_m hx hb hta hown hK hC dX12_statement_125 ?_
                refine lv_goto (tgt := 159) hx hb dX12_statement_128 (by decide) ?_
                exact hret _ _ _ _ _ _ (rv_inv hf).1 (congrArg (WM y o) (rv_inv hf).2) rfl dX12_statement_159 hC
            · have hf := it_t c_17 hf
              refine lv_iconst (v := 0) hx hb dX12_statement_106 (by decide) ?_
              exact hret _ _ _ _ _ _ (rv_inv hf).1 (congrArg (WM y o) (rv_inv hf).2) rfl dX12_statement_107 hC
          · have hf := it_t c_15 hf
            refine lv_aload_n hx hb dX12_statement_92 rfl (lv_at hl 2 rfl) ?_
            refine gt_X12_100_m hx hb hta hown hK hC dX12_statement_93 ?_
            refine lv_iload hx hb dX12_statement_96 (lv_at hl 1 rfl) ?_
            obtain ⟨hi_16, hf⟩ := ix_inv hf
            obtain ⟨v_16, e_16, hf⟩ := lt_inv hf
            refine al_M_30 hx hb hK hC hi_16 e_16 dX12_statement_98 ?_
            exact hret _ _ _ _ _ _ (rv_inv hf).1 (congrArg (WM y o) (rv_inv hf).2) rfl dX12_statement_99 hC
        · have hf := it_t c_13 hf
          refine lv_aload_n hx hb dX12_statement_79 rfl (lv_at hl 2 rfl) ?_
          refine gt_X12_97_m hx hb hta hown hK hC dX12_statement_80 ?_
          refine lv_iload hx hb dX12_statement_83 (lv_at hl 1 rfl) ?_
          obtain ⟨hi_14, hf⟩ := ix_inv hf
          obtain ⟨v_14, e_14, hf⟩ := lt_inv hf
          refine al_M_29 hx hb hK hC hi_14 e_14 dX12_statement_85 ?_
          exact hret _ _ _ _ _ _ (rv_inv hf).1 (congrArg (WM y o) (rv_inv hf).2) rfl dX12_statement_86 hC
      · have hf := it_t c_9 hf
        refine lv_ldcw hx hb hown (hta _ wq_1420) dX12_statement_52 ?_
        exact hret _ _ _ _ _ _ (rv_inv hf).1 (congrArg (WM y o) (rv_inv hf).2) rfl dX12_statement_55 hC

set_option maxHeartbeats 8000000 in
set_option maxRecDepth 100000 in
theorem r_X12_told {D : va_G} {y : Nat → ClassId} {o : Nat → Nat} {ad av : Nat → Nat} {x1 : Int32} {σ : Sto} {v : Int32} (hf : f_X12_told x1 σ = some v) (l : Launch) (sz : Nat) : Met l yX12_told (Cond.code yX12_told cX12_told 2 (some .int) :: ALW) { frames := 1, cells := 0, slots := 0, locals := 25 } (va_Pc [.ref (o 0), .int x1] (PZ D y ad av (WM y o σ) sz)) (QZi D (WM y o σ) v (WM y o σ) sz) 0 0 (va_A (WM y o σ) sz) := by
  refine met_i (by decide) (Nat.le_of_ble_eq_true rfl) ?_
  intro p e R s m args below meth c Q A ls hx hb hml hta hown hRc hRs hRf hRl hN hK hV hA hret hC hl
  have hl : lv_has ls 2 [(0, .ref (o 0)), (1, .int x1)] := hl
  unfold f_X12_told at hf
  refine lv_iload_n hx hb dX12_told_0 rfl (lv_at hl 1 rfl) ?_
  refine lv_iconst (v := (-1)) hx hb dX12_told_1 (by decide) ?_
  refine lv_icmp_ne (tgt := 12) hx hb dX12_told_2 (by decide) (fun c_1 => ?_) (fun c_1 => ?_)
  · have hf := it_f c_1 hf
    refine lv_iload_n hx hb dX12_told_12 rfl (lv_at hl 1 rfl) ?_
    refine lv_i2l hx hb dX12_told_13 rfl ?_
    refine lv_lconst (v := 0) hx hb dX12_told_14 rfl ?_
    refine lv_aload_n hx hb dX12_told_15 rfl (lv_at hl 0 rfl) ?_
    refine gt_X12_550_m hx hb hta hown hK hC dX12_told_16 ?_
    refine lv_iconst (v := 1) hx hb dX12_told_19 (by decide) ?_
    refine lv_isub hx hb dX12_told_20 ?_
    refine lv_i2l hx hb dX12_told_21 rfl ?_
    obtain ⟨v_2, hc_2, hf⟩ := calp_inv hf
    refine cc_Si (r_X12_isIn (D := D) (y := y) (w := WM y o σ) (ad := ad) (av := av) hc_2 l) hx hb hml hta hown hK hN hV hA hC hRc hRs (by omega) (by omega) wq_1362 wq_1363 wq_1012 wq_1007 hd_X12_isIn (As := [.long x1.toInt64, .long 0, .long (((σ.1 66 0) - 1).toInt64)]) (rest := []) rfl rfl hl.1 rfl dX12_told_22 (fun H locs hC => ?_)
    refine lv_if_eq (tgt := 37) hx hb dX12_told_25 (by decide) (fun c_3 => ?_) (fun c_3 => ?_)
    · have hf := it_t c_3 hf
      refine lv_iconst (v := (-1)) hx hb dX12_told_37 (by decide) ?_
      exact hret _ _ _ _ _ _ (Option.some.inj hf) rfl rfl dX12_told_38 hC
    · have hf := it_f c_3 hf
      refine lv_aload_n hx hb dX12_told_28 rfl (lv_at hl 0 rfl) ?_
      refine gt_X12_148_m hx hb hta hown hK hC dX12_told_29 ?_
      refine lv_iload_n hx hb dX12_told_32 rfl (lv_at hl 1 rfl) ?_
      obtain ⟨hi_4, hf⟩ := ix_inv hf
      obtain ⟨v_4, e_4, hf⟩ := lt_inv hf
      refine al_M_46 hx hb hK hC hi_4 e_4 dX12_told_33 ?_
      refine lv_goto (tgt := 38) hx hb dX12_told_34 (by decide) ?_
      exact hret _ _ _ _ _ _ (Option.some.inj hf) rfl rfl dX12_told_38 hC
  · have hf := it_t c_1 hf
    refine lv_aload_n hx hb dX12_told_5 rfl (lv_at hl 0 rfl) ?_
    refine gt_X12_550_m hx hb hta hown hK hC dX12_told_6 ?_
    refine lv_goto (tgt := 38) hx hb dX12_told_9 (by decide) ?_
    exact hret _ _ _ _ _ _ (Option.some.inj hf) rfl rfl dX12_told_38 hC

set_option maxHeartbeats 8000000 in
set_option maxRecDepth 100000 in
theorem r_X12_condition {D : va_G} {y : Nat → ClassId} {o : Nat → Nat} {ad av : Nat → Nat} {x1 : Int32} {x2 : Int32} {σ : Sto} {σ2 : Sto} {v : Int32} (hf : f_X12_condition x1 x2 σ = some (v, σ2)) (l : Launch) (sz : Nat) : Met l yX12_condition (Cond.code yX12_condition cX12_condition 3 (some .int) :: ALW) { frames := 504, cells := 0, slots := 0, locals := 10585 } (va_Pc [.ref (o 0), .int x1, .int x2] (PZ D y ad av (WM y o σ) sz)) (QZi D (WM y o σ) v (WM y o σ2) sz) 0 0 (va_A (WM y o σ) sz) := by
  refine met_i (by decide) (Nat.le_of_ble_eq_true rfl) ?_
  intro p e R s m args below meth c Q A ls hx hb hml hta hown hRc hRs hRf hRl hN hK hV hA hret hC hl
  have hl : lv_has ls 3 [(0, .ref (o 0)), (1, .int x1), (2, .int x2)] := hl
  unfold f_X12_condition at hf
  refine lv_aload_n hx hb dX12_condition_0 rfl (lv_at hl 0 rfl) ?_
  refine lv_iconst (v := 0) hx hb dX12_condition_1 (by decide) ?_
  obtain ⟨s_1, e_1, hf⟩ := lt_inv hf
  refine pt_X12_169_m hx hb hta hown hK hC e_1 dX12_condition_2 (fun H locs hC => ?_)
  refine lv_aload_n hx hb dX12_condition_5 rfl (lv_at hl 0 rfl) ?_
  refine lv_iload_n hx hb dX12_condition_6 rfl (lv_at hl 1 rfl) ?_
  obtain ⟨v_2, hc_2, hf⟩ := calp_inv hf
  refine cc_Vi (r_X12_isBlock (D := D) (y := y) (o := o) (ad := ad) (av := av) hc_2 l) hx hb hml hta hown hK hN hV hA hC hRc hRs (by omega) (by omega) wq_1422 (q := 0) (ci := 12) rfl rfl wq_1423 wq_1424 wq_1012 wq_1421 hd_X12_isBlock (As := [.int x1]) (rest := []) rfl rfl hl.1 rfl dX12_condition_7 (fun H locs hC => ?_)
  refine lv_if_eq (tgt := 23) hx hb dX12_condition_10 (by decide) (fun c_3 => ?_) (fun c_3 => ?_)
  · have hf := it_t c_3 hf
    refine lv_iconst (v := (-1)) hx hb dX12_condition_23 (by decide) ?_
    exact hret _ _ _ _ _ _ (rv_inv hf).1 (congrArg (WM y o) (rv_inv hf).2) rfl dX12_condition_24 hC
  · have hf := it_f c_3 hf
    refine lv_aload_n hx hb dX12_condition_13 rfl (lv_at hl 0 rfl) ?_
    refine gt_X12_109_m hx hb hta hown hK hC dX12_condition_14 ?_
    refine lv_iload_n hx hb dX12_condition_17 rfl (lv_at hl 1 rfl) ?_
    obtain ⟨hi_4, hf⟩ := ix_inv hf
    obtain ⟨v_4, e_4, hf⟩ := lt_inv hf
    refine al_M_33 hx hb hK hC hi_4 e_4 dX12_condition_18 ?_
    refine lv_iconst (v := (-1)) hx hb dX12_condition_19 (by decide) ?_
    refine lv_icmp_ne (tgt := 25) hx hb dX12_condition_20 (by decide) (fun c_5 => ?_) (fun c_5 => ?_)
    · have hf := it_f c_5 hf
      refine lv_aload_n hx hb dX12_condition_25 rfl (lv_at hl 0 rfl) ?_
      refine lv_iconst (v := 0) hx hb dX12_condition_26 (by decide) ?_
      obtain ⟨s_6, e_6, hf⟩ := lt_inv hf
      refine pt_X12_550_m hx hb hta hown hK hC e_6 dX12_condition_27 (fun H locs hC => ?_)
      refine lv_aload_n hx hb dX12_condition_30 rfl (lv_at hl 0 rfl) ?_
      refine lv_aload_n hx hb dX12_condition_31 rfl (lv_at hl 0 rfl) ?_
      refine gt_X12_109_m hx hb hta hown hK hC dX12_condition_32 ?_
      refine lv_iload_n hx hb dX12_condition_35 rfl (lv_at hl 1 rfl) ?_
      obtain ⟨hi_7, hf⟩ := ix_inv hf
      obtain ⟨v_7, e_7, hf⟩ := lt_inv hf
      refine al_M_33 hx hb hK hC hi_7 e_7 dX12_condition_36 ?_
      obtain ⟨s_8, hc_8, hf⟩ := cals_inv hf
      refine cc_Vv (r_X12_spells 250 (D := D) (y := y) (o := o) (ad := ad) (av := av) hc_8 l) hx hb hml hta hown hK hN hV hA hC hRc hRs (by omega) (by omega) wq_1393 (q := 0) (ci := 12) rfl rfl wq_1394 wq_1395 wq_1012 wq_1396 hd_X12_spells (As := [.int v_7]) (rest := []) rfl rfl hl.1 rfl dX12_condition_37 (fun H locs hC => ?_)
      refine lv_aload_n hx hb dX12_condition_40 rfl (lv_at hl 0 rfl) ?_
      refine lv_iload_n hx hb dX12_condition_41 rfl (lv_at hl 2 rfl) ?_
      obtain ⟨v_9, hc_9, hf⟩ := calp_inv hf
      refine cc_Vi (r_X12_told (D := D) (y := y) (o := o) (ad := ad) (av := av) hc_9 l) hx hb hml hta hown hK hN hV hA hC hRc hRs (by omega) (by omega) wq_1414 (q := 0) (ci := 12) rfl rfl wq_1415 wq_1416 wq_1012 wq_1406 hd_X12_told (As := [.int x2]) (rest := []) rfl rfl hl.1 rfl dX12_condition_42 (fun H locs hC => ?_)
      exact hret _ _ _ _ _ _ (rv_inv hf).1 (congrArg (WM y o) (rv_inv hf).2) rfl dX12_condition_45 hC
    · have hf := it_t c_5 hf
      refine lv_iconst (v := (-1)) hx hb dX12_condition_23 (by decide) ?_
      exact hret _ _ _ _ _ _ (rv_inv hf).1 (congrArg (WM y o) (rv_inv hf).2) rfl dX12_condition_24 hC

set_option maxHeartbeats 8000000 in
set_option maxRecDepth 100000 in
theorem r_X12_isLine {D : va_G} {y : Nat → ClassId} {o : Nat → Nat} {ad av : Nat → Nat} {x1 : Int32} {σ : Sto} {v : Int32} (hf : f_X12_isLine x1 σ = some v) (l : Launch) (sz : Nat) : Met l yX12_isLine (Cond.code yX12_isLine cX12_isLine 2 (some .boolean) :: ALW) { frames := 1, cells := 0, slots := 0, locals := 25 } (va_Pc [.ref (o 0), .int x1] (PZ D y ad av (WM y o σ) sz)) (QZi D (WM y o σ) v (WM y o σ) sz) 0 0 (va_A (WM y o σ) sz) := by
  refine met_i (by decide) (Nat.le_of_ble_eq_true rfl) ?_
  intro p e R s m args below meth c Q A ls hx hb hml hta hown hRc hRs hRf hRl hN hK hV hA hret hC hl
  have hl : lv_has ls 2 [(0, .ref (o 0)), (1, .int x1)] := hl
  unfold f_X12_isLine at hf
  refine lv_aload_n hx hb dX12_isLine_0 rfl (lv_at hl 0 rfl) ?_
  refine gt_X12_292_m hx hb hta hown hK hC dX12_isLine_1 ?_
  obtain ⟨k_35, hk_35, hf⟩ := jn_inv0 hf
  have hj_35 : ∀  (H : Heap) (locs : List Loc) (ls : Array Slot), k_35 = some v → CZ D A s H locs (WM y o σ) → lv_has ls 2 [] → W p l e R s m args below meth c H locs 0 0 Q (F0 m 35 ls []) := by
    intro H locs ls hf hC hl
    have hf := hk_35 hf
    refine lv_iconst (v := 0) hx hb dX12_isLine_35 (by decide) ?_
    exact hret _ _ _ _ _ _ (Option.some.inj hf) rfl rfl dX12_isLine_36 hC
  refine lv_if_eq (tgt := 35) hx hb dX12_isLine_4 (by decide) (fun c_2 => ?_) (fun c_2 => ?_)
  · have hf := it_t c_2 hf
    exact hj_35 _ _ _ hf hC (lv_sub hl [] rfl)
  · have hf := it_f c_2 hf
    refine lv_aload_n hx hb dX12_isLine_7 rfl (lv_at hl 0 rfl) ?_
    refine gt_X12_358_m hx hb hta hown hK hC dX12_isLine_8 ?_
    refine lv_iconst (v := (-1)) hx hb dX12_isLine_11 (by decide) ?_
    refine lv_icmp_eq (tgt := 35) hx hb dX12_isLine_12 (by decide) (fun c_3 => ?_) (fun c_3 => ?_)
    · have hf := it_t c_3 hf
      exact hj_35 _ _ _ hf hC (lv_sub hl [] rfl)
    · have hf := it_f c_3 hf
      refine lv_iload_n hx hb dX12_isLine_15 rfl (lv_at hl 1 rfl) ?_
      refine lv_i2l hx hb dX12_isLine_16 rfl ?_
      refine lv_lconst (v := 0) hx hb dX12_isLine_17 rfl ?_
      refine lv_aload_n hx hb dX12_isLine_18 rfl (lv_at hl 0 rfl) ?_
      refine gt_X12_479_m hx hb hta hown hK hC dX12_isLine_19 ?_
      refine lv_iconst (v := 1) hx hb dX12_isLine_22 (by decide) ?_
      refine lv_isub hx hb dX12_isLine_23 ?_
      refine lv_i2l hx hb dX12_isLine_24 rfl ?_
      obtain ⟨v_4, hc_4, hf⟩ := calp_inv hf
      refine cc_Si (r_X12_isIn (D := D) (y := y) (w := WM y o σ) (ad := ad) (av := av) hc_4 l) hx hb hml hta hown hK hN hV hA hC hRc hRs (by omega) (by omega) wq_1362 wq_1363 wq_1012 wq_1007 hd_X12_isIn (As := [.long x1.toInt64, .long 0, .long (((σ.1 62 0) - 1).toInt64)]) (rest := []) rfl rfl hl.1 rfl dX12_isLine_25 (fun H locs hC => ?_)
      refine lv_if_eq (tgt := 35) hx hb dX12_isLine_28 (by decide) (fun c_5 => ?_) (fun c_5 => ?_)
      · have hf := it_t c_5 hf
        exact hj_35 _ _ _ hf hC (lv_sub hl [] rfl)
      · have hf := it_f c_5 hf
        refine lv_iconst (v := 1) hx hb dX12_isLine_31 (by decide) ?_
        refine lv_goto (tgt := 36) hx hb dX12_isLine_32 (by decide) ?_
        exact hret _ _ _ _ _ _ (Option.some.inj hf) rfl rfl dX12_isLine_36 hC

set_option maxHeartbeats 8000000 in
set_option maxRecDepth 100000 in
theorem r_X12_line_ {D : va_G} {y : Nat → ClassId} {o : Nat → Nat} {ad av : Nat → Nat} {x1 : Int32} {x2 : Int32} {σ : Sto} {σ2 : Sto} {v : Int32} (hf : f_X12_line_ x1 x2 σ = some (v, σ2)) (l : Launch) (sz : Nat) : Met l yX12_line_ (Cond.code yX12_line_ cX12_line_ 3 (some .int) :: ALW) { frames := 2, cells := 0, slots := 0, locals := 46 } (va_Pc [.ref (o 0), .int x1, .int x2] (PZ D y ad av (WM y o σ) sz)) (QZi D (WM y o σ) v (WM y o σ2) sz) 0 0 (va_A (WM y o σ) sz) := by
  refine met_i (by decide) (Nat.le_of_ble_eq_true rfl) ?_
  intro p e R s m args below meth c Q A ls hx hb hml hta hown hRc hRs hRf hRl hN hK hV hA hret hC hl
  have hl : lv_has ls 3 [(0, .ref (o 0)), (1, .int x1), (2, .int x2)] := hl
  unfold f_X12_line_ at hf
  refine lv_aload_n hx hb dX12_line__0 rfl (lv_at hl 0 rfl) ?_
  refine lv_iconst (v := 0) hx hb dX12_line__1 (by decide) ?_
  obtain ⟨s_1, e_1, hf⟩ := lt_inv hf
  refine pt_X12_169_m hx hb hta hown hK hC e_1 dX12_line__2 (fun H locs hC => ?_)
  refine lv_aload_n hx hb dX12_line__5 rfl (lv_at hl 0 rfl) ?_
  refine lv_iload_n hx hb dX12_line__6 rfl (lv_at hl 1 rfl) ?_
  obtain ⟨v_2, hc_2, hf⟩ := calp_inv hf
  refine cc_Vi (r_X12_isLine (D := D) (y := y) (o := o) (ad := ad) (av := av) hc_2 l) hx hb hml hta hown hK hN hV hA hC hRc hRs (by omega) (by omega) wq_1408 (q := 0) (ci := 12) rfl rfl wq_1409 wq_1410 wq_1012 wq_1407 hd_X12_isLine (As := [.int x1]) (rest := []) rfl rfl hl.1 rfl dX12_line__7 (fun H locs hC => ?_)
  refine lv_if_eq (tgt := 25) hx hb dX12_line__10 (by decide) (fun c_3 => ?_) (fun c_3 => ?_)
  · have hf := it_t c_3 hf
    refine lv_ldcw hx hb hown (hta _ wq_1420) dX12_line__25 ?_
    exact hret _ _ _ _ _ _ (rv_inv hf).1 (congrArg (WM y o) (rv_inv hf).2) rfl dX12_line__28 hC
  · have hf := it_f c_3 hf
    refine lv_iload_n hx hb dX12_line__13 rfl (lv_at hl 2 rfl) ?_
    refine lv_i2l hx hb dX12_line__14 rfl ?_
    refine lv_lconst (v := 0) hx hb dX12_line__15 rfl ?_
    refine lv_ldc2 hx hb hown (hta _ wq_1419) dX12_line__16 ?_
    obtain ⟨v_4, hc_4, hf⟩ := calp_inv hf
    refine cc_Si (r_X12_isIn (D := D) (y := y) (w := WM y o s_1) (ad := ad) (av := av) hc_4 l) hx hb hml hta hown hK hN hV hA hC hRc hRs (by omega) (by omega) wq_1362 wq_1363 wq_1012 wq_1007 hd_X12_isIn (As := [.long x2.toInt64, .long 0, .long 2]) (rest := []) rfl rfl hl.1 rfl dX12_line__19 (fun H locs hC => ?_)
    refine lv_if_ne (tgt := 29) hx hb dX12_line__22 (by decide) (fun c_5 => ?_) (fun c_5 => ?_)
    · have hf := it_f c_5 hf
      refine lv_iload_n hx hb dX12_line__29 rfl (lv_at hl 2 rfl) ?_
      refine lv_if_ne (tgt := 42) hx hb dX12_line__30 (by decide) (fun c_6 => ?_) (fun c_6 => ?_)
      · have hf := it_f c_6 hf
        refine lv_iload_n hx hb dX12_line__42 rfl (lv_at hl 2 rfl) ?_
        refine lv_iconst (v := 1) hx hb dX12_line__43 (by decide) ?_
        refine lv_icmp_ne (tgt := 56) hx hb dX12_line__44 (by decide) (fun c_8 => ?_) (fun c_8 => ?_)
        · have hf := it_f c_8 hf
          refine lv_aload_n hx hb dX12_line__56 rfl (lv_at hl 0 rfl) ?_
          refine gt_X12_139_m hx hb hta hown hK hC dX12_line__57 ?_
          refine lv_iload_n hx hb dX12_line__60 rfl (lv_at hl 1 rfl) ?_
          obtain ⟨hi_10, hf⟩ := ix_inv hf
          obtain ⟨v_10, e_10, hf⟩ := lt_inv hf
          refine al_M_43 hx hb hK hC hi_10 e_10 dX12_line__61 ?_
          exact hret _ _ _ _ _ _ (rv_inv hf).1 (congrArg (WM y o) (rv_inv hf).2) rfl dX12_line__62 hC
        · have hf := it_t c_8 hf
          refine lv_aload_n hx hb dX12_line__47 rfl (lv_at hl 0 rfl) ?_
          refine gt_X12_136_m hx hb hta hown hK hC dX12_line__48 ?_
          refine lv_iload_n hx hb dX12_line__51 rfl (lv_at hl 1 rfl) ?_
          obtain ⟨hi_9, hf⟩ := ix_inv hf
          obtain ⟨v_9, e_9, hf⟩ := lt_inv hf
          refine al_M_42 hx hb hK hC hi_9 e_9 dX12_line__52 ?_
          refine lv_goto (tgt := 62) hx hb dX12_line__53 (by decide) ?_
          exact hret _ _ _ _ _ _ (rv_inv hf).1 (congrArg (WM y o) (rv_inv hf).2) rfl dX12_line__62 hC
      · have hf := it_t c_6 hf
        refine lv_aload_n hx hb dX12_line__33 rfl (lv_at hl 0 rfl) ?_
        refine gt_X12_133_m hx hb hta hown hK hC dX12_line__34 ?_
        refine lv_iload_n hx hb dX12_line__37 rfl (lv_at hl 1 rfl) ?_
        obtain ⟨hi_7, hf⟩ := ix_inv hf
        obtain ⟨v_7, e_7, hf⟩ := lt_inv hf
        refine al_M_41 hx hb hK hC hi_7 e_7 dX12_line__38 ?_
        refine lv_goto (tgt := 62) hx hb dX12_line__39 (by decide) ?_
        exact hret _ _ _ _ _ _ (rv_inv hf).1 (congrArg (WM y o) (rv_inv hf).2) rfl dX12_line__62 hC
    · have hf := it_t c_5 hf
      refine lv_ldcw hx hb hown (hta _ wq_1420) dX12_line__25 ?_
      exact hret _ _ _ _ _ _ (rv_inv hf).1 (congrArg (WM y o) (rv_inv hf).2) rfl dX12_line__28 hC

set_option maxHeartbeats 8000000 in
set_option maxRecDepth 100000 in
theorem r_X12_writesWord_s111 {D : va_G} {y : Nat → ClassId} {o : Nat → Nat} {ad av : Nat → Nat} {σ : Sto} {σ2 : Sto} (hf : f_X12_writesWord_s111 σ = some σ2) (l : Launch) (sz : Nat) : Met l yX12_writesWord (Cond.code yX12_writesWord cX12_writesWord 3 none :: ALW) { frames := 8, cells := 0, slots := 0, locals := 200 } (va_Pc [.ref (o 0), .ref (ad 111)] (PZ D y ad av (WM y o σ) sz)) (QZv D (WM y o σ) (WM y o σ2) sz) 0 0 (va_A (WM y o σ) sz) := by
  refine met_v (by decide) (Nat.le_of_ble_eq_true rfl) ?_
  intro p e R s m args below meth c Q A ls hx hb hml hta hown hRc hRs hRf hRl hN hK hV hA hret hC hl
  have hl : lv_has ls 3 [(0, .ref (o 0)), (1, .ref (ad 111))] := hl
  unfold f_X12_writesWord_s111 at hf
  refine lv_iconst (v := 0) hx hb dX12_writesWord_0 (by decide) ?_
  refine lv_istore_n (lv' := [(2, .int 0), (0, .ref (o 0)), (1, .ref (ad 111))]) hx hb dX12_writesWord_1 rfl hl (by decide) rfl (fun ls hl => ?_)
  refine itr_inv2 (P := fun (x2_1 : Int32) (s_1 : Sto) => ∀ (H : Heap) (locs : List Loc) (ls : Array Slot), CZ D A s H locs (WM y o s_1) → lv_has ls 3 [(0, .ref (o 0)), (1, .ref (ad 111)), (2, .int x2_1)] → W p l e R s m args below meth c H locs 0 0 Q (F0 m 2 ls [])) hf ?_ _ _ _ hC (lv_sub hl [1, 2, 0] rfl)
  intro a_2 x2_1 s_1 ha_2 hf H locs ls hC hl
  refine lv_iload_n hx hb dX12_writesWord_2 rfl (lv_at hl 2 rfl) ?_
  refine lv_aload_n hx hb dX12_writesWord_3 rfl (lv_at hl 1 rfl) ?_
  refine cc_length hx hb hml hta hown hK hN hV hA hC hRc hRs (by omega) (by omega) wq_1039 (i := 111) (n := 4) (by decide) (by decide) (by decide) hl.1 rfl dX12_writesWord_4 (fun H locs hC => ?_)
  refine lv_icmp_ge (tgt := 25) hx hb dX12_writesWord_7 (by decide) (fun c_2 => ?_) (fun c_2 => ?_)
  · have hf := it_t c_2 hf
    exact hret _ _ _ _ _ (congrArg (WM y o) (Option.some.inj hf)) dX12_writesWord_25 hC
  · have hf := it_f c_2 hf
    refine lv_aload_n hx hb dX12_writesWord_10 rfl (lv_at hl 0 rfl) ?_
    refine lv_aload_n hx hb dX12_writesWord_11 rfl (lv_at hl 1 rfl) ?_
    refine lv_iload_n hx hb dX12_writesWord_12 rfl (lv_at hl 2 rfl) ?_
    obtain ⟨hi_3, hf⟩ := ix_inv hf
    obtain ⟨v_3, e_3, hf⟩ := lt_inv hf
    refine cc_charAt hx hb hml hta hown hK hN hV hA hC hRc hRs (by omega) (by omega) wq_1040 (i := 111) (n := 4) (by decide) (by decide) (by decide) hi_3 e_3 hl.1 rfl dX12_writesWord_13 (fun H locs hC => ?_)
    obtain ⟨s_4, hc_4, hf⟩ := cals_inv hf
    refine cc_Vv (r_X12_writes (D := D) (y := y) (o := o) (ad := ad) (av := av) hc_4 l) hx hb hml hta hown hK hN hV hA hC hRc hRs (by omega) (by omega) wq_1378 (q := 0) (ci := 12) rfl rfl wq_1379 wq_1380 wq_1012 wq_1376 hd_X12_writes (As := [.int v_3]) (rest := []) rfl rfl hl.1 rfl dX12_writesWord_16 (fun H locs hC => ?_)
    obtain ⟨x2_5, e_5, hf⟩ := lt_inv hf
    refine lv_iinc (v := x2_5) (lv' := [(2, .int x2_5), (0, .ref (o 0)), (1, .ref (ad 111))]) hx hb dX12_writesWord_19 hl (k := 2) rfl e_5.symm (by decide) rfl (fun ls hl => ?_)
    refine lv_goto (tgt := 2) hx hb dX12_writesWord_22 (by decide) ?_
    exact ha_2 _ _ hf _ _ _ hC (lv_sub hl [1, 2, 0] rfl)

set_option maxHeartbeats 8000000 in
set_option maxRecDepth 100000 in
theorem r_X12_writesWord_s112 {D : va_G} {y : Nat → ClassId} {o : Nat → Nat} {ad av : Nat → Nat} {σ : Sto} {σ2 : Sto} (hf : f_X12_writesWord_s112 σ = some σ2) (l : Launch) (sz : Nat) : Met l yX12_writesWord (Cond.code yX12_writesWord cX12_writesWord 3 none :: ALW) { frames := 8, cells := 0, slots := 0, locals := 200 } (va_Pc [.ref (o 0), .ref (ad 112)] (PZ D y ad av (WM y o σ) sz)) (QZv D (WM y o σ) (WM y o σ2) sz) 0 0 (va_A (WM y o σ) sz) := by
  refine met_v (by decide) (Nat.le_of_ble_eq_true rfl) ?_
  intro p e R s m args below meth c Q A ls hx hb hml hta hown hRc hRs hRf hRl hN hK hV hA hret hC hl
  have hl : lv_has ls 3 [(0, .ref (o 0)), (1, .ref (ad 112))] := hl
  unfold f_X12_writesWord_s112 at hf
  refine lv_iconst (v := 0) hx hb dX12_writesWord_0 (by decide) ?_
  refine lv_istore_n (lv' := [(2, .int 0), (0, .ref (o 0)), (1, .ref (ad 112))]) hx hb dX12_writesWord_1 rfl hl (by decide) rfl (fun ls hl => ?_)
  refine itr_inv2 (P := fun (x2_1 : Int32) (s_1 : Sto) => ∀ (H : Heap) (locs : List Loc) (ls : Array Slot), CZ D A s H locs (WM y o s_1) → lv_has ls 3 [(0, .ref (o 0)), (1, .ref (ad 112)), (2, .int x2_1)] → W p l e R s m args below meth c H locs 0 0 Q (F0 m 2 ls [])) hf ?_ _ _ _ hC (lv_sub hl [1, 2, 0] rfl)
  intro a_2 x2_1 s_1 ha_2 hf H locs ls hC hl
  refine lv_iload_n hx hb dX12_writesWord_2 rfl (lv_at hl 2 rfl) ?_
  refine lv_aload_n hx hb dX12_writesWord_3 rfl (lv_at hl 1 rfl) ?_
  refine cc_length hx hb hml hta hown hK hN hV hA hC hRc hRs (by omega) (by omega) wq_1039 (i := 112) (n := 6) (by decide) (by decide) (by decide) hl.1 rfl dX12_writesWord_4 (fun H locs hC => ?_)
  refine lv_icmp_ge (tgt := 25) hx hb dX12_writesWord_7 (by decide) (fun c_2 => ?_) (fun c_2 => ?_)
  · have hf := it_t c_2 hf
    exact hret _ _ _ _ _ (congrArg (WM y o) (Option.some.inj hf)) dX12_writesWord_25 hC
  · have hf := it_f c_2 hf
    refine lv_aload_n hx hb dX12_writesWord_10 rfl (lv_at hl 0 rfl) ?_
    refine lv_aload_n hx hb dX12_writesWord_11 rfl (lv_at hl 1 rfl) ?_
    refine lv_iload_n hx hb dX12_writesWord_12 rfl (lv_at hl 2 rfl) ?_
    obtain ⟨hi_3, hf⟩ := ix_inv hf
    obtain ⟨v_3, e_3, hf⟩ := lt_inv hf
    refine cc_charAt hx hb hml hta hown hK hN hV hA hC hRc hRs (by omega) (by omega) wq_1040 (i := 112) (n := 6) (by decide) (by decide) (by decide) hi_3 e_3 hl.1 rfl dX12_writesWord_13 (fun H locs hC => ?_)
    obtain ⟨s_4, hc_4, hf⟩ := cals_inv hf
    refine cc_Vv (r_X12_writes (D := D) (y := y) (o := o) (ad := ad) (av := av) hc_4 l) hx hb hml hta hown hK hN hV hA hC hRc hRs (by omega) (by omega) wq_1378 (q := 0) (ci := 12) rfl rfl wq_1379 wq_1380 wq_1012 wq_1376 hd_X12_writes (As := [.int v_3]) (rest := []) rfl rfl hl.1 rfl dX12_writesWord_16 (fun H locs hC => ?_)
    obtain ⟨x2_5, e_5, hf⟩ := lt_inv hf
    refine lv_iinc (v := x2_5) (lv' := [(2, .int x2_5), (0, .ref (o 0)), (1, .ref (ad 112))]) hx hb dX12_writesWord_19 hl (k := 2) rfl e_5.symm (by decide) rfl (fun ls hl => ?_)
    refine lv_goto (tgt := 2) hx hb dX12_writesWord_22 (by decide) ?_
    exact ha_2 _ _ hf _ _ _ hC (lv_sub hl [1, 2, 0] rfl)

set_option maxHeartbeats 8000000 in
set_option maxRecDepth 100000 in
theorem r_X12_writesWord_s113 {D : va_G} {y : Nat → ClassId} {o : Nat → Nat} {ad av : Nat → Nat} {σ : Sto} {σ2 : Sto} (hf : f_X12_writesWord_s113 σ = some σ2) (l : Launch) (sz : Nat) : Met l yX12_writesWord (Cond.code yX12_writesWord cX12_writesWord 3 none :: ALW) { frames := 8, cells := 0, slots := 0, locals := 200 } (va_Pc [.ref (o 0), .ref (ad 113)] (PZ D y ad av (WM y o σ) sz)) (QZv D (WM y o σ) (WM y o σ2) sz) 0 0 (va_A (WM y o σ) sz) := by
  refine met_v (by decide) (Nat.le_of_ble_eq_true rfl) ?_
  intro p e R s m args below meth c Q A ls hx hb hml hta hown hRc hRs hRf hRl hN hK hV hA hret hC hl
  have hl : lv_has ls 3 [(0, .ref (o 0)), (1, .ref (ad 113))] := hl
  unfold f_X12_writesWord_s113 at hf
  refine lv_iconst (v := 0) hx hb dX12_writesWord_0 (by decide) ?_
  refine lv_istore_n (lv' := [(2, .int 0), (0, .ref (o 0)), (1, .ref (ad 113))]) hx hb dX12_writesWord_1 rfl hl (by decide) rfl (fun ls hl => ?_)
  refine itr_inv2 (P := fun (x2_1 : Int32) (s_1 : Sto) => ∀ (H : Heap) (locs : List Loc) (ls : Array Slot), CZ D A s H locs (WM y o s_1) → lv_has ls 3 [(0, .ref (o 0)), (1, .ref (ad 113)), (2, .int x2_1)] → W p l e R s m args below meth c H locs 0 0 Q (F0 m 2 ls [])) hf ?_ _ _ _ hC (lv_sub hl [1, 2, 0] rfl)
  intro a_2 x2_1 s_1 ha_2 hf H locs ls hC hl
  refine lv_iload_n hx hb dX12_writesWord_2 rfl (lv_at hl 2 rfl) ?_
  refine lv_aload_n hx hb dX12_writesWord_3 rfl (lv_at hl 1 rfl) ?_
  refine cc_length hx hb hml hta hown hK hN hV hA hC hRc hRs (by omega) (by omega) wq_1039 (i := 113) (n := 6) (by decide) (by decide) (by decide) hl.1 rfl dX12_writesWord_4 (fun H locs hC => ?_)
  refine lv_icmp_ge (tgt := 25) hx hb dX12_writesWord_7 (by decide) (fun c_2 => ?_) (fun c_2 => ?_)
  · have hf := it_t c_2 hf
    exact hret _ _ _ _ _ (congrArg (WM y o) (Option.some.inj hf)) dX12_writesWord_25 hC
  · have hf := it_f c_2 hf
    refine lv_aload_n hx hb dX12_writesWord_10 rfl (lv_at hl 0 rfl) ?_
    refine lv_aload_n hx hb dX12_writesWord_11 rfl (lv_at hl 1 rfl) ?_
    refine lv_iload_n hx hb dX12_writesWord_12 rfl (lv_at hl 2 rfl) ?_
    obtain ⟨hi_3, hf⟩ := ix_inv hf
    obtain ⟨v_3, e_3, hf⟩ := lt_inv hf
    refine cc_charAt hx hb hml hta hown hK hN hV hA hC hRc hRs (by omega) (by omega) wq_1040 (i := 113) (n := 6) (by decide) (by decide) (by decide) hi_3 e_3 hl.1 rfl dX12_writesWord_13 (fun H locs hC => ?_)
    obtain ⟨s_4, hc_4, hf⟩ := cals_inv hf
    refine cc_Vv (r_X12_writes (D := D) (y := y) (o := o) (ad := ad) (av := av) hc_4 l) hx hb hml hta hown hK hN hV hA hC hRc hRs (by omega) (by omega) wq_1378 (q := 0) (ci := 12) rfl rfl wq_1379 wq_1380 wq_1012 wq_1376 hd_X12_writes (As := [.int v_3]) (rest := []) rfl rfl hl.1 rfl dX12_writesWord_16 (fun H locs hC => ?_)
    obtain ⟨x2_5, e_5, hf⟩ := lt_inv hf
    refine lv_iinc (v := x2_5) (lv' := [(2, .int x2_5), (0, .ref (o 0)), (1, .ref (ad 113))]) hx hb dX12_writesWord_19 hl (k := 2) rfl e_5.symm (by decide) rfl (fun ls hl => ?_)
    refine lv_goto (tgt := 2) hx hb dX12_writesWord_22 (by decide) ?_
    exact ha_2 _ _ hf _ _ _ hC (lv_sub hl [1, 2, 0] rfl)

set_option maxHeartbeats 8000000 in
set_option maxRecDepth 100000 in
theorem r_X12_spellsStatement {D : va_G} {y : Nat → ClassId} {o : Nat → Nat} {ad av : Nat → Nat} {x1 : Int32} {σ : Sto} {σ2 : Sto} (hf : f_X12_spellsStatement x1 σ = some σ2) (l : Launch) (sz : Nat) : Met l yX12_spellsStatement (Cond.code yX12_spellsStatement cX12_spellsStatement 2 none :: ALW) { frames := 504, cells := 0, slots := 0, locals := 10585 } (va_Pc [.ref (o 0), .int x1] (PZ D y ad av (WM y o σ) sz)) (QZv D (WM y o σ) (WM y o σ2) sz) 0 0 (va_A (WM y o σ) sz) := by
  refine met_v (by decide) (Nat.le_of_ble_eq_true rfl) ?_
  intro p e R s m args below meth c Q A ls hx hb hml hta hown hRc hRs hRf hRl hN hK hV hA hret hC hl
  have hl : lv_has ls 2 [(0, .ref (o 0)), (1, .int x1)] := hl
  unfold f_X12_spellsStatement at hf
  refine lv_aload_n hx hb dX12_spellsStatement_0 rfl (lv_at hl 0 rfl) ?_
  refine gt_X12_97_m hx hb hta hown hK hC dX12_spellsStatement_1 ?_
  refine lv_iload_n hx hb dX12_spellsStatement_4 rfl (lv_at hl 1 rfl) ?_
  obtain ⟨hi_1, hf⟩ := ix_inv hf
  obtain ⟨v_1, e_1, hf⟩ := lt_inv hf
  refine al_M_29 hx hb hK hC hi_1 e_1 dX12_spellsStatement_5 ?_
  obtain ⟨k_124, hk_124, hf⟩ := jn_inv1 hf
  have hj_124 : ∀ (s_2 : Sto) (H : Heap) (locs : List Loc) (ls : Array Slot), k_124 s_2 = some σ2 → CZ D A s H locs (WM y o s_2) → lv_has ls 2 [(0, .ref (o 0)), (1, .int x1)] → W p l e R s m args below meth c H locs 0 0 Q (F0 m 124 ls []) := by
    intro s_2 H locs ls hf hC hl
    have hf := hk_124 _ hf
    refine lv_aload_n hx hb dX12_spellsStatement_124 rfl (lv_at hl 0 rfl) ?_
    refine gt_X12_97_m hx hb hta hown hK hC dX12_spellsStatement_125 ?_
    refine lv_iload_n hx hb dX12_spellsStatement_128 rfl (lv_at hl 1 rfl) ?_
    obtain ⟨hi_3, hf⟩ := ix_inv hf
    obtain ⟨v_3, e_3, hf⟩ := lt_inv hf
    refine al_M_29 hx hb hK hC hi_3 e_3 dX12_spellsStatement_129 ?_
    refine lv_iconst (v := 3) hx hb dX12_spellsStatement_130 (by decide) ?_
    obtain ⟨k_140, hk_140, hf⟩ := jn_inv1 hf
    have hj_140 : ∀ (s_4 : Sto) (H : Heap) (locs : List Loc) (ls : Array Slot), k_140 s_4 = some σ2 → CZ D A s H locs (WM y o s_4) → lv_has ls 2 [(0, .ref (o 0)), (1, .int x1)] → W p l e R s m args below meth c H locs 0 0 Q (F0 m 140 ls []) := by
      intro s_4 H locs ls hf hC hl
      have hf := hk_140 _ hf
      refine lv_aload_n hx hb dX12_spellsStatement_140 rfl (lv_at hl 0 rfl) ?_
      refine gt_X12_103_m hx hb hta hown hK hC dX12_spellsStatement_141 ?_
      refine lv_iload_n hx hb dX12_spellsStatement_144 rfl (lv_at hl 1 rfl) ?_
      obtain ⟨hi_5, hf⟩ := ix_inv hf
      obtain ⟨v_5, e_5, hf⟩ := lt_inv hf
      refine al_M_31 hx hb hK hC hi_5 e_5 dX12_spellsStatement_145 ?_
      refine lv_iconst (v := (-1)) hx hb dX12_spellsStatement_146 (by decide) ?_
      obtain ⟨k_160, hk_160, hf⟩ := jn_inv1 hf
      have hj_160 : ∀ (s_6 : Sto) (H : Heap) (locs : List Loc) (ls : Array Slot), k_160 s_6 = some σ2 → CZ D A s H locs (WM y o s_6) → lv_has ls 2 [(0, .ref (o 0))] → W p l e R s m args below meth c H locs 0 0 Q (F0 m 160 ls []) := by
        intro s_6 H locs ls hf hC hl
        have hf := hk_160 _ hf
        refine lv_aload_n hx hb dX12_spellsStatement_160 rfl (lv_at hl 0 rfl) ?_
        refine lv_bipush (v := 59) hx hb dX12_spellsStatement_161 (by decide) ?_
        obtain ⟨s_7, hc_7, hf⟩ := cals_inv hf
        refine cc_Vv (r_X12_writes (D := D) (y := y) (o := o) (ad := ad) (av := av) hc_7 l) hx hb hml hta hown hK hN hV hA hC hRc hRs (by omega) (by omega) wq_1378 (q := 0) (ci := 12) rfl rfl wq_1379 wq_1380 wq_1012 wq_1376 hd_X12_writes (As := [.int 59]) (rest := []) rfl rfl hl.1 rfl dX12_spellsStatement_163 (fun H locs hC => ?_)
        exact hret _ _ _ _ _ (congrArg (WM y o) (Option.some.inj hf)) dX12_spellsStatement_166 hC
      refine lv_icmp_eq (tgt := 160) hx hb dX12_spellsStatement_147 (by decide) (fun c_8 => ?_) (fun c_8 => ?_)
      · have hf := it_t c_8 hf
        exact hj_160 _ _ _ _ hf hC (lv_sub hl [0] rfl)
      · have hf := it_f c_8 hf
        refine lv_aload_n hx hb dX12_spellsStatement_150 rfl (lv_at hl 0 rfl) ?_
        refine lv_aload_n hx hb dX12_spellsStatement_151 rfl (lv_at hl 0 rfl) ?_
        refine gt_X12_103_m hx hb hta hown hK hC dX12_spellsStatement_152 ?_
        refine lv_iload_n hx hb dX12_spellsStatement_155 rfl (lv_at hl 1 rfl) ?_
        obtain ⟨hi_9, hf⟩ := ix_inv hf
        obtain ⟨v_9, e_9, hf⟩ := lt_inv hf
        refine al_M_31 hx hb hK hC hi_9 e_9 dX12_spellsStatement_156 ?_
        obtain ⟨s_10, hc_10, hf⟩ := cals_inv hf
        refine cc_Vv (r_X12_spells 250 (D := D) (y := y) (o := o) (ad := ad) (av := av) hc_10 l) hx hb hml hta hown hK hN hV hA hC hRc hRs (by omega) (by omega) wq_1393 (q := 0) (ci := 12) rfl rfl wq_1394 wq_1395 wq_1012 wq_1396 hd_X12_spells (As := [.int v_9]) (rest := []) rfl rfl hl.1 rfl dX12_spellsStatement_157 (fun H locs hC => ?_)
        exact hj_160 _ _ _ _ hf hC (lv_sub hl [0] rfl)
    refine lv_icmp_ge (tgt := 140) hx hb dX12_spellsStatement_131 (by decide) (fun c_11 => ?_) (fun c_11 => ?_)
    · have hf := it_t c_11 hf
      exact hj_140 _ _ _ _ hf hC hl
    · have hf := it_f c_11 hf
      refine lv_aload_n hx hb dX12_spellsStatement_134 rfl (lv_at hl 0 rfl) ?_
      refine lv_bipush (v := 61) hx hb dX12_spellsStatement_135 (by decide) ?_
      obtain ⟨s_12, hc_12, hf⟩ := cals_inv hf
      refine cc_Vv (r_X12_writes (D := D) (y := y) (o := o) (ad := ad) (av := av) hc_12 l) hx hb hml hta hown hK hN hV hA hC hRc hRs (by omega) (by omega) wq_1378 (q := 0) (ci := 12) rfl rfl wq_1379 wq_1380 wq_1012 wq_1376 hd_X12_writes (As := [.int 61]) (rest := []) rfl rfl hl.1 rfl dX12_spellsStatement_137 (fun H locs hC => ?_)
      exact hj_140 _ _ _ _ hf hC hl
  by_cases h_13_0 : v_1.toInt = 0
  · have hf := it_t h_13_0 hf
    refine lv_tab (tgt := 48) hx hb dX12_spellsStatement_6 (Or.inr ⟨42, by omega, by omega, by (rw [h_13_0]; decide), by decide⟩) ?_
    refine lv_aload_n hx hb dX12_spellsStatement_48 rfl (lv_at hl 0 rfl) ?_
    refine lv_bipush (v := 97) hx hb dX12_spellsStatement_49 (by decide) ?_
    refine lv_aload_n hx hb dX12_spellsStatement_51 rfl (lv_at hl 0 rfl) ?_
    refine gt_X12_100_m hx hb hta hown hK hC dX12_spellsStatement_52 ?_
    refine lv_iload_n hx hb dX12_spellsStatement_55 rfl (lv_at hl 1 rfl) ?_
    obtain ⟨hi_14, hf⟩ := ix_inv hf
    obtain ⟨v_14, e_14, hf⟩ := lt_inv hf
    refine al_M_30 hx hb hK hC hi_14 e_14 dX12_spellsStatement_56 ?_
    refine lv_iadd hx hb dX12_spellsStatement_57 ?_
    obtain ⟨s_15, hc_15, hf⟩ := cals_inv hf
    refine cc_Vv (r_X12_writes (D := D) (y := y) (o := o) (ad := ad) (av := av) hc_15 l) hx hb hml hta hown hK hN hV hA hC hRc hRs (by omega) (by omega) wq_1378 (q := 0) (ci := 12) rfl rfl wq_1379 wq_1380 wq_1012 wq_1376 hd_X12_writes (As := [.int ((97 : Int32) + v_14)]) (rest := []) rfl rfl hl.1 rfl dX12_spellsStatement_58 (fun H locs hC => ?_)
    refine lv_goto (tgt := 124) hx hb dX12_spellsStatement_61 (by decide) ?_
    exact hj_124 _ _ _ _ hf hC hl
  have hf := it_f h_13_0 hf
  by_cases h_13_1 : v_1.toInt = 1
  · have hf := it_t h_13_1 hf
    refine lv_tab (tgt := 64) hx hb dX12_spellsStatement_6 (Or.inr ⟨58, by omega, by omega, by (rw [h_13_1]; decide), by decide⟩) ?_
    refine lv_aload_n hx hb dX12_spellsStatement_64 rfl (lv_at hl 0 rfl) ?_
    refine lv_bipush (v := 116) hx hb dX12_spellsStatement_65 (by decide) ?_
    refine lv_aload_n hx hb dX12_spellsStatement_67 rfl (lv_at hl 0 rfl) ?_
    refine gt_X12_100_m hx hb hta hown hK hC dX12_spellsStatement_68 ?_
    refine lv_iload_n hx hb dX12_spellsStatement_71 rfl (lv_at hl 1 rfl) ?_
    obtain ⟨hi_16, hf⟩ := ix_inv hf
    obtain ⟨v_16, e_16, hf⟩ := lt_inv hf
    refine al_M_30 hx hb hK hC hi_16 e_16 dX12_spellsStatement_72 ?_
    obtain ⟨s_17, hc_17, hf⟩ := cals_inv hf
    refine cc_Vv (r_X12_writesName (D := D) (y := y) (o := o) (ad := ad) (av := av) hc_17 l) hx hb hml hta hown hK hN hV hA hC hRc hRs (by omega) (by omega) wq_1387 (q := 0) (ci := 12) rfl rfl wq_1388 wq_1389 wq_1012 wq_1386 hd_X12_writesName (As := [.int 116, .int v_16]) (rest := []) rfl rfl hl.1 rfl dX12_spellsStatement_73 (fun H locs hC => ?_)
    refine lv_goto (tgt := 124) hx hb dX12_spellsStatement_76 (by decide) ?_
    exact hj_124 _ _ _ _ hf hC hl
  have hf := it_f h_13_1 hf
  by_cases h_13_2 : v_1.toInt = 2
  · have hf := it_t h_13_2 hf
    refine lv_tab (tgt := 79) hx hb dX12_spellsStatement_6 (Or.inr ⟨73, by omega, by omega, by (rw [h_13_2]; decide), by decide⟩) ?_
    refine lv_aload_n hx hb dX12_spellsStatement_79 rfl (lv_at hl 0 rfl) ?_
    refine lv_bipush (v := 120) hx hb dX12_spellsStatement_80 (by decide) ?_
    refine lv_aload_n hx hb dX12_spellsStatement_82 rfl (lv_at hl 0 rfl) ?_
    refine gt_X12_100_m hx hb hta hown hK hC dX12_spellsStatement_83 ?_
    refine lv_iload_n hx hb dX12_spellsStatement_86 rfl (lv_at hl 1 rfl) ?_
    obtain ⟨hi_18, hf⟩ := ix_inv hf
    obtain ⟨v_18, e_18, hf⟩ := lt_inv hf
    refine al_M_30 hx hb hK hC hi_18 e_18 dX12_spellsStatement_87 ?_
    obtain ⟨s_19, hc_19, hf⟩ := cals_inv hf
    refine cc_Vv (r_X12_writesName (D := D) (y := y) (o := o) (ad := ad) (av := av) hc_19 l) hx hb hml hta hown hK hN hV hA hC hRc hRs (by omega) (by omega) wq_1387 (q := 0) (ci := 12) rfl rfl wq_1388 wq_1389 wq_1012 wq_1386 hd_X12_writesName (As := [.int 120, .int v_18]) (rest := []) rfl rfl hl.1 rfl dX12_spellsStatement_88 (fun H locs hC => ?_)
    refine lv_goto (tgt := 124) hx hb dX12_spellsStatement_91 (by decide) ?_
    exact hj_124 _ _ _ _ hf hC hl
  have hf := it_f h_13_2 hf
  by_cases h_13_3 : v_1.toInt = 3
  · have hf := it_t h_13_3 hf
    refine lv_tab (tgt := 94) hx hb dX12_spellsStatement_6 (Or.inr ⟨88, by omega, by omega, by (rw [h_13_3]; decide), by decide⟩) ?_
    refine lv_aload_n hx hb dX12_spellsStatement_94 rfl (lv_at hl 0 rfl) ?_
    refine va_ldcSw hx hb hown (ss_Rm hV 11 rfl) dX12_spellsStatement_95 ?_
    obtain ⟨s_20, hc_20, hf⟩ := cals_inv hf
    refine cc_Vv (r_X12_writesWord_s111 (D := D) (y := y) (o := o) (ad := ad) (av := av) hc_20 l) hx hb hml hta hown hK hN hV hA hC hRc hRs (by omega) (by omega) wq_1390 (q := 0) (ci := 12) rfl rfl wq_1391 wq_1392 wq_1012 wq_1381 hd_X12_writesWord (As := [.ref (ad 111)]) (rest := []) rfl rfl hl.1 rfl dX12_spellsStatement_98 (fun H locs hC => ?_)
    refine lv_goto (tgt := 124) hx hb dX12_spellsStatement_101 (by decide) ?_
    exact hj_124 _ _ _ _ hf hC hl
  have hf := it_f h_13_3 hf
  by_cases h_13_4 : v_1.toInt = 5
  · have hf := it_t h_13_4 hf
    refine lv_tab (tgt := 104) hx hb dX12_spellsStatement_6 (Or.inr ⟨98, by omega, by omega, by (rw [h_13_4]; decide), by decide⟩) ?_
    refine lv_aload_n hx hb dX12_spellsStatement_104 rfl (lv_at hl 0 rfl) ?_
    refine va_ldcSw hx hb hown (ss_Rm hV 12 rfl) dX12_spellsStatement_105 ?_
    obtain ⟨s_21, hc_21, hf⟩ := cals_inv hf
    refine cc_Vv (r_X12_writesWord_s112 (D := D) (y := y) (o := o) (ad := ad) (av := av) hc_21 l) hx hb hml hta hown hK hN hV hA hC hRc hRs (by omega) (by omega) wq_1390 (q := 0) (ci := 12) rfl rfl wq_1391 wq_1392 wq_1012 wq_1381 hd_X12_writesWord (As := [.ref (ad 112)]) (rest := []) rfl rfl hl.1 rfl dX12_spellsStatement_108 (fun H locs hC => ?_)
    refine lv_goto (tgt := 124) hx hb dX12_spellsStatement_111 (by decide) ?_
    exact hj_124 _ _ _ _ hf hC hl
  have hf := it_f h_13_4 hf
  by_cases h_13_5 : v_1.toInt = 6
  · have hf := it_t h_13_5 hf
    refine lv_tab (tgt := 114) hx hb dX12_spellsStatement_6 (Or.inr ⟨108, by omega, by omega, by (rw [h_13_5]; decide), by decide⟩) ?_
    refine lv_aload_n hx hb dX12_spellsStatement_114 rfl (lv_at hl 0 rfl) ?_
    refine va_ldcSw hx hb hown (ss_Rm hV 13 rfl) dX12_spellsStatement_115 ?_
    obtain ⟨s_22, hc_22, hf⟩ := cals_inv hf
    refine cc_Vv (r_X12_writesWord_s113 (D := D) (y := y) (o := o) (ad := ad) (av := av) hc_22 l) hx hb hml hta hown hK hN hV hA hC hRc hRs (by omega) (by omega) wq_1390 (q := 0) (ci := 12) rfl rfl wq_1391 wq_1392 wq_1012 wq_1381 hd_X12_writesWord (As := [.ref (ad 113)]) (rest := []) rfl rfl hl.1 rfl dX12_spellsStatement_118 (fun H locs hC => ?_)
    refine lv_goto (tgt := 124) hx hb dX12_spellsStatement_121 (by decide) ?_
    exact hj_124 _ _ _ _ hf hC hl
  have hf := it_f h_13_5 hf
  refine lv_tab (tgt := 124) hx hb dX12_spellsStatement_6 (by rcases (show (v_1.toInt < 0 ∨ 6 < v_1.toInt ∨ v_1.toInt = 4) by omega) with h | h | h; exact Or.inl ⟨Or.inl h, by decide⟩; exact Or.inl ⟨Or.inr h, by decide⟩; all_goals exact Or.inr ⟨118, by omega, by omega, by rw [h]; decide, by decide⟩) ?_
  exact hj_124 _ _ _ _ hf hC hl

set_option maxHeartbeats 8000000 in
set_option maxRecDepth 100000 in
theorem r_X12_writesWord_s114 {D : va_G} {y : Nat → ClassId} {o : Nat → Nat} {ad av : Nat → Nat} {σ : Sto} {σ2 : Sto} (hf : f_X12_writesWord_s114 σ = some σ2) (l : Launch) (sz : Nat) : Met l yX12_writesWord (Cond.code yX12_writesWord cX12_writesWord 3 none :: ALW) { frames := 8, cells := 0, slots := 0, locals := 200 } (va_Pc [.ref (o 0), .ref (ad 114)] (PZ D y ad av (WM y o σ) sz)) (QZv D (WM y o σ) (WM y o σ2) sz) 0 0 (va_A (WM y o σ) sz) := by
  refine met_v (by decide) (Nat.le_of_ble_eq_true rfl) ?_
  intro p e R s m args below meth c Q A ls hx hb hml hta hown hRc hRs hRf hRl hN hK hV hA hret hC hl
  have hl : lv_has ls 3 [(0, .ref (o 0)), (1, .ref (ad 114))] := hl
  unfold f_X12_writesWord_s114 at hf
  refine lv_iconst (v := 0) hx hb dX12_writesWord_0 (by decide) ?_
  refine lv_istore_n (lv' := [(2, .int 0), (0, .ref (o 0)), (1, .ref (ad 114))]) hx hb dX12_writesWord_1 rfl hl (by decide) rfl (fun ls hl => ?_)
  refine itr_inv2 (P := fun (x2_1 : Int32) (s_1 : Sto) => ∀ (H : Heap) (locs : List Loc) (ls : Array Slot), CZ D A s H locs (WM y o s_1) → lv_has ls 3 [(0, .ref (o 0)), (1, .ref (ad 114)), (2, .int x2_1)] → W p l e R s m args below meth c H locs 0 0 Q (F0 m 2 ls [])) hf ?_ _ _ _ hC (lv_sub hl [1, 2, 0] rfl)
  intro a_2 x2_1 s_1 ha_2 hf H locs ls hC hl
  refine lv_iload_n hx hb dX12_writesWord_2 rfl (lv_at hl 2 rfl) ?_
  refine lv_aload_n hx hb dX12_writesWord_3 rfl (lv_at hl 1 rfl) ?_
  refine cc_length hx hb hml hta hown hK hN hV hA hC hRc hRs (by omega) (by omega) wq_1039 (i := 114) (n := 5) (by decide) (by decide) (by decide) hl.1 rfl dX12_writesWord_4 (fun H locs hC => ?_)
  refine lv_icmp_ge (tgt := 25) hx hb dX12_writesWord_7 (by decide) (fun c_2 => ?_) (fun c_2 => ?_)
  · have hf := it_t c_2 hf
    exact hret _ _ _ _ _ (congrArg (WM y o) (Option.some.inj hf)) dX12_writesWord_25 hC
  · have hf := it_f c_2 hf
    refine lv_aload_n hx hb dX12_writesWord_10 rfl (lv_at hl 0 rfl) ?_
    refine lv_aload_n hx hb dX12_writesWord_11 rfl (lv_at hl 1 rfl) ?_
    refine lv_iload_n hx hb dX12_writesWord_12 rfl (lv_at hl 2 rfl) ?_
    obtain ⟨hi_3, hf⟩ := ix_inv hf
    obtain ⟨v_3, e_3, hf⟩ := lt_inv hf
    refine cc_charAt hx hb hml hta hown hK hN hV hA hC hRc hRs (by omega) (by omega) wq_1040 (i := 114) (n := 5) (by decide) (by decide) (by decide) hi_3 e_3 hl.1 rfl dX12_writesWord_13 (fun H locs hC => ?_)
    obtain ⟨s_4, hc_4, hf⟩ := cals_inv hf
    refine cc_Vv (r_X12_writes (D := D) (y := y) (o := o) (ad := ad) (av := av) hc_4 l) hx hb hml hta hown hK hN hV hA hC hRc hRs (by omega) (by omega) wq_1378 (q := 0) (ci := 12) rfl rfl wq_1379 wq_1380 wq_1012 wq_1376 hd_X12_writes (As := [.int v_3]) (rest := []) rfl rfl hl.1 rfl dX12_writesWord_16 (fun H locs hC => ?_)
    obtain ⟨x2_5, e_5, hf⟩ := lt_inv hf
    refine lv_iinc (v := x2_5) (lv' := [(2, .int x2_5), (0, .ref (o 0)), (1, .ref (ad 114))]) hx hb dX12_writesWord_19 hl (k := 2) rfl e_5.symm (by decide) rfl (fun ls hl => ?_)
    refine lv_goto (tgt := 2) hx hb dX12_writesWord_22 (by decide) ?_
    exact ha_2 _ _ hf _ _ _ hC (lv_sub hl [1, 2, 0] rfl)

set_option maxHeartbeats 8000000 in
set_option maxRecDepth 100000 in
theorem r_X12_spellsBlock_s114 {D : va_G} {y : Nat → ClassId} {o : Nat → Nat} {ad av : Nat → Nat} {x2 : Int32} {x3 : Int32} {σ : Sto} {σ2 : Sto} (hf : f_X12_spellsBlock_s114 x2 x3 σ = some σ2) (l : Launch) (sz : Nat) : Met l yX12_spellsBlock (Cond.code yX12_spellsBlock cX12_spellsBlock 4 none :: ALW) { frames := 253, cells := 0, slots := 0, locals := 5314 } (va_Pc [.ref (o 0), .ref (ad 114), .int x2, .int x3] (PZ D y ad av (WM y o σ) sz)) (QZv D (WM y o σ) (WM y o σ2) sz) 0 0 (va_A (WM y o σ) sz) := by
  refine met_v (by decide) (Nat.le_of_ble_eq_true rfl) ?_
  intro p e R s m args below meth c Q A ls hx hb hml hta hown hRc hRs hRf hRl hN hK hV hA hret hC hl
  have hl : lv_has ls 4 [(0, .ref (o 0)), (1, .ref (ad 114)), (2, .int x2), (3, .int x3)] := hl
  unfold f_X12_spellsBlock_s114 at hf
  refine lv_aload_n hx hb dX12_spellsBlock_0 rfl (lv_at hl 0 rfl) ?_
  refine lv_aload_n hx hb dX12_spellsBlock_1 rfl (lv_at hl 1 rfl) ?_
  obtain ⟨s_1, hc_1, hf⟩ := cals_inv hf
  refine cc_Vv (r_X12_writesWord_s114 (D := D) (y := y) (o := o) (ad := ad) (av := av) hc_1 l) hx hb hml hta hown hK hN hV hA hC hRc hRs (by omega) (by omega) wq_1390 (q := 0) (ci := 12) rfl rfl wq_1391 wq_1392 wq_1012 wq_1381 hd_X12_writesWord (As := [.ref (ad 114)]) (rest := []) rfl rfl hl.1 rfl dX12_spellsBlock_2 (fun H locs hC => ?_)
  refine lv_aload_n hx hb dX12_spellsBlock_5 rfl (lv_at hl 0 rfl) ?_
  refine lv_bipush (v := 66) hx hb dX12_spellsBlock_6 (by decide) ?_
  refine lv_iload_n hx hb dX12_spellsBlock_8 rfl (lv_at hl 2 rfl) ?_
  obtain ⟨s_2, hc_2, hf⟩ := cals_inv hf
  refine cc_Vv (r_X12_writesName (D := D) (y := y) (o := o) (ad := ad) (av := av) hc_2 l) hx hb hml hta hown hK hN hV hA hC hRc hRs (by omega) (by omega) wq_1387 (q := 0) (ci := 12) rfl rfl wq_1388 wq_1389 wq_1012 wq_1386 hd_X12_writesName (As := [.int 66, .int x2]) (rest := []) rfl rfl hl.1 rfl dX12_spellsBlock_9 (fun H locs hC => ?_)
  refine lv_aload_n hx hb dX12_spellsBlock_12 rfl (lv_at hl 0 rfl) ?_
  refine lv_iload_n hx hb dX12_spellsBlock_13 rfl (lv_at hl 3 rfl) ?_
  obtain ⟨s_3, hc_3, hf⟩ := cals_inv hf
  refine cc_Vv (r_X12_writes (D := D) (y := y) (o := o) (ad := ad) (av := av) hc_3 l) hx hb hml hta hown hK hN hV hA hC hRc hRs (by omega) (by omega) wq_1378 (q := 0) (ci := 12) rfl rfl wq_1379 wq_1380 wq_1012 wq_1376 hd_X12_writes (As := [.int x3]) (rest := []) rfl rfl hl.1 rfl dX12_spellsBlock_14 (fun H locs hC => ?_)
  exact hret _ _ _ _ _ (congrArg (WM y o) (Option.some.inj hf)) dX12_spellsBlock_17 hC

set_option maxHeartbeats 8000000 in
set_option maxRecDepth 100000 in
theorem r_X12_writesWord_s115 {D : va_G} {y : Nat → ClassId} {o : Nat → Nat} {ad av : Nat → Nat} {σ : Sto} {σ2 : Sto} (hf : f_X12_writesWord_s115 σ = some σ2) (l : Launch) (sz : Nat) : Met l yX12_writesWord (Cond.code yX12_writesWord cX12_writesWord 3 none :: ALW) { frames := 8, cells := 0, slots := 0, locals := 200 } (va_Pc [.ref (o 0), .ref (ad 115)] (PZ D y ad av (WM y o σ) sz)) (QZv D (WM y o σ) (WM y o σ2) sz) 0 0 (va_A (WM y o σ) sz) := by
  refine met_v (by decide) (Nat.le_of_ble_eq_true rfl) ?_
  intro p e R s m args below meth c Q A ls hx hb hml hta hown hRc hRs hRf hRl hN hK hV hA hret hC hl
  have hl : lv_has ls 3 [(0, .ref (o 0)), (1, .ref (ad 115))] := hl
  unfold f_X12_writesWord_s115 at hf
  refine lv_iconst (v := 0) hx hb dX12_writesWord_0 (by decide) ?_
  refine lv_istore_n (lv' := [(2, .int 0), (0, .ref (o 0)), (1, .ref (ad 115))]) hx hb dX12_writesWord_1 rfl hl (by decide) rfl (fun ls hl => ?_)
  refine itr_inv2 (P := fun (x2_1 : Int32) (s_1 : Sto) => ∀ (H : Heap) (locs : List Loc) (ls : Array Slot), CZ D A s H locs (WM y o s_1) → lv_has ls 3 [(0, .ref (o 0)), (1, .ref (ad 115)), (2, .int x2_1)] → W p l e R s m args below meth c H locs 0 0 Q (F0 m 2 ls [])) hf ?_ _ _ _ hC (lv_sub hl [1, 2, 0] rfl)
  intro a_2 x2_1 s_1 ha_2 hf H locs ls hC hl
  refine lv_iload_n hx hb dX12_writesWord_2 rfl (lv_at hl 2 rfl) ?_
  refine lv_aload_n hx hb dX12_writesWord_3 rfl (lv_at hl 1 rfl) ?_
  refine cc_length hx hb hml hta hown hK hN hV hA hC hRc hRs (by omega) (by omega) wq_1039 (i := 115) (n := 6) (by decide) (by decide) (by decide) hl.1 rfl dX12_writesWord_4 (fun H locs hC => ?_)
  refine lv_icmp_ge (tgt := 25) hx hb dX12_writesWord_7 (by decide) (fun c_2 => ?_) (fun c_2 => ?_)
  · have hf := it_t c_2 hf
    exact hret _ _ _ _ _ (congrArg (WM y o) (Option.some.inj hf)) dX12_writesWord_25 hC
  · have hf := it_f c_2 hf
    refine lv_aload_n hx hb dX12_writesWord_10 rfl (lv_at hl 0 rfl) ?_
    refine lv_aload_n hx hb dX12_writesWord_11 rfl (lv_at hl 1 rfl) ?_
    refine lv_iload_n hx hb dX12_writesWord_12 rfl (lv_at hl 2 rfl) ?_
    obtain ⟨hi_3, hf⟩ := ix_inv hf
    obtain ⟨v_3, e_3, hf⟩ := lt_inv hf
    refine cc_charAt hx hb hml hta hown hK hN hV hA hC hRc hRs (by omega) (by omega) wq_1040 (i := 115) (n := 6) (by decide) (by decide) (by decide) hi_3 e_3 hl.1 rfl dX12_writesWord_13 (fun H locs hC => ?_)
    obtain ⟨s_4, hc_4, hf⟩ := cals_inv hf
    refine cc_Vv (r_X12_writes (D := D) (y := y) (o := o) (ad := ad) (av := av) hc_4 l) hx hb hml hta hown hK hN hV hA hC hRc hRs (by omega) (by omega) wq_1378 (q := 0) (ci := 12) rfl rfl wq_1379 wq_1380 wq_1012 wq_1376 hd_X12_writes (As := [.int v_3]) (rest := []) rfl rfl hl.1 rfl dX12_writesWord_16 (fun H locs hC => ?_)
    obtain ⟨x2_5, e_5, hf⟩ := lt_inv hf
    refine lv_iinc (v := x2_5) (lv' := [(2, .int x2_5), (0, .ref (o 0)), (1, .ref (ad 115))]) hx hb dX12_writesWord_19 hl (k := 2) rfl e_5.symm (by decide) rfl (fun ls hl => ?_)
    refine lv_goto (tgt := 2) hx hb dX12_writesWord_22 (by decide) ?_
    exact ha_2 _ _ hf _ _ _ hC (lv_sub hl [1, 2, 0] rfl)

set_option maxHeartbeats 8000000 in
set_option maxRecDepth 100000 in
theorem r_X12_spellsBlock_s115 {D : va_G} {y : Nat → ClassId} {o : Nat → Nat} {ad av : Nat → Nat} {x2 : Int32} {x3 : Int32} {σ : Sto} {σ2 : Sto} (hf : f_X12_spellsBlock_s115 x2 x3 σ = some σ2) (l : Launch) (sz : Nat) : Met l yX12_spellsBlock (Cond.code yX12_spellsBlock cX12_spellsBlock 4 none :: ALW) { frames := 253, cells := 0, slots := 0, locals := 5314 } (va_Pc [.ref (o 0), .ref (ad 115), .int x2, .int x3] (PZ D y ad av (WM y o σ) sz)) (QZv D (WM y o σ) (WM y o σ2) sz) 0 0 (va_A (WM y o σ) sz) := by
  refine met_v (by decide) (Nat.le_of_ble_eq_true rfl) ?_
  intro p e R s m args below meth c Q A ls hx hb hml hta hown hRc hRs hRf hRl hN hK hV hA hret hC hl
  have hl : lv_has ls 4 [(0, .ref (o 0)), (1, .ref (ad 115)), (2, .int x2), (3, .int x3)] := hl
  unfold f_X12_spellsBlock_s115 at hf
  refine lv_aload_n hx hb dX12_spellsBlock_0 rfl (lv_at hl 0 rfl) ?_
  refine lv_aload_n hx hb dX12_spellsBlock_1 rfl (lv_at hl 1 rfl) ?_
  obtain ⟨s_1, hc_1, hf⟩ := cals_inv hf
  refine cc_Vv (r_X12_writesWord_s115 (D := D) (y := y) (o := o) (ad := ad) (av := av) hc_1 l) hx hb hml hta hown hK hN hV hA hC hRc hRs (by omega) (by omega) wq_1390 (q := 0) (ci := 12) rfl rfl wq_1391 wq_1392 wq_1012 wq_1381 hd_X12_writesWord (As := [.ref (ad 115)]) (rest := []) rfl rfl hl.1 rfl dX12_spellsBlock_2 (fun H locs hC => ?_)
  refine lv_aload_n hx hb dX12_spellsBlock_5 rfl (lv_at hl 0 rfl) ?_
  refine lv_bipush (v := 66) hx hb dX12_spellsBlock_6 (by decide) ?_
  refine lv_iload_n hx hb dX12_spellsBlock_8 rfl (lv_at hl 2 rfl) ?_
  obtain ⟨s_2, hc_2, hf⟩ := cals_inv hf
  refine cc_Vv (r_X12_writesName (D := D) (y := y) (o := o) (ad := ad) (av := av) hc_2 l) hx hb hml hta hown hK hN hV hA hC hRc hRs (by omega) (by omega) wq_1387 (q := 0) (ci := 12) rfl rfl wq_1388 wq_1389 wq_1012 wq_1386 hd_X12_writesName (As := [.int 66, .int x2]) (rest := []) rfl rfl hl.1 rfl dX12_spellsBlock_9 (fun H locs hC => ?_)
  refine lv_aload_n hx hb dX12_spellsBlock_12 rfl (lv_at hl 0 rfl) ?_
  refine lv_iload_n hx hb dX12_spellsBlock_13 rfl (lv_at hl 3 rfl) ?_
  obtain ⟨s_3, hc_3, hf⟩ := cals_inv hf
  refine cc_Vv (r_X12_writes (D := D) (y := y) (o := o) (ad := ad) (av := av) hc_3 l) hx hb hml hta hown hK hN hV hA hC hRc hRs (by omega) (by omega) wq_1378 (q := 0) (ci := 12) rfl rfl wq_1379 wq_1380 wq_1012 wq_1376 hd_X12_writes (As := [.int x3]) (rest := []) rfl rfl hl.1 rfl dX12_spellsBlock_14 (fun H locs hC => ?_)
  exact hret _ _ _ _ _ (congrArg (WM y o) (Option.some.inj hf)) dX12_spellsBlock_17 hC

set_option maxHeartbeats 8000000 in
set_option maxRecDepth 100000 in
theorem r_X12_writesWord_s116 {D : va_G} {y : Nat → ClassId} {o : Nat → Nat} {ad av : Nat → Nat} {σ : Sto} {σ2 : Sto} (hf : f_X12_writesWord_s116 σ = some σ2) (l : Launch) (sz : Nat) : Met l yX12_writesWord (Cond.code yX12_writesWord cX12_writesWord 3 none :: ALW) { frames := 8, cells := 0, slots := 0, locals := 200 } (va_Pc [.ref (o 0), .ref (ad 116)] (PZ D y ad av (WM y o σ) sz)) (QZv D (WM y o σ) (WM y o σ2) sz) 0 0 (va_A (WM y o σ) sz) := by
  refine met_v (by decide) (Nat.le_of_ble_eq_true rfl) ?_
  intro p e R s m args below meth c Q A ls hx hb hml hta hown hRc hRs hRf hRl hN hK hV hA hret hC hl
  have hl : lv_has ls 3 [(0, .ref (o 0)), (1, .ref (ad 116))] := hl
  unfold f_X12_writesWord_s116 at hf
  refine lv_iconst (v := 0) hx hb dX12_writesWord_0 (by decide) ?_
  refine lv_istore_n (lv' := [(2, .int 0), (0, .ref (o 0)), (1, .ref (ad 116))]) hx hb dX12_writesWord_1 rfl hl (by decide) rfl (fun ls hl => ?_)
  refine itr_inv2 (P := fun (x2_1 : Int32) (s_1 : Sto) => ∀ (H : Heap) (locs : List Loc) (ls : Array Slot), CZ D A s H locs (WM y o s_1) → lv_has ls 3 [(0, .ref (o 0)), (1, .ref (ad 116)), (2, .int x2_1)] → W p l e R s m args below meth c H locs 0 0 Q (F0 m 2 ls [])) hf ?_ _ _ _ hC (lv_sub hl [1, 2, 0] rfl)
  intro a_2 x2_1 s_1 ha_2 hf H locs ls hC hl
  refine lv_iload_n hx hb dX12_writesWord_2 rfl (lv_at hl 2 rfl) ?_
  refine lv_aload_n hx hb dX12_writesWord_3 rfl (lv_at hl 1 rfl) ?_
  refine cc_length hx hb hml hta hown hK hN hV hA hC hRc hRs (by omega) (by omega) wq_1039 (i := 116) (n := 3) (by decide) (by decide) (by decide) hl.1 rfl dX12_writesWord_4 (fun H locs hC => ?_)
  refine lv_icmp_ge (tgt := 25) hx hb dX12_writesWord_7 (by decide) (fun c_2 => ?_) (fun c_2 => ?_)
  · have hf := it_t c_2 hf
    exact hret _ _ _ _ _ (congrArg (WM y o) (Option.some.inj hf)) dX12_writesWord_25 hC
  · have hf := it_f c_2 hf
    refine lv_aload_n hx hb dX12_writesWord_10 rfl (lv_at hl 0 rfl) ?_
    refine lv_aload_n hx hb dX12_writesWord_11 rfl (lv_at hl 1 rfl) ?_
    refine lv_iload_n hx hb dX12_writesWord_12 rfl (lv_at hl 2 rfl) ?_
    obtain ⟨hi_3, hf⟩ := ix_inv hf
    obtain ⟨v_3, e_3, hf⟩ := lt_inv hf
    refine cc_charAt hx hb hml hta hown hK hN hV hA hC hRc hRs (by omega) (by omega) wq_1040 (i := 116) (n := 3) (by decide) (by decide) (by decide) hi_3 e_3 hl.1 rfl dX12_writesWord_13 (fun H locs hC => ?_)
    obtain ⟨s_4, hc_4, hf⟩ := cals_inv hf
    refine cc_Vv (r_X12_writes (D := D) (y := y) (o := o) (ad := ad) (av := av) hc_4 l) hx hb hml hta hown hK hN hV hA hC hRc hRs (by omega) (by omega) wq_1378 (q := 0) (ci := 12) rfl rfl wq_1379 wq_1380 wq_1012 wq_1376 hd_X12_writes (As := [.int v_3]) (rest := []) rfl rfl hl.1 rfl dX12_writesWord_16 (fun H locs hC => ?_)
    obtain ⟨x2_5, e_5, hf⟩ := lt_inv hf
    refine lv_iinc (v := x2_5) (lv' := [(2, .int x2_5), (0, .ref (o 0)), (1, .ref (ad 116))]) hx hb dX12_writesWord_19 hl (k := 2) rfl e_5.symm (by decide) rfl (fun ls hl => ?_)
    refine lv_goto (tgt := 2) hx hb dX12_writesWord_22 (by decide) ?_
    exact ha_2 _ _ hf _ _ _ hC (lv_sub hl [1, 2, 0] rfl)

set_option maxHeartbeats 8000000 in
set_option maxRecDepth 100000 in
theorem r_X12_writesWord_s117 {D : va_G} {y : Nat → ClassId} {o : Nat → Nat} {ad av : Nat → Nat} {σ : Sto} {σ2 : Sto} (hf : f_X12_writesWord_s117 σ = some σ2) (l : Launch) (sz : Nat) : Met l yX12_writesWord (Cond.code yX12_writesWord cX12_writesWord 3 none :: ALW) { frames := 8, cells := 0, slots := 0, locals := 200 } (va_Pc [.ref (o 0), .ref (ad 117)] (PZ D y ad av (WM y o σ) sz)) (QZv D (WM y o σ) (WM y o σ2) sz) 0 0 (va_A (WM y o σ) sz) := by
  refine met_v (by decide) (Nat.le_of_ble_eq_true rfl) ?_
  intro p e R s m args below meth c Q A ls hx hb hml hta hown hRc hRs hRf hRl hN hK hV hA hret hC hl
  have hl : lv_has ls 3 [(0, .ref (o 0)), (1, .ref (ad 117))] := hl
  unfold f_X12_writesWord_s117 at hf
  refine lv_iconst (v := 0) hx hb dX12_writesWord_0 (by decide) ?_
  refine lv_istore_n (lv' := [(2, .int 0), (0, .ref (o 0)), (1, .ref (ad 117))]) hx hb dX12_writesWord_1 rfl hl (by decide) rfl (fun ls hl => ?_)
  refine itr_inv2 (P := fun (x2_1 : Int32) (s_1 : Sto) => ∀ (H : Heap) (locs : List Loc) (ls : Array Slot), CZ D A s H locs (WM y o s_1) → lv_has ls 3 [(0, .ref (o 0)), (1, .ref (ad 117)), (2, .int x2_1)] → W p l e R s m args below meth c H locs 0 0 Q (F0 m 2 ls [])) hf ?_ _ _ _ hC (lv_sub hl [1, 2, 0] rfl)
  intro a_2 x2_1 s_1 ha_2 hf H locs ls hC hl
  refine lv_iload_n hx hb dX12_writesWord_2 rfl (lv_at hl 2 rfl) ?_
  refine lv_aload_n hx hb dX12_writesWord_3 rfl (lv_at hl 1 rfl) ?_
  refine cc_length hx hb hml hta hown hK hN hV hA hC hRc hRs (by omega) (by omega) wq_1039 (i := 117) (n := 5) (by decide) (by decide) (by decide) hl.1 rfl dX12_writesWord_4 (fun H locs hC => ?_)
  refine lv_icmp_ge (tgt := 25) hx hb dX12_writesWord_7 (by decide) (fun c_2 => ?_) (fun c_2 => ?_)
  · have hf := it_t c_2 hf
    exact hret _ _ _ _ _ (congrArg (WM y o) (Option.some.inj hf)) dX12_writesWord_25 hC
  · have hf := it_f c_2 hf
    refine lv_aload_n hx hb dX12_writesWord_10 rfl (lv_at hl 0 rfl) ?_
    refine lv_aload_n hx hb dX12_writesWord_11 rfl (lv_at hl 1 rfl) ?_
    refine lv_iload_n hx hb dX12_writesWord_12 rfl (lv_at hl 2 rfl) ?_
    obtain ⟨hi_3, hf⟩ := ix_inv hf
    obtain ⟨v_3, e_3, hf⟩ := lt_inv hf
    refine cc_charAt hx hb hml hta hown hK hN hV hA hC hRc hRs (by omega) (by omega) wq_1040 (i := 117) (n := 5) (by decide) (by decide) (by decide) hi_3 e_3 hl.1 rfl dX12_writesWord_13 (fun H locs hC => ?_)
    obtain ⟨s_4, hc_4, hf⟩ := cals_inv hf
    refine cc_Vv (r_X12_writes (D := D) (y := y) (o := o) (ad := ad) (av := av) hc_4 l) hx hb hml hta hown hK hN hV hA hC hRc hRs (by omega) (by omega) wq_1378 (q := 0) (ci := 12) rfl rfl wq_1379 wq_1380 wq_1012 wq_1376 hd_X12_writes (As := [.int v_3]) (rest := []) rfl rfl hl.1 rfl dX12_writesWord_16 (fun H locs hC => ?_)
    obtain ⟨x2_5, e_5, hf⟩ := lt_inv hf
    refine lv_iinc (v := x2_5) (lv' := [(2, .int x2_5), (0, .ref (o 0)), (1, .ref (ad 117))]) hx hb dX12_writesWord_19 hl (k := 2) rfl e_5.symm (by decide) rfl (fun ls hl => ?_)
    refine lv_goto (tgt := 2) hx hb dX12_writesWord_22 (by decide) ?_
    exact ha_2 _ _ hf _ _ _ hC (lv_sub hl [1, 2, 0] rfl)

set_option maxHeartbeats 8000000 in
set_option maxRecDepth 100000 in
theorem r_X12_writesWord_s118 {D : va_G} {y : Nat → ClassId} {o : Nat → Nat} {ad av : Nat → Nat} {σ : Sto} {σ2 : Sto} (hf : f_X12_writesWord_s118 σ = some σ2) (l : Launch) (sz : Nat) : Met l yX12_writesWord (Cond.code yX12_writesWord cX12_writesWord 3 none :: ALW) { frames := 8, cells := 0, slots := 0, locals := 200 } (va_Pc [.ref (o 0), .ref (ad 118)] (PZ D y ad av (WM y o σ) sz)) (QZv D (WM y o σ) (WM y o σ2) sz) 0 0 (va_A (WM y o σ) sz) := by
  refine met_v (by decide) (Nat.le_of_ble_eq_true rfl) ?_
  intro p e R s m args below meth c Q A ls hx hb hml hta hown hRc hRs hRf hRl hN hK hV hA hret hC hl
  have hl : lv_has ls 3 [(0, .ref (o 0)), (1, .ref (ad 118))] := hl
  unfold f_X12_writesWord_s118 at hf
  refine lv_iconst (v := 0) hx hb dX12_writesWord_0 (by decide) ?_
  refine lv_istore_n (lv' := [(2, .int 0), (0, .ref (o 0)), (1, .ref (ad 118))]) hx hb dX12_writesWord_1 rfl hl (by decide) rfl (fun ls hl => ?_)
  refine itr_inv2 (P := fun (x2_1 : Int32) (s_1 : Sto) => ∀ (H : Heap) (locs : List Loc) (ls : Array Slot), CZ D A s H locs (WM y o s_1) → lv_has ls 3 [(0, .ref (o 0)), (1, .ref (ad 118)), (2, .int x2_1)] → W p l e R s m args below meth c H locs 0 0 Q (F0 m 2 ls [])) hf ?_ _ _ _ hC (lv_sub hl [1, 2, 0] rfl)
  intro a_2 x2_1 s_1 ha_2 hf H locs ls hC hl
  refine lv_iload_n hx hb dX12_writesWord_2 rfl (lv_at hl 2 rfl) ?_
  refine lv_aload_n hx hb dX12_writesWord_3 rfl (lv_at hl 1 rfl) ?_
  refine cc_length hx hb hml hta hown hK hN hV hA hC hRc hRs (by omega) (by omega) wq_1039 (i := 118) (n := 6) (by decide) (by decide) (by decide) hl.1 rfl dX12_writesWord_4 (fun H locs hC => ?_)
  refine lv_icmp_ge (tgt := 25) hx hb dX12_writesWord_7 (by decide) (fun c_2 => ?_) (fun c_2 => ?_)
  · have hf := it_t c_2 hf
    exact hret _ _ _ _ _ (congrArg (WM y o) (Option.some.inj hf)) dX12_writesWord_25 hC
  · have hf := it_f c_2 hf
    refine lv_aload_n hx hb dX12_writesWord_10 rfl (lv_at hl 0 rfl) ?_
    refine lv_aload_n hx hb dX12_writesWord_11 rfl (lv_at hl 1 rfl) ?_
    refine lv_iload_n hx hb dX12_writesWord_12 rfl (lv_at hl 2 rfl) ?_
    obtain ⟨hi_3, hf⟩ := ix_inv hf
    obtain ⟨v_3, e_3, hf⟩ := lt_inv hf
    refine cc_charAt hx hb hml hta hown hK hN hV hA hC hRc hRs (by omega) (by omega) wq_1040 (i := 118) (n := 6) (by decide) (by decide) (by decide) hi_3 e_3 hl.1 rfl dX12_writesWord_13 (fun H locs hC => ?_)
    obtain ⟨s_4, hc_4, hf⟩ := cals_inv hf
    refine cc_Vv (r_X12_writes (D := D) (y := y) (o := o) (ad := ad) (av := av) hc_4 l) hx hb hml hta hown hK hN hV hA hC hRc hRs (by omega) (by omega) wq_1378 (q := 0) (ci := 12) rfl rfl wq_1379 wq_1380 wq_1012 wq_1376 hd_X12_writes (As := [.int v_3]) (rest := []) rfl rfl hl.1 rfl dX12_writesWord_16 (fun H locs hC => ?_)
    obtain ⟨x2_5, e_5, hf⟩ := lt_inv hf
    refine lv_iinc (v := x2_5) (lv' := [(2, .int x2_5), (0, .ref (o 0)), (1, .ref (ad 118))]) hx hb dX12_writesWord_19 hl (k := 2) rfl e_5.symm (by decide) rfl (fun ls hl => ?_)
    refine lv_goto (tgt := 2) hx hb dX12_writesWord_22 (by decide) ?_
    exact ha_2 _ _ hf _ _ _ hC (lv_sub hl [1, 2, 0] rfl)

set_option maxHeartbeats 8000000 in
set_option maxRecDepth 100000 in
theorem r_X12_spellsBlock_s118 {D : va_G} {y : Nat → ClassId} {o : Nat → Nat} {ad av : Nat → Nat} {x2 : Int32} {x3 : Int32} {σ : Sto} {σ2 : Sto} (hf : f_X12_spellsBlock_s118 x2 x3 σ = some σ2) (l : Launch) (sz : Nat) : Met l yX12_spellsBlock (Cond.code yX12_spellsBlock cX12_spellsBlock 4 none :: ALW) { frames := 253, cells := 0, slots := 0, locals := 5314 } (va_Pc [.ref (o 0), .ref (ad 118), .int x2, .int x3] (PZ D y ad av (WM y o σ) sz)) (QZv D (WM y o σ) (WM y o σ2) sz) 0 0 (va_A (WM y o σ) sz) := by
  refine met_v (by decide) (Nat.le_of_ble_eq_true rfl) ?_
  intro p e R s m args below meth c Q A ls hx hb hml hta hown hRc hRs hRf hRl hN hK hV hA hret hC hl
  have hl : lv_has ls 4 [(0, .ref (o 0)), (1, .ref (ad 118)), (2, .int x2), (3, .int x3)] := hl
  unfold f_X12_spellsBlock_s118 at hf
  refine lv_aload_n hx hb dX12_spellsBlock_0 rfl (lv_at hl 0 rfl) ?_
  refine lv_aload_n hx hb dX12_spellsBlock_1 rfl (lv_at hl 1 rfl) ?_
  obtain ⟨s_1, hc_1, hf⟩ := cals_inv hf
  refine cc_Vv (r_X12_writesWord_s118 (D := D) (y := y) (o := o) (ad := ad) (av := av) hc_1 l) hx hb hml hta hown hK hN hV hA hC hRc hRs (by omega) (by omega) wq_1390 (q := 0) (ci := 12) rfl rfl wq_1391 wq_1392 wq_1012 wq_1381 hd_X12_writesWord (As := [.ref (ad 118)]) (rest := []) rfl rfl hl.1 rfl dX12_spellsBlock_2 (fun H locs hC => ?_)
  refine lv_aload_n hx hb dX12_spellsBlock_5 rfl (lv_at hl 0 rfl) ?_
  refine lv_bipush (v := 66) hx hb dX12_spellsBlock_6 (by decide) ?_
  refine lv_iload_n hx hb dX12_spellsBlock_8 rfl (lv_at hl 2 rfl) ?_
  obtain ⟨s_2, hc_2, hf⟩ := cals_inv hf
  refine cc_Vv (r_X12_writesName (D := D) (y := y) (o := o) (ad := ad) (av := av) hc_2 l) hx hb hml hta hown hK hN hV hA hC hRc hRs (by omega) (by omega) wq_1387 (q := 0) (ci := 12) rfl rfl wq_1388 wq_1389 wq_1012 wq_1386 hd_X12_writesName (As := [.int 66, .int x2]) (rest := []) rfl rfl hl.1 rfl dX12_spellsBlock_9 (fun H locs hC => ?_)
  refine lv_aload_n hx hb dX12_spellsBlock_12 rfl (lv_at hl 0 rfl) ?_
  refine lv_iload_n hx hb dX12_spellsBlock_13 rfl (lv_at hl 3 rfl) ?_
  obtain ⟨s_3, hc_3, hf⟩ := cals_inv hf
  refine cc_Vv (r_X12_writes (D := D) (y := y) (o := o) (ad := ad) (av := av) hc_3 l) hx hb hml hta hown hK hN hV hA hC hRc hRs (by omega) (by omega) wq_1378 (q := 0) (ci := 12) rfl rfl wq_1379 wq_1380 wq_1012 wq_1376 hd_X12_writes (As := [.int x3]) (rest := []) rfl rfl hl.1 rfl dX12_spellsBlock_14 (fun H locs hC => ?_)
  exact hret _ _ _ _ _ (congrArg (WM y o) (Option.some.inj hf)) dX12_spellsBlock_17 hC

set_option maxHeartbeats 8000000 in
set_option maxRecDepth 100000 in
theorem r_X12_writesWord_s119 {D : va_G} {y : Nat → ClassId} {o : Nat → Nat} {ad av : Nat → Nat} {σ : Sto} {σ2 : Sto} (hf : f_X12_writesWord_s119 σ = some σ2) (l : Launch) (sz : Nat) : Met l yX12_writesWord (Cond.code yX12_writesWord cX12_writesWord 3 none :: ALW) { frames := 8, cells := 0, slots := 0, locals := 200 } (va_Pc [.ref (o 0), .ref (ad 119)] (PZ D y ad av (WM y o σ) sz)) (QZv D (WM y o σ) (WM y o σ2) sz) 0 0 (va_A (WM y o σ) sz) := by
  refine met_v (by decide) (Nat.le_of_ble_eq_true rfl) ?_
  intro p e R s m args below meth c Q A ls hx hb hml hta hown hRc hRs hRf hRl hN hK hV hA hret hC hl
  have hl : lv_has ls 3 [(0, .ref (o 0)), (1, .ref (ad 119))] := hl
  unfold f_X12_writesWord_s119 at hf
  refine lv_iconst (v := 0) hx hb dX12_writesWord_0 (by decide) ?_
  refine lv_istore_n (lv' := [(2, .int 0), (0, .ref (o 0)), (1, .ref (ad 119))]) hx hb dX12_writesWord_1 rfl hl (by decide) rfl (fun ls hl => ?_)
  refine itr_inv2 (P := fun (x2_1 : Int32) (s_1 : Sto) => ∀ (H : Heap) (locs : List Loc) (ls : Array Slot), CZ D A s H locs (WM y o s_1) → lv_has ls 3 [(0, .ref (o 0)), (1, .ref (ad 119)), (2, .int x2_1)] → W p l e R s m args below meth c H locs 0 0 Q (F0 m 2 ls [])) hf ?_ _ _ _ hC (lv_sub hl [1, 2, 0] rfl)
  intro a_2 x2_1 s_1 ha_2 hf H locs ls hC hl
  refine lv_iload_n hx hb dX12_writesWord_2 rfl (lv_at hl 2 rfl) ?_
  refine lv_aload_n hx hb dX12_writesWord_3 rfl (lv_at hl 1 rfl) ?_
  refine cc_length hx hb hml hta hown hK hN hV hA hC hRc hRs (by omega) (by omega) wq_1039 (i := 119) (n := 9) (by decide) (by decide) (by decide) hl.1 rfl dX12_writesWord_4 (fun H locs hC => ?_)
  refine lv_icmp_ge (tgt := 25) hx hb dX12_writesWord_7 (by decide) (fun c_2 => ?_) (fun c_2 => ?_)
  · have hf := it_t c_2 hf
    exact hret _ _ _ _ _ (congrArg (WM y o) (Option.some.inj hf)) dX12_writesWord_25 hC
  · have hf := it_f c_2 hf
    refine lv_aload_n hx hb dX12_writesWord_10 rfl (lv_at hl 0 rfl) ?_
    refine lv_aload_n hx hb dX12_writesWord_11 rfl (lv_at hl 1 rfl) ?_
    refine lv_iload_n hx hb dX12_writesWord_12 rfl (lv_at hl 2 rfl) ?_
    obtain ⟨hi_3, hf⟩ := ix_inv hf
    obtain ⟨v_3, e_3, hf⟩ := lt_inv hf
    refine cc_charAt hx hb hml hta hown hK hN hV hA hC hRc hRs (by omega) (by omega) wq_1040 (i := 119) (n := 9) (by decide) (by decide) (by decide) hi_3 e_3 hl.1 rfl dX12_writesWord_13 (fun H locs hC => ?_)
    obtain ⟨s_4, hc_4, hf⟩ := cals_inv hf
    refine cc_Vv (r_X12_writes (D := D) (y := y) (o := o) (ad := ad) (av := av) hc_4 l) hx hb hml hta hown hK hN hV hA hC hRc hRs (by omega) (by omega) wq_1378 (q := 0) (ci := 12) rfl rfl wq_1379 wq_1380 wq_1012 wq_1376 hd_X12_writes (As := [.int v_3]) (rest := []) rfl rfl hl.1 rfl dX12_writesWord_16 (fun H locs hC => ?_)
    obtain ⟨x2_5, e_5, hf⟩ := lt_inv hf
    refine lv_iinc (v := x2_5) (lv' := [(2, .int x2_5), (0, .ref (o 0)), (1, .ref (ad 119))]) hx hb dX12_writesWord_19 hl (k := 2) rfl e_5.symm (by decide) rfl (fun ls hl => ?_)
    refine lv_goto (tgt := 2) hx hb dX12_writesWord_22 (by decide) ?_
    exact ha_2 _ _ hf _ _ _ hC (lv_sub hl [1, 2, 0] rfl)

set_option maxHeartbeats 8000000 in
set_option maxRecDepth 100000 in
theorem r_X12_spellsBlock_s119 {D : va_G} {y : Nat → ClassId} {o : Nat → Nat} {ad av : Nat → Nat} {x2 : Int32} {x3 : Int32} {σ : Sto} {σ2 : Sto} (hf : f_X12_spellsBlock_s119 x2 x3 σ = some σ2) (l : Launch) (sz : Nat) : Met l yX12_spellsBlock (Cond.code yX12_spellsBlock cX12_spellsBlock 4 none :: ALW) { frames := 253, cells := 0, slots := 0, locals := 5314 } (va_Pc [.ref (o 0), .ref (ad 119), .int x2, .int x3] (PZ D y ad av (WM y o σ) sz)) (QZv D (WM y o σ) (WM y o σ2) sz) 0 0 (va_A (WM y o σ) sz) := by
  refine met_v (by decide) (Nat.le_of_ble_eq_true rfl) ?_
  intro p e R s m args below meth c Q A ls hx hb hml hta hown hRc hRs hRf hRl hN hK hV hA hret hC hl
  have hl : lv_has ls 4 [(0, .ref (o 0)), (1, .ref (ad 119)), (2, .int x2), (3, .int x3)] := hl
  unfold f_X12_spellsBlock_s119 at hf
  refine lv_aload_n hx hb dX12_spellsBlock_0 rfl (lv_at hl 0 rfl) ?_
  refine lv_aload_n hx hb dX12_spellsBlock_1 rfl (lv_at hl 1 rfl) ?_
  obtain ⟨s_1, hc_1, hf⟩ := cals_inv hf
  refine cc_Vv (r_X12_writesWord_s119 (D := D) (y := y) (o := o) (ad := ad) (av := av) hc_1 l) hx hb hml hta hown hK hN hV hA hC hRc hRs (by omega) (by omega) wq_1390 (q := 0) (ci := 12) rfl rfl wq_1391 wq_1392 wq_1012 wq_1381 hd_X12_writesWord (As := [.ref (ad 119)]) (rest := []) rfl rfl hl.1 rfl dX12_spellsBlock_2 (fun H locs hC => ?_)
  refine lv_aload_n hx hb dX12_spellsBlock_5 rfl (lv_at hl 0 rfl) ?_
  refine lv_bipush (v := 66) hx hb dX12_spellsBlock_6 (by decide) ?_
  refine lv_iload_n hx hb dX12_spellsBlock_8 rfl (lv_at hl 2 rfl) ?_
  obtain ⟨s_2, hc_2, hf⟩ := cals_inv hf
  refine cc_Vv (r_X12_writesName (D := D) (y := y) (o := o) (ad := ad) (av := av) hc_2 l) hx hb hml hta hown hK hN hV hA hC hRc hRs (by omega) (by omega) wq_1387 (q := 0) (ci := 12) rfl rfl wq_1388 wq_1389 wq_1012 wq_1386 hd_X12_writesName (As := [.int 66, .int x2]) (rest := []) rfl rfl hl.1 rfl dX12_spellsBlock_9 (fun H locs hC => ?_)
  refine lv_aload_n hx hb dX12_spellsBlock_12 rfl (lv_at hl 0 rfl) ?_
  refine lv_iload_n hx hb dX12_spellsBlock_13 rfl (lv_at hl 3 rfl) ?_
  obtain ⟨s_3, hc_3, hf⟩ := cals_inv hf
  refine cc_Vv (r_X12_writes (D := D) (y := y) (o := o) (ad := ad) (av := av) hc_3 l) hx hb hml hta hown hK hN hV hA hC hRc hRs (by omega) (by omega) wq_1378 (q := 0) (ci := 12) rfl rfl wq_1379 wq_1380 wq_1012 wq_1376 hd_X12_writes (As := [.int x3]) (rest := []) rfl rfl hl.1 rfl dX12_spellsBlock_14 (fun H locs hC => ?_)
  exact hret _ _ _ _ _ (congrArg (WM y o) (Option.some.inj hf)) dX12_spellsBlock_17 hC

set_option maxHeartbeats 8000000 in
set_option maxRecDepth 100000 in
theorem r_X12_writesWord_s120 {D : va_G} {y : Nat → ClassId} {o : Nat → Nat} {ad av : Nat → Nat} {σ : Sto} {σ2 : Sto} (hf : f_X12_writesWord_s120 σ = some σ2) (l : Launch) (sz : Nat) : Met l yX12_writesWord (Cond.code yX12_writesWord cX12_writesWord 3 none :: ALW) { frames := 8, cells := 0, slots := 0, locals := 200 } (va_Pc [.ref (o 0), .ref (ad 120)] (PZ D y ad av (WM y o σ) sz)) (QZv D (WM y o σ) (WM y o σ2) sz) 0 0 (va_A (WM y o σ) sz) := by
  refine met_v (by decide) (Nat.le_of_ble_eq_true rfl) ?_
  intro p e R s m args below meth c Q A ls hx hb hml hta hown hRc hRs hRf hRl hN hK hV hA hret hC hl
  have hl : lv_has ls 3 [(0, .ref (o 0)), (1, .ref (ad 120))] := hl
  unfold f_X12_writesWord_s120 at hf
  refine lv_iconst (v := 0) hx hb dX12_writesWord_0 (by decide) ?_
  refine lv_istore_n (lv' := [(2, .int 0), (0, .ref (o 0)), (1, .ref (ad 120))]) hx hb dX12_writesWord_1 rfl hl (by decide) rfl (fun ls hl => ?_)
  refine itr_inv2 (P := fun (x2_1 : Int32) (s_1 : Sto) => ∀ (H : Heap) (locs : List Loc) (ls : Array Slot), CZ D A s H locs (WM y o s_1) → lv_has ls 3 [(0, .ref (o 0)), (1, .ref (ad 120)), (2, .int x2_1)] → W p l e R s m args below meth c H locs 0 0 Q (F0 m 2 ls [])) hf ?_ _ _ _ hC (lv_sub hl [1, 2, 0] rfl)
  intro a_2 x2_1 s_1 ha_2 hf H locs ls hC hl
  refine lv_iload_n hx hb dX12_writesWord_2 rfl (lv_at hl 2 rfl) ?_
  refine lv_aload_n hx hb dX12_writesWord_3 rfl (lv_at hl 1 rfl) ?_
  refine cc_length hx hb hml hta hown hK hN hV hA hC hRc hRs (by omega) (by omega) wq_1039 (i := 120) (n := 5) (by decide) (by decide) (by decide) hl.1 rfl dX12_writesWord_4 (fun H locs hC => ?_)
  refine lv_icmp_ge (tgt := 25) hx hb dX12_writesWord_7 (by decide) (fun c_2 => ?_) (fun c_2 => ?_)
  · have hf := it_t c_2 hf
    exact hret _ _ _ _ _ (congrArg (WM y o) (Option.some.inj hf)) dX12_writesWord_25 hC
  · have hf := it_f c_2 hf
    refine lv_aload_n hx hb dX12_writesWord_10 rfl (lv_at hl 0 rfl) ?_
    refine lv_aload_n hx hb dX12_writesWord_11 rfl (lv_at hl 1 rfl) ?_
    refine lv_iload_n hx hb dX12_writesWord_12 rfl (lv_at hl 2 rfl) ?_
    obtain ⟨hi_3, hf⟩ := ix_inv hf
    obtain ⟨v_3, e_3, hf⟩ := lt_inv hf
    refine cc_charAt hx hb hml hta hown hK hN hV hA hC hRc hRs (by omega) (by omega) wq_1040 (i := 120) (n := 5) (by decide) (by decide) (by decide) hi_3 e_3 hl.1 rfl dX12_writesWord_13 (fun H locs hC => ?_)
    obtain ⟨s_4, hc_4, hf⟩ := cals_inv hf
    refine cc_Vv (r_X12_writes (D := D) (y := y) (o := o) (ad := ad) (av := av) hc_4 l) hx hb hml hta hown hK hN hV hA hC hRc hRs (by omega) (by omega) wq_1378 (q := 0) (ci := 12) rfl rfl wq_1379 wq_1380 wq_1012 wq_1376 hd_X12_writes (As := [.int v_3]) (rest := []) rfl rfl hl.1 rfl dX12_writesWord_16 (fun H locs hC => ?_)
    obtain ⟨x2_5, e_5, hf⟩ := lt_inv hf
    refine lv_iinc (v := x2_5) (lv' := [(2, .int x2_5), (0, .ref (o 0)), (1, .ref (ad 120))]) hx hb dX12_writesWord_19 hl (k := 2) rfl e_5.symm (by decide) rfl (fun ls hl => ?_)
    refine lv_goto (tgt := 2) hx hb dX12_writesWord_22 (by decide) ?_
    exact ha_2 _ _ hf _ _ _ hC (lv_sub hl [1, 2, 0] rfl)

set_option maxHeartbeats 8000000 in
set_option maxRecDepth 100000 in
theorem r_X12_spellsBlock_s120 {D : va_G} {y : Nat → ClassId} {o : Nat → Nat} {ad av : Nat → Nat} {x2 : Int32} {x3 : Int32} {σ : Sto} {σ2 : Sto} (hf : f_X12_spellsBlock_s120 x2 x3 σ = some σ2) (l : Launch) (sz : Nat) : Met l yX12_spellsBlock (Cond.code yX12_spellsBlock cX12_spellsBlock 4 none :: ALW) { frames := 253, cells := 0, slots := 0, locals := 5314 } (va_Pc [.ref (o 0), .ref (ad 120), .int x2, .int x3] (PZ D y ad av (WM y o σ) sz)) (QZv D (WM y o σ) (WM y o σ2) sz) 0 0 (va_A (WM y o σ) sz) := by
  refine met_v (by decide) (Nat.le_of_ble_eq_true rfl) ?_
  intro p e R s m args below meth c Q A ls hx hb hml hta hown hRc hRs hRf hRl hN hK hV hA hret hC hl
  have hl : lv_has ls 4 [(0, .ref (o 0)), (1, .ref (ad 120)), (2, .int x2), (3, .int x3)] := hl
  unfold f_X12_spellsBlock_s120 at hf
  refine lv_aload_n hx hb dX12_spellsBlock_0 rfl (lv_at hl 0 rfl) ?_
  refine lv_aload_n hx hb dX12_spellsBlock_1 rfl (lv_at hl 1 rfl) ?_
  obtain ⟨s_1, hc_1, hf⟩ := cals_inv hf
  refine cc_Vv (r_X12_writesWord_s120 (D := D) (y := y) (o := o) (ad := ad) (av := av) hc_1 l) hx hb hml hta hown hK hN hV hA hC hRc hRs (by omega) (by omega) wq_1390 (q := 0) (ci := 12) rfl rfl wq_1391 wq_1392 wq_1012 wq_1381 hd_X12_writesWord (As := [.ref (ad 120)]) (rest := []) rfl rfl hl.1 rfl dX12_spellsBlock_2 (fun H locs hC => ?_)
  refine lv_aload_n hx hb dX12_spellsBlock_5 rfl (lv_at hl 0 rfl) ?_
  refine lv_bipush (v := 66) hx hb dX12_spellsBlock_6 (by decide) ?_
  refine lv_iload_n hx hb dX12_spellsBlock_8 rfl (lv_at hl 2 rfl) ?_
  obtain ⟨s_2, hc_2, hf⟩ := cals_inv hf
  refine cc_Vv (r_X12_writesName (D := D) (y := y) (o := o) (ad := ad) (av := av) hc_2 l) hx hb hml hta hown hK hN hV hA hC hRc hRs (by omega) (by omega) wq_1387 (q := 0) (ci := 12) rfl rfl wq_1388 wq_1389 wq_1012 wq_1386 hd_X12_writesName (As := [.int 66, .int x2]) (rest := []) rfl rfl hl.1 rfl dX12_spellsBlock_9 (fun H locs hC => ?_)
  refine lv_aload_n hx hb dX12_spellsBlock_12 rfl (lv_at hl 0 rfl) ?_
  refine lv_iload_n hx hb dX12_spellsBlock_13 rfl (lv_at hl 3 rfl) ?_
  obtain ⟨s_3, hc_3, hf⟩ := cals_inv hf
  refine cc_Vv (r_X12_writes (D := D) (y := y) (o := o) (ad := ad) (av := av) hc_3 l) hx hb hml hta hown hK hN hV hA hC hRc hRs (by omega) (by omega) wq_1378 (q := 0) (ci := 12) rfl rfl wq_1379 wq_1380 wq_1012 wq_1376 hd_X12_writes (As := [.int x3]) (rest := []) rfl rfl hl.1 rfl dX12_spellsBlock_14 (fun H locs hC => ?_)
  exact hret _ _ _ _ _ (congrArg (WM y o) (Option.some.inj hf)) dX12_spellsBlock_17 hC

set_option maxHeartbeats 8000000 in
set_option maxRecDepth 100000 in
theorem r_X12_writesWord_s121 {D : va_G} {y : Nat → ClassId} {o : Nat → Nat} {ad av : Nat → Nat} {σ : Sto} {σ2 : Sto} (hf : f_X12_writesWord_s121 σ = some σ2) (l : Launch) (sz : Nat) : Met l yX12_writesWord (Cond.code yX12_writesWord cX12_writesWord 3 none :: ALW) { frames := 8, cells := 0, slots := 0, locals := 200 } (va_Pc [.ref (o 0), .ref (ad 121)] (PZ D y ad av (WM y o σ) sz)) (QZv D (WM y o σ) (WM y o σ2) sz) 0 0 (va_A (WM y o σ) sz) := by
  refine met_v (by decide) (Nat.le_of_ble_eq_true rfl) ?_
  intro p e R s m args below meth c Q A ls hx hb hml hta hown hRc hRs hRf hRl hN hK hV hA hret hC hl
  have hl : lv_has ls 3 [(0, .ref (o 0)), (1, .ref (ad 121))] := hl
  unfold f_X12_writesWord_s121 at hf
  refine lv_iconst (v := 0) hx hb dX12_writesWord_0 (by decide) ?_
  refine lv_istore_n (lv' := [(2, .int 0), (0, .ref (o 0)), (1, .ref (ad 121))]) hx hb dX12_writesWord_1 rfl hl (by decide) rfl (fun ls hl => ?_)
  refine itr_inv2 (P := fun (x2_1 : Int32) (s_1 : Sto) => ∀ (H : Heap) (locs : List Loc) (ls : Array Slot), CZ D A s H locs (WM y o s_1) → lv_has ls 3 [(0, .ref (o 0)), (1, .ref (ad 121)), (2, .int x2_1)] → W p l e R s m args below meth c H locs 0 0 Q (F0 m 2 ls [])) hf ?_ _ _ _ hC (lv_sub hl [1, 2, 0] rfl)
  intro a_2 x2_1 s_1 ha_2 hf H locs ls hC hl
  refine lv_iload_n hx hb dX12_writesWord_2 rfl (lv_at hl 2 rfl) ?_
  refine lv_aload_n hx hb dX12_writesWord_3 rfl (lv_at hl 1 rfl) ?_
  refine cc_length hx hb hml hta hown hK hN hV hA hC hRc hRs (by omega) (by omega) wq_1039 (i := 121) (n := 4) (by decide) (by decide) (by decide) hl.1 rfl dX12_writesWord_4 (fun H locs hC => ?_)
  refine lv_icmp_ge (tgt := 25) hx hb dX12_writesWord_7 (by decide) (fun c_2 => ?_) (fun c_2 => ?_)
  · have hf := it_t c_2 hf
    exact hret _ _ _ _ _ (congrArg (WM y o) (Option.some.inj hf)) dX12_writesWord_25 hC
  · have hf := it_f c_2 hf
    refine lv_aload_n hx hb dX12_writesWord_10 rfl (lv_at hl 0 rfl) ?_
    refine lv_aload_n hx hb dX12_writesWord_11 rfl (lv_at hl 1 rfl) ?_
    refine lv_iload_n hx hb dX12_writesWord_12 rfl (lv_at hl 2 rfl) ?_
    obtain ⟨hi_3, hf⟩ := ix_inv hf
    obtain ⟨v_3, e_3, hf⟩ := lt_inv hf
    refine cc_charAt hx hb hml hta hown hK hN hV hA hC hRc hRs (by omega) (by omega) wq_1040 (i := 121) (n := 4) (by decide) (by decide) (by decide) hi_3 e_3 hl.1 rfl dX12_writesWord_13 (fun H locs hC => ?_)
    obtain ⟨s_4, hc_4, hf⟩ := cals_inv hf
    refine cc_Vv (r_X12_writes (D := D) (y := y) (o := o) (ad := ad) (av := av) hc_4 l) hx hb hml hta hown hK hN hV hA hC hRc hRs (by omega) (by omega) wq_1378 (q := 0) (ci := 12) rfl rfl wq_1379 wq_1380 wq_1012 wq_1376 hd_X12_writes (As := [.int v_3]) (rest := []) rfl rfl hl.1 rfl dX12_writesWord_16 (fun H locs hC => ?_)
    obtain ⟨x2_5, e_5, hf⟩ := lt_inv hf
    refine lv_iinc (v := x2_5) (lv' := [(2, .int x2_5), (0, .ref (o 0)), (1, .ref (ad 121))]) hx hb dX12_writesWord_19 hl (k := 2) rfl e_5.symm (by decide) rfl (fun ls hl => ?_)
    refine lv_goto (tgt := 2) hx hb dX12_writesWord_22 (by decide) ?_
    exact ha_2 _ _ hf _ _ _ hC (lv_sub hl [1, 2, 0] rfl)

set_option maxHeartbeats 8000000 in
set_option maxRecDepth 100000 in
theorem r_X12_writesWord_s122 {D : va_G} {y : Nat → ClassId} {o : Nat → Nat} {ad av : Nat → Nat} {σ : Sto} {σ2 : Sto} (hf : f_X12_writesWord_s122 σ = some σ2) (l : Launch) (sz : Nat) : Met l yX12_writesWord (Cond.code yX12_writesWord cX12_writesWord 3 none :: ALW) { frames := 8, cells := 0, slots := 0, locals := 200 } (va_Pc [.ref (o 0), .ref (ad 122)] (PZ D y ad av (WM y o σ) sz)) (QZv D (WM y o σ) (WM y o σ2) sz) 0 0 (va_A (WM y o σ) sz) := by
  refine met_v (by decide) (Nat.le_of_ble_eq_true rfl) ?_
  intro p e R s m args below meth c Q A ls hx hb hml hta hown hRc hRs hRf hRl hN hK hV hA hret hC hl
  have hl : lv_has ls 3 [(0, .ref (o 0)), (1, .ref (ad 122))] := hl
  unfold f_X12_writesWord_s122 at hf
  refine lv_iconst (v := 0) hx hb dX12_writesWord_0 (by decide) ?_
  refine lv_istore_n (lv' := [(2, .int 0), (0, .ref (o 0)), (1, .ref (ad 122))]) hx hb dX12_writesWord_1 rfl hl (by decide) rfl (fun ls hl => ?_)
  refine itr_inv2 (P := fun (x2_1 : Int32) (s_1 : Sto) => ∀ (H : Heap) (locs : List Loc) (ls : Array Slot), CZ D A s H locs (WM y o s_1) → lv_has ls 3 [(0, .ref (o 0)), (1, .ref (ad 122)), (2, .int x2_1)] → W p l e R s m args below meth c H locs 0 0 Q (F0 m 2 ls [])) hf ?_ _ _ _ hC (lv_sub hl [1, 2, 0] rfl)
  intro a_2 x2_1 s_1 ha_2 hf H locs ls hC hl
  refine lv_iload_n hx hb dX12_writesWord_2 rfl (lv_at hl 2 rfl) ?_
  refine lv_aload_n hx hb dX12_writesWord_3 rfl (lv_at hl 1 rfl) ?_
  refine cc_length hx hb hml hta hown hK hN hV hA hC hRc hRs (by omega) (by omega) wq_1039 (i := 122) (n := 7) (by decide) (by decide) (by decide) hl.1 rfl dX12_writesWord_4 (fun H locs hC => ?_)
  refine lv_icmp_ge (tgt := 25) hx hb dX12_writesWord_7 (by decide) (fun c_2 => ?_) (fun c_2 => ?_)
  · have hf := it_t c_2 hf
    exact hret _ _ _ _ _ (congrArg (WM y o) (Option.some.inj hf)) dX12_writesWord_25 hC
  · have hf := it_f c_2 hf
    refine lv_aload_n hx hb dX12_writesWord_10 rfl (lv_at hl 0 rfl) ?_
    refine lv_aload_n hx hb dX12_writesWord_11 rfl (lv_at hl 1 rfl) ?_
    refine lv_iload_n hx hb dX12_writesWord_12 rfl (lv_at hl 2 rfl) ?_
    obtain ⟨hi_3, hf⟩ := ix_inv hf
    obtain ⟨v_3, e_3, hf⟩ := lt_inv hf
    refine cc_charAt hx hb hml hta hown hK hN hV hA hC hRc hRs (by omega) (by omega) wq_1040 (i := 122) (n := 7) (by decide) (by decide) (by decide) hi_3 e_3 hl.1 rfl dX12_writesWord_13 (fun H locs hC => ?_)
    obtain ⟨s_4, hc_4, hf⟩ := cals_inv hf
    refine cc_Vv (r_X12_writes (D := D) (y := y) (o := o) (ad := ad) (av := av) hc_4 l) hx hb hml hta hown hK hN hV hA hC hRc hRs (by omega) (by omega) wq_1378 (q := 0) (ci := 12) rfl rfl wq_1379 wq_1380 wq_1012 wq_1376 hd_X12_writes (As := [.int v_3]) (rest := []) rfl rfl hl.1 rfl dX12_writesWord_16 (fun H locs hC => ?_)
    obtain ⟨x2_5, e_5, hf⟩ := lt_inv hf
    refine lv_iinc (v := x2_5) (lv' := [(2, .int x2_5), (0, .ref (o 0)), (1, .ref (ad 122))]) hx hb dX12_writesWord_19 hl (k := 2) rfl e_5.symm (by decide) rfl (fun ls hl => ?_)
    refine lv_goto (tgt := 2) hx hb dX12_writesWord_22 (by decide) ?_
    exact ha_2 _ _ hf _ _ _ hC (lv_sub hl [1, 2, 0] rfl)

set_option maxHeartbeats 8000000 in
set_option maxRecDepth 100000 in
theorem r_X12_spellsBlock_s122 {D : va_G} {y : Nat → ClassId} {o : Nat → Nat} {ad av : Nat → Nat} {x2 : Int32} {x3 : Int32} {σ : Sto} {σ2 : Sto} (hf : f_X12_spellsBlock_s122 x2 x3 σ = some σ2) (l : Launch) (sz : Nat) : Met l yX12_spellsBlock (Cond.code yX12_spellsBlock cX12_spellsBlock 4 none :: ALW) { frames := 253, cells := 0, slots := 0, locals := 5314 } (va_Pc [.ref (o 0), .ref (ad 122), .int x2, .int x3] (PZ D y ad av (WM y o σ) sz)) (QZv D (WM y o σ) (WM y o σ2) sz) 0 0 (va_A (WM y o σ) sz) := by
  refine met_v (by decide) (Nat.le_of_ble_eq_true rfl) ?_
  intro p e R s m args below meth c Q A ls hx hb hml hta hown hRc hRs hRf hRl hN hK hV hA hret hC hl
  have hl : lv_has ls 4 [(0, .ref (o 0)), (1, .ref (ad 122)), (2, .int x2), (3, .int x3)] := hl
  unfold f_X12_spellsBlock_s122 at hf
  refine lv_aload_n hx hb dX12_spellsBlock_0 rfl (lv_at hl 0 rfl) ?_
  refine lv_aload_n hx hb dX12_spellsBlock_1 rfl (lv_at hl 1 rfl) ?_
  obtain ⟨s_1, hc_1, hf⟩ := cals_inv hf
  refine cc_Vv (r_X12_writesWord_s122 (D := D) (y := y) (o := o) (ad := ad) (av := av) hc_1 l) hx hb hml hta hown hK hN hV hA hC hRc hRs (by omega) (by omega) wq_1390 (q := 0) (ci := 12) rfl rfl wq_1391 wq_1392 wq_1012 wq_1381 hd_X12_writesWord (As := [.ref (ad 122)]) (rest := []) rfl rfl hl.1 rfl dX12_spellsBlock_2 (fun H locs hC => ?_)
  refine lv_aload_n hx hb dX12_spellsBlock_5 rfl (lv_at hl 0 rfl) ?_
  refine lv_bipush (v := 66) hx hb dX12_spellsBlock_6 (by decide) ?_
  refine lv_iload_n hx hb dX12_spellsBlock_8 rfl (lv_at hl 2 rfl) ?_
  obtain ⟨s_2, hc_2, hf⟩ := cals_inv hf
  refine cc_Vv (r_X12_writesName (D := D) (y := y) (o := o) (ad := ad) (av := av) hc_2 l) hx hb hml hta hown hK hN hV hA hC hRc hRs (by omega) (by omega) wq_1387 (q := 0) (ci := 12) rfl rfl wq_1388 wq_1389 wq_1012 wq_1386 hd_X12_writesName (As := [.int 66, .int x2]) (rest := []) rfl rfl hl.1 rfl dX12_spellsBlock_9 (fun H locs hC => ?_)
  refine lv_aload_n hx hb dX12_spellsBlock_12 rfl (lv_at hl 0 rfl) ?_
  refine lv_iload_n hx hb dX12_spellsBlock_13 rfl (lv_at hl 3 rfl) ?_
  obtain ⟨s_3, hc_3, hf⟩ := cals_inv hf
  refine cc_Vv (r_X12_writes (D := D) (y := y) (o := o) (ad := ad) (av := av) hc_3 l) hx hb hml hta hown hK hN hV hA hC hRc hRs (by omega) (by omega) wq_1378 (q := 0) (ci := 12) rfl rfl wq_1379 wq_1380 wq_1012 wq_1376 hd_X12_writes (As := [.int x3]) (rest := []) rfl rfl hl.1 rfl dX12_spellsBlock_14 (fun H locs hC => ?_)
  exact hret _ _ _ _ _ (congrArg (WM y o) (Option.some.inj hf)) dX12_spellsBlock_17 hC

set_option maxHeartbeats 8000000 in
set_option maxRecDepth 100000 in
theorem r_X12_writesWord_s123 {D : va_G} {y : Nat → ClassId} {o : Nat → Nat} {ad av : Nat → Nat} {σ : Sto} {σ2 : Sto} (hf : f_X12_writesWord_s123 σ = some σ2) (l : Launch) (sz : Nat) : Met l yX12_writesWord (Cond.code yX12_writesWord cX12_writesWord 3 none :: ALW) { frames := 8, cells := 0, slots := 0, locals := 200 } (va_Pc [.ref (o 0), .ref (ad 123)] (PZ D y ad av (WM y o σ) sz)) (QZv D (WM y o σ) (WM y o σ2) sz) 0 0 (va_A (WM y o σ) sz) := by
  refine met_v (by decide) (Nat.le_of_ble_eq_true rfl) ?_
  intro p e R s m args below meth c Q A ls hx hb hml hta hown hRc hRs hRf hRl hN hK hV hA hret hC hl
  have hl : lv_has ls 3 [(0, .ref (o 0)), (1, .ref (ad 123))] := hl
  unfold f_X12_writesWord_s123 at hf
  refine lv_iconst (v := 0) hx hb dX12_writesWord_0 (by decide) ?_
  refine lv_istore_n (lv' := [(2, .int 0), (0, .ref (o 0)), (1, .ref (ad 123))]) hx hb dX12_writesWord_1 rfl hl (by decide) rfl (fun ls hl => ?_)
  refine itr_inv2 (P := fun (x2_1 : Int32) (s_1 : Sto) => ∀ (H : Heap) (locs : List Loc) (ls : Array Slot), CZ D A s H locs (WM y o s_1) → lv_has ls 3 [(0, .ref (o 0)), (1, .ref (ad 123)), (2, .int x2_1)] → W p l e R s m args below meth c H locs 0 0 Q (F0 m 2 ls [])) hf ?_ _ _ _ hC (lv_sub hl [1, 2, 0] rfl)
  intro a_2 x2_1 s_1 ha_2 hf H locs ls hC hl
  refine lv_iload_n hx hb dX12_writesWord_2 rfl (lv_at hl 2 rfl) ?_
  refine lv_aload_n hx hb dX12_writesWord_3 rfl (lv_at hl 1 rfl) ?_
  refine cc_length hx hb hml hta hown hK hN hV hA hC hRc hRs (by omega) (by omega) wq_1039 (i := 123) (n := 0) (by decide) (by decide) (by decide) hl.1 rfl dX12_writesWord_4 (fun H locs hC => ?_)
  refine lv_icmp_ge (tgt := 25) hx hb dX12_writesWord_7 (by decide) (fun c_2 => ?_) (fun c_2 => ?_)
  · have hf := it_t c_2 hf
    exact hret _ _ _ _ _ (congrArg (WM y o) (Option.some.inj hf)) dX12_writesWord_25 hC
  · have hf := it_f c_2 hf
    refine lv_aload_n hx hb dX12_writesWord_10 rfl (lv_at hl 0 rfl) ?_
    refine lv_aload_n hx hb dX12_writesWord_11 rfl (lv_at hl 1 rfl) ?_
    refine lv_iload_n hx hb dX12_writesWord_12 rfl (lv_at hl 2 rfl) ?_
    obtain ⟨hi_3, hf⟩ := ix_inv hf
    obtain ⟨v_3, e_3, hf⟩ := lt_inv hf
    refine cc_charAt hx hb hml hta hown hK hN hV hA hC hRc hRs (by omega) (by omega) wq_1040 (i := 123) (n := 0) (by decide) (by decide) (by decide) hi_3 e_3 hl.1 rfl dX12_writesWord_13 (fun H locs hC => ?_)
    obtain ⟨s_4, hc_4, hf⟩ := cals_inv hf
    refine cc_Vv (r_X12_writes (D := D) (y := y) (o := o) (ad := ad) (av := av) hc_4 l) hx hb hml hta hown hK hN hV hA hC hRc hRs (by omega) (by omega) wq_1378 (q := 0) (ci := 12) rfl rfl wq_1379 wq_1380 wq_1012 wq_1376 hd_X12_writes (As := [.int v_3]) (rest := []) rfl rfl hl.1 rfl dX12_writesWord_16 (fun H locs hC => ?_)
    obtain ⟨x2_5, e_5, hf⟩ := lt_inv hf
    refine lv_iinc (v := x2_5) (lv' := [(2, .int x2_5), (0, .ref (o 0)), (1, .ref (ad 123))]) hx hb dX12_writesWord_19 hl (k := 2) rfl e_5.symm (by decide) rfl (fun ls hl => ?_)
    refine lv_goto (tgt := 2) hx hb dX12_writesWord_22 (by decide) ?_
    exact ha_2 _ _ hf _ _ _ hC (lv_sub hl [1, 2, 0] rfl)

set_option maxHeartbeats 8000000 in
set_option maxRecDepth 100000 in
theorem r_X12_spellsBlock_s123 {D : va_G} {y : Nat → ClassId} {o : Nat → Nat} {ad av : Nat → Nat} {x2 : Int32} {x3 : Int32} {σ : Sto} {σ2 : Sto} (hf : f_X12_spellsBlock_s123 x2 x3 σ = some σ2) (l : Launch) (sz : Nat) : Met l yX12_spellsBlock (Cond.code yX12_spellsBlock cX12_spellsBlock 4 none :: ALW) { frames := 253, cells := 0, slots := 0, locals := 5314 } (va_Pc [.ref (o 0), .ref (ad 123), .int x2, .int x3] (PZ D y ad av (WM y o σ) sz)) (QZv D (WM y o σ) (WM y o σ2) sz) 0 0 (va_A (WM y o σ) sz) := by
  refine met_v (by decide) (Nat.le_of_ble_eq_true rfl) ?_
  intro p e R s m args below meth c Q A ls hx hb hml hta hown hRc hRs hRf hRl hN hK hV hA hret hC hl
  have hl : lv_has ls 4 [(0, .ref (o 0)), (1, .ref (ad 123)), (2, .int x2), (3, .int x3)] := hl
  unfold f_X12_spellsBlock_s123 at hf
  refine lv_aload_n hx hb dX12_spellsBlock_0 rfl (lv_at hl 0 rfl) ?_
  refine lv_aload_n hx hb dX12_spellsBlock_1 rfl (lv_at hl 1 rfl) ?_
  obtain ⟨s_1, hc_1, hf⟩ := cals_inv hf
  refine cc_Vv (r_X12_writesWord_s123 (D := D) (y := y) (o := o) (ad := ad) (av := av) hc_1 l) hx hb hml hta hown hK hN hV hA hC hRc hRs (by omega) (by omega) wq_1390 (q := 0) (ci := 12) rfl rfl wq_1391 wq_1392 wq_1012 wq_1381 hd_X12_writesWord (As := [.ref (ad 123)]) (rest := []) rfl rfl hl.1 rfl dX12_spellsBlock_2 (fun H locs hC => ?_)
  refine lv_aload_n hx hb dX12_spellsBlock_5 rfl (lv_at hl 0 rfl) ?_
  refine lv_bipush (v := 66) hx hb dX12_spellsBlock_6 (by decide) ?_
  refine lv_iload_n hx hb dX12_spellsBlock_8 rfl (lv_at hl 2 rfl) ?_
  obtain ⟨s_2, hc_2, hf⟩ := cals_inv hf
  refine cc_Vv (r_X12_writesName (D := D) (y := y) (o := o) (ad := ad) (av := av) hc_2 l) hx hb hml hta hown hK hN hV hA hC hRc hRs (by omega) (by omega) wq_1387 (q := 0) (ci := 12) rfl rfl wq_1388 wq_1389 wq_1012 wq_1386 hd_X12_writesName (As := [.int 66, .int x2]) (rest := []) rfl rfl hl.1 rfl dX12_spellsBlock_9 (fun H locs hC => ?_)
  refine lv_aload_n hx hb dX12_spellsBlock_12 rfl (lv_at hl 0 rfl) ?_
  refine lv_iload_n hx hb dX12_spellsBlock_13 rfl (lv_at hl 3 rfl) ?_
  obtain ⟨s_3, hc_3, hf⟩ := cals_inv hf
  refine cc_Vv (r_X12_writes (D := D) (y := y) (o := o) (ad := ad) (av := av) hc_3 l) hx hb hml hta hown hK hN hV hA hC hRc hRs (by omega) (by omega) wq_1378 (q := 0) (ci := 12) rfl rfl wq_1379 wq_1380 wq_1012 wq_1376 hd_X12_writes (As := [.int x3]) (rest := []) rfl rfl hl.1 rfl dX12_spellsBlock_14 (fun H locs hC => ?_)
  exact hret _ _ _ _ _ (congrArg (WM y o) (Option.some.inj hf)) dX12_spellsBlock_17 hC

set_option maxHeartbeats 8000000 in
set_option maxRecDepth 100000 in
theorem r_X12_spellsLine {D : va_G} {y : Nat → ClassId} {o : Nat → Nat} {ad av : Nat → Nat} {x1 : Int32} {σ : Sto} {σ2 : Sto} (hf : f_X12_spellsLine x1 σ = some σ2) (l : Launch) (sz : Nat) : Met l yX12_spellsLine (Cond.code yX12_spellsLine cX12_spellsLine 3 none :: ALW) { frames := 505, cells := 0, slots := 0, locals := 10606 } (va_Pc [.ref (o 0), .int x1] (PZ D y ad av (WM y o σ) sz)) (QZv D (WM y o σ) (WM y o σ2) sz) 0 0 (va_A (WM y o σ) sz) := by
  refine met_v (by decide) (Nat.le_of_ble_eq_true rfl) ?_
  intro p e R s m args below meth c Q A ls hx hb hml hta hown hRc hRs hRf hRl hN hK hV hA hret hC hl
  have hl : lv_has ls 3 [(0, .ref (o 0)), (1, .int x1)] := hl
  unfold f_X12_spellsLine at hf
  refine lv_aload_n hx hb dX12_spellsLine_0 rfl (lv_at hl 0 rfl) ?_
  refine lv_iconst (v := 0) hx hb dX12_spellsLine_1 (by decide) ?_
  obtain ⟨s_1, e_1, hf⟩ := lt_inv hf
  refine pt_X12_550_m hx hb hta hown hK hC e_1 dX12_spellsLine_2 (fun H locs hC => ?_)
  refine lv_aload_n hx hb dX12_spellsLine_5 rfl (lv_at hl 0 rfl) ?_
  refine gt_X12_136_m hx hb hta hown hK hC dX12_spellsLine_6 ?_
  refine lv_iload_n hx hb dX12_spellsLine_9 rfl (lv_at hl 1 rfl) ?_
  obtain ⟨hi_2, hf⟩ := ix_inv hf
  obtain ⟨v_2, e_2, hf⟩ := lt_inv hf
  refine al_M_42 hx hb hK hC hi_2 e_2 dX12_spellsLine_10 ?_
  refine lv_istore_n (lv' := [(2, .int v_2), (0, .ref (o 0)), (1, .int x1)]) hx hb dX12_spellsLine_11 rfl hl (by decide) rfl (fun ls hl => ?_)
  refine lv_aload_n hx hb dX12_spellsLine_12 rfl (lv_at hl 1 rfl) ?_
  refine gt_X12_133_m hx hb hta hown hK hC dX12_spellsLine_13 ?_
  refine lv_iload_n hx hb dX12_spellsLine_16 rfl (lv_at hl 2 rfl) ?_
  obtain ⟨hi_3, hf⟩ := ix_inv hf
  obtain ⟨v_3, e_3, hf⟩ := lt_inv hf
  refine al_M_41 hx hb hK hC hi_3 e_3 dX12_spellsLine_17 ?_
  by_cases h_4_0 : v_3.toInt = 0
  · have hf := it_t h_4_0 hf
    refine lv_tab (tgt := 76) hx hb dX12_spellsLine_18 (Or.inr ⟨58, by omega, by omega, by (rw [h_4_0]; decide), by decide⟩) ?_
    refine lv_aload_n hx hb dX12_spellsLine_76 rfl (lv_at hl 1 rfl) ?_
    refine lv_aload_n hx hb dX12_spellsLine_77 rfl (lv_at hl 1 rfl) ?_
    refine gt_X12_142_m hx hb hta hown hK hC dX12_spellsLine_78 ?_
    refine lv_iload_n hx hb dX12_spellsLine_81 rfl (lv_at hl 2 rfl) ?_
    obtain ⟨hi_5, hf⟩ := ix_inv hf
    obtain ⟨v_5, e_5, hf⟩ := lt_inv hf
    refine al_M_44 hx hb hK hC hi_5 e_5 dX12_spellsLine_82 ?_
    obtain ⟨s_6, hc_6, hf⟩ := cals_inv hf
    refine cc_Vv (r_X12_spellsStatement (D := D) (y := y) (o := o) (ad := ad) (av := av) hc_6 l) hx hb hml hta hown hK hN hV hA hC hRc hRs (by omega) (by omega) wq_1399 (q := 0) (ci := 12) rfl rfl wq_1400 wq_1401 wq_1012 wq_1397 hd_X12_spellsStatement (As := [.int v_5]) (rest := []) rfl rfl hl.1 rfl dX12_spellsLine_83 (fun H locs hC => ?_)
    exact hret _ _ _ _ _ (congrArg (WM y o) (Option.some.inj hf)) dX12_spellsLine_86 hC
  have hf := it_f h_4_0 hf
  by_cases h_4_1 : v_3.toInt = 1
  · have hf := it_t h_4_1 hf
    refine lv_tab (tgt := 87) hx hb dX12_spellsLine_18 (Or.inr ⟨69, by omega, by omega, by (rw [h_4_1]; decide), by decide⟩) ?_
    refine lv_aload_n hx hb dX12_spellsLine_87 rfl (lv_at hl 1 rfl) ?_
    refine va_ldcSw hx hb hown (ss_Rm hV 14 rfl) dX12_spellsLine_88 ?_
    refine lv_iload_n hx hb dX12_spellsLine_91 rfl (lv_at hl 0 rfl) ?_
    refine lv_bipush (v := 123) hx hb dX12_spellsLine_92 (by decide) ?_
    obtain ⟨s_7, hc_7, hf⟩ := cals_inv hf
    refine cc_Vv (r_X12_spellsBlock_s114 (D := D) (y := y) (o := o) (ad := ad) (av := av) hc_7 l) hx hb hml hta hown hK hN hV hA hC hRc hRs (by omega) (by omega) wq_1402 (q := 0) (ci := 12) rfl rfl wq_1403 wq_1404 wq_1012 wq_1398 hd_X12_spellsBlock (As := [.ref (ad 114), .int v_2, .int 123]) (rest := []) rfl rfl hl.1 rfl dX12_spellsLine_94 (fun H locs hC => ?_)
    exact hret _ _ _ _ _ (congrArg (WM y o) (Option.some.inj hf)) dX12_spellsLine_97 hC
  have hf := it_f h_4_1 hf
  by_cases h_4_2 : v_3.toInt = 2
  · have hf := it_t h_4_2 hf
    refine lv_tab (tgt := 98) hx hb dX12_spellsLine_18 (Or.inr ⟨80, by omega, by omega, by (rw [h_4_2]; decide), by decide⟩) ?_
    refine lv_aload_n hx hb dX12_spellsLine_98 rfl (lv_at hl 1 rfl) ?_
    refine va_ldcSw hx hb hown (ss_Rm hV 15 rfl) dX12_spellsLine_99 ?_
    refine lv_iload_n hx hb dX12_spellsLine_102 rfl (lv_at hl 0 rfl) ?_
    refine lv_bipush (v := 123) hx hb dX12_spellsLine_103 (by decide) ?_
    obtain ⟨s_8, hc_8, hf⟩ := cals_inv hf
    refine cc_Vv (r_X12_spellsBlock_s115 (D := D) (y := y) (o := o) (ad := ad) (av := av) hc_8 l) hx hb hml hta hown hK hN hV hA hC hRc hRs (by omega) (by omega) wq_1402 (q := 0) (ci := 12) rfl rfl wq_1403 wq_1404 wq_1012 wq_1398 hd_X12_spellsBlock (As := [.ref (ad 115), .int v_2, .int 123]) (rest := []) rfl rfl hl.1 rfl dX12_spellsLine_105 (fun H locs hC => ?_)
    exact hret _ _ _ _ _ (congrArg (WM y o) (Option.some.inj hf)) dX12_spellsLine_108 hC
  have hf := it_f h_4_2 hf
  by_cases h_4_3 : v_3.toInt = 3
  · have hf := it_t h_4_3 hf
    refine lv_tab (tgt := 109) hx hb dX12_spellsLine_18 (Or.inr ⟨91, by omega, by omega, by (rw [h_4_3]; decide), by decide⟩) ?_
    refine lv_aload_n hx hb dX12_spellsLine_109 rfl (lv_at hl 1 rfl) ?_
    refine va_ldcSw hx hb hown (ss_Rm hV 16 rfl) dX12_spellsLine_110 ?_
    obtain ⟨s_9, hc_9, hf⟩ := cals_inv hf
    refine cc_Vv (r_X12_writesWord_s116 (D := D) (y := y) (o := o) (ad := ad) (av := av) hc_9 l) hx hb hml hta hown hK hN hV hA hC hRc hRs (by omega) (by omega) wq_1390 (q := 0) (ci := 12) rfl rfl wq_1391 wq_1392 wq_1012 wq_1381 hd_X12_writesWord (As := [.ref (ad 116)]) (rest := []) rfl rfl hl.1 rfl dX12_spellsLine_113 (fun H locs hC => ?_)
    refine lv_aload_n hx hb dX12_spellsLine_116 rfl (lv_at hl 1 rfl) ?_
    refine lv_aload_n hx hb dX12_spellsLine_117 rfl (lv_at hl 1 rfl) ?_
    refine gt_X12_109_m hx hb hta hown hK hC dX12_spellsLine_118 ?_
    refine lv_iload_n hx hb dX12_spellsLine_121 rfl (lv_at hl 0 rfl) ?_
    obtain ⟨hi_10, hf⟩ := ix_inv hf
    obtain ⟨v_10, e_10, hf⟩ := lt_inv hf
    refine al_M_33 hx hb hK hC hi_10 e_10 dX12_spellsLine_122 ?_
    obtain ⟨s_11, hc_11, hf⟩ := cals_inv hf
    refine cc_Vv (r_X12_spells 250 (D := D) (y := y) (o := o) (ad := ad) (av := av) hc_11 l) hx hb hml hta hown hK hN hV hA hC hRc hRs (by omega) (by omega) wq_1393 (q := 0) (ci := 12) rfl rfl wq_1394 wq_1395 wq_1012 wq_1396 hd_X12_spells (As := [.int v_10]) (rest := []) rfl rfl hl.1 rfl dX12_spellsLine_123 (fun H locs hC => ?_)
    refine lv_aload_n hx hb dX12_spellsLine_126 rfl (lv_at hl 1 rfl) ?_
    refine lv_bipush (v := 123) hx hb dX12_spellsLine_127 (by decide) ?_
    obtain ⟨s_12, hc_12, hf⟩ := cals_inv hf
    refine cc_Vv (r_X12_writes (D := D) (y := y) (o := o) (ad := ad) (av := av) hc_12 l) hx hb hml hta hown hK hN hV hA hC hRc hRs (by omega) (by omega) wq_1378 (q := 0) (ci := 12) rfl rfl wq_1379 wq_1380 wq_1012 wq_1376 hd_X12_writes (As := [.int 123]) (rest := []) rfl rfl hl.1 rfl dX12_spellsLine_129 (fun H locs hC => ?_)
    exact hret _ _ _ _ _ (congrArg (WM y o) (Option.some.inj hf)) dX12_spellsLine_132 hC
  have hf := it_f h_4_3 hf
  by_cases h_4_4 : v_3.toInt = 4
  · have hf := it_t h_4_4 hf
    refine lv_tab (tgt := 133) hx hb dX12_spellsLine_18 (Or.inr ⟨115, by omega, by omega, by (rw [h_4_4]; decide), by decide⟩) ?_
    refine lv_aload_n hx hb dX12_spellsLine_133 rfl (lv_at hl 1 rfl) ?_
    refine va_ldcSw hx hb hown (ss_Rm hV 17 rfl) dX12_spellsLine_134 ?_
    obtain ⟨s_13, hc_13, hf⟩ := cals_inv hf
    refine cc_Vv (r_X12_writesWord_s117 (D := D) (y := y) (o := o) (ad := ad) (av := av) hc_13 l) hx hb hml hta hown hK hN hV hA hC hRc hRs (by omega) (by omega) wq_1390 (q := 0) (ci := 12) rfl rfl wq_1391 wq_1392 wq_1012 wq_1381 hd_X12_writesWord (As := [.ref (ad 117)]) (rest := []) rfl rfl hl.1 rfl dX12_spellsLine_137 (fun H locs hC => ?_)
    exact hret _ _ _ _ _ (congrArg (WM y o) (Option.some.inj hf)) dX12_spellsLine_140 hC
  have hf := it_f h_4_4 hf
  by_cases h_4_5 : v_3.toInt = 5
  · have hf := it_t h_4_5 hf
    refine lv_tab (tgt := 141) hx hb dX12_spellsLine_18 (Or.inr ⟨123, by omega, by omega, by (rw [h_4_5]; decide), by decide⟩) ?_
    refine lv_aload_n hx hb dX12_spellsLine_141 rfl (lv_at hl 1 rfl) ?_
    refine lv_bipush (v := 125) hx hb dX12_spellsLine_142 (by decide) ?_
    obtain ⟨s_14, hc_14, hf⟩ := cals_inv hf
    refine cc_Vv (r_X12_writes (D := D) (y := y) (o := o) (ad := ad) (av := av) hc_14 l) hx hb hml hta hown hK hN hV hA hC hRc hRs (by omega) (by omega) wq_1378 (q := 0) (ci := 12) rfl rfl wq_1379 wq_1380 wq_1012 wq_1376 hd_X12_writes (As := [.int 125]) (rest := []) rfl rfl hl.1 rfl dX12_spellsLine_144 (fun H locs hC => ?_)
    exact hret _ _ _ _ _ (congrArg (WM y o) (Option.some.inj hf)) dX12_spellsLine_147 hC
  have hf := it_f h_4_5 hf
  by_cases h_4_6 : v_3.toInt = 6
  · have hf := it_t h_4_6 hf
    refine lv_tab (tgt := 148) hx hb dX12_spellsLine_18 (Or.inr ⟨130, by omega, by omega, by (rw [h_4_6]; decide), by decide⟩) ?_
    refine lv_aload_n hx hb dX12_spellsLine_148 rfl (lv_at hl 1 rfl) ?_
    refine va_ldcSw hx hb hown (ss_Rm hV 18 rfl) dX12_spellsLine_149 ?_
    refine lv_iload_n hx hb dX12_spellsLine_152 rfl (lv_at hl 0 rfl) ?_
    refine lv_bipush (v := 59) hx hb dX12_spellsLine_153 (by decide) ?_
    obtain ⟨s_15, hc_15, hf⟩ := cals_inv hf
    refine cc_Vv (r_X12_spellsBlock_s118 (D := D) (y := y) (o := o) (ad := ad) (av := av) hc_15 l) hx hb hml hta hown hK hN hV hA hC hRc hRs (by omega) (by omega) wq_1402 (q := 0) (ci := 12) rfl rfl wq_1403 wq_1404 wq_1012 wq_1398 hd_X12_spellsBlock (As := [.ref (ad 118), .int v_2, .int 59]) (rest := []) rfl rfl hl.1 rfl dX12_spellsLine_155 (fun H locs hC => ?_)
    exact hret _ _ _ _ _ (congrArg (WM y o) (Option.some.inj hf)) dX12_spellsLine_158 hC
  have hf := it_f h_4_6 hf
  by_cases h_4_7 : v_3.toInt = 7
  · have hf := it_t h_4_7 hf
    refine lv_tab (tgt := 159) hx hb dX12_spellsLine_18 (Or.inr ⟨141, by omega, by omega, by (rw [h_4_7]; decide), by decide⟩) ?_
    refine lv_aload_n hx hb dX12_spellsLine_159 rfl (lv_at hl 1 rfl) ?_
    refine va_ldcSw hx hb hown (ss_Rm hV 19 rfl) dX12_spellsLine_160 ?_
    refine lv_iload_n hx hb dX12_spellsLine_163 rfl (lv_at hl 0 rfl) ?_
    refine lv_bipush (v := 59) hx hb dX12_spellsLine_164 (by decide) ?_
    obtain ⟨s_16, hc_16, hf⟩ := cals_inv hf
    refine cc_Vv (r_X12_spellsBlock_s119 (D := D) (y := y) (o := o) (ad := ad) (av := av) hc_16 l) hx hb hml hta hown hK hN hV hA hC hRc hRs (by omega) (by omega) wq_1402 (q := 0) (ci := 12) rfl rfl wq_1403 wq_1404 wq_1012 wq_1398 hd_X12_spellsBlock (As := [.ref (ad 119), .int v_2, .int 59]) (rest := []) rfl rfl hl.1 rfl dX12_spellsLine_166 (fun H locs hC => ?_)
    exact hret _ _ _ _ _ (congrArg (WM y o) (Option.some.inj hf)) dX12_spellsLine_169 hC
  have hf := it_f h_4_7 hf
  by_cases h_4_8 : v_3.toInt = 8
  · have hf := it_t h_4_8 hf
    refine lv_tab (tgt := 170) hx hb dX12_spellsLine_18 (Or.inr ⟨152, by omega, by omega, by (rw [h_4_8]; decide), by decide⟩) ?_
    refine lv_aload_n hx hb dX12_spellsLine_170 rfl (lv_at hl 1 rfl) ?_
    refine va_ldcSw hx hb hown (ss_Rm hV 20 rfl) dX12_spellsLine_171 ?_
    refine lv_iload_n hx hb dX12_spellsLine_174 rfl (lv_at hl 0 rfl) ?_
    refine lv_bipush (v := 59) hx hb dX12_spellsLine_175 (by decide) ?_
    obtain ⟨s_17, hc_17, hf⟩ := cals_inv hf
    refine cc_Vv (r_X12_spellsBlock_s120 (D := D) (y := y) (o := o) (ad := ad) (av := av) hc_17 l) hx hb hml hta hown hK hN hV hA hC hRc hRs (by omega) (by omega) wq_1402 (q := 0) (ci := 12) rfl rfl wq_1403 wq_1404 wq_1012 wq_1398 hd_X12_spellsBlock (As := [.ref (ad 120), .int v_2, .int 59]) (rest := []) rfl rfl hl.1 rfl dX12_spellsLine_177 (fun H locs hC => ?_)
    exact hret _ _ _ _ _ (congrArg (WM y o) (Option.some.inj hf)) dX12_spellsLine_180 hC
  have hf := it_f h_4_8 hf
  by_cases h_4_9 : v_3.toInt = 9
  · have hf := it_t h_4_9 hf
    refine lv_tab (tgt := 181) hx hb dX12_spellsLine_18 (Or.inr ⟨163, by omega, by omega, by (rw [h_4_9]; decide), by decide⟩) ?_
    refine lv_aload_n hx hb dX12_spellsLine_181 rfl (lv_at hl 1 rfl) ?_
    refine va_ldcSw hx hb hown (ss_Rm hV 21 rfl) dX12_spellsLine_182 ?_
    obtain ⟨s_18, hc_18, hf⟩ := cals_inv hf
    refine cc_Vv (r_X12_writesWord_s121 (D := D) (y := y) (o := o) (ad := ad) (av := av) hc_18 l) hx hb hml hta hown hK hN hV hA hC hRc hRs (by omega) (by omega) wq_1390 (q := 0) (ci := 12) rfl rfl wq_1391 wq_1392 wq_1012 wq_1381 hd_X12_writesWord (As := [.ref (ad 121)]) (rest := []) rfl rfl hl.1 rfl dX12_spellsLine_185 (fun H locs hC => ?_)
    exact hret _ _ _ _ _ (congrArg (WM y o) (Option.some.inj hf)) dX12_spellsLine_188 hC
  have hf := it_f h_4_9 hf
  by_cases h_4_10 : v_3.toInt = 10
  · have hf := it_t h_4_10 hf
    refine lv_tab (tgt := 189) hx hb dX12_spellsLine_18 (Or.inr ⟨171, by omega, by omega, by (rw [h_4_10]; decide), by decide⟩) ?_
    refine lv_aload_n hx hb dX12_spellsLine_189 rfl (lv_at hl 1 rfl) ?_
    refine va_ldcSw hx hb hown (ss_Rm hV 22 rfl) dX12_spellsLine_190 ?_
    refine lv_iload_n hx hb dX12_spellsLine_193 rfl (lv_at hl 0 rfl) ?_
    refine lv_bipush (v := 59) hx hb dX12_spellsLine_194 (by decide) ?_
    obtain ⟨s_19, hc_19, hf⟩ := cals_inv hf
    refine cc_Vv (r_X12_spellsBlock_s122 (D := D) (y := y) (o := o) (ad := ad) (av := av) hc_19 l) hx hb hml hta hown hK hN hV hA hC hRc hRs (by omega) (by omega) wq_1402 (q := 0) (ci := 12) rfl rfl wq_1403 wq_1404 wq_1012 wq_1398 hd_X12_spellsBlock (As := [.ref (ad 122), .int v_2, .int 59]) (rest := []) rfl rfl hl.1 rfl dX12_spellsLine_196 (fun H locs hC => ?_)
    exact hret _ _ _ _ _ (congrArg (WM y o) (Option.some.inj hf)) dX12_spellsLine_199 hC
  have hf := it_f h_4_10 hf
  refine lv_tab (tgt := 200) hx hb dX12_spellsLine_18 (Or.inl ⟨by omega, by decide⟩) ?_
  refine lv_aload_n hx hb dX12_spellsLine_200 rfl (lv_at hl 1 rfl) ?_
  refine va_ldcSw hx hb hown (ss_Rm hV 23 rfl) dX12_spellsLine_201 ?_
  refine lv_iload_n hx hb dX12_spellsLine_204 rfl (lv_at hl 0 rfl) ?_
  refine lv_bipush (v := 58) hx hb dX12_spellsLine_205 (by decide) ?_
  obtain ⟨s_20, hc_20, hf⟩ := cals_inv hf
  refine cc_Vv (r_X12_spellsBlock_s123 (D := D) (y := y) (o := o) (ad := ad) (av := av) hc_20 l) hx hb hml hta hown hK hN hV hA hC hRc hRs (by omega) (by omega) wq_1402 (q := 0) (ci := 12) rfl rfl wq_1403 wq_1404 wq_1012 wq_1398 hd_X12_spellsBlock (As := [.ref (ad 123), .int v_2, .int 58]) (rest := []) rfl rfl hl.1 rfl dX12_spellsLine_207 (fun H locs hC => ?_)
  exact hret _ _ _ _ _ (congrArg (WM y o) (Option.some.inj hf)) dX12_spellsLine_210 hC

set_option maxHeartbeats 8000000 in
set_option maxRecDepth 100000 in
theorem r_X12_spell {D : va_G} {y : Nat → ClassId} {o : Nat → Nat} {ad av : Nat → Nat} {x1 : Int32} {x2 : Int32} {σ : Sto} {σ2 : Sto} {v : Int32} (hf : f_X12_spell x1 x2 σ = some (v, σ2)) (l : Launch) (sz : Nat) : Met l yX12_spell (Cond.code yX12_spell cX12_spell 3 (some .int) :: ALW) { frames := 506, cells := 0, slots := 0, locals := 10628 } (va_Pc [.ref (o 0), .int x1, .int x2] (PZ D y ad av (WM y o σ) sz)) (QZi D (WM y o σ) v (WM y o σ2) sz) 0 0 (va_A (WM y o σ) sz) := by
  refine met_i (by decide) (Nat.le_of_ble_eq_true rfl) ?_
  intro p e R s m args below meth c Q A ls hx hb hml hta hown hRc hRs hRf hRl hN hK hV hA hret hC hl
  have hl : lv_has ls 3 [(0, .ref (o 0)), (1, .int x1), (2, .int x2)] := hl
  unfold f_X12_spell at hf
  refine lv_aload_n hx hb dX12_spell_0 rfl (lv_at hl 0 rfl) ?_
  refine lv_iconst (v := 0) hx hb dX12_spell_1 (by decide) ?_
  obtain ⟨s_1, e_1, hf⟩ := lt_inv hf
  refine pt_X12_169_m hx hb hta hown hK hC e_1 dX12_spell_2 (fun H locs hC => ?_)
  refine lv_aload_n hx hb dX12_spell_5 rfl (lv_at hl 0 rfl) ?_
  refine lv_iload_n hx hb dX12_spell_6 rfl (lv_at hl 1 rfl) ?_
  obtain ⟨v_2, hc_2, hf⟩ := calp_inv hf
  refine cc_Vi (r_X12_isLine (D := D) (y := y) (o := o) (ad := ad) (av := av) hc_2 l) hx hb hml hta hown hK hN hV hA hC hRc hRs (by omega) (by omega) wq_1408 (q := 0) (ci := 12) rfl rfl wq_1409 wq_1410 wq_1012 wq_1407 hd_X12_isLine (As := [.int x1]) (rest := []) rfl rfl hl.1 rfl dX12_spell_7 (fun H locs hC => ?_)
  refine lv_if_ne (tgt := 15) hx hb dX12_spell_10 (by decide) (fun c_3 => ?_) (fun c_3 => ?_)
  · have hf := it_f c_3 hf
    refine lv_aload_n hx hb dX12_spell_15 rfl (lv_at hl 0 rfl) ?_
    refine lv_iload_n hx hb dX12_spell_16 rfl (lv_at hl 1 rfl) ?_
    obtain ⟨s_4, hc_4, hf⟩ := cals_inv hf
    refine cc_Vv (r_X12_spellsLine (D := D) (y := y) (o := o) (ad := ad) (av := av) hc_4 l) hx hb hml hta hown hK hN hV hA hC hRc hRs (by omega) (by omega) wq_1411 (q := 0) (ci := 12) rfl rfl wq_1412 wq_1413 wq_1012 wq_1405 hd_X12_spellsLine (As := [.int x1]) (rest := []) rfl rfl hl.1 rfl dX12_spell_17 (fun H locs hC => ?_)
    refine lv_aload_n hx hb dX12_spell_20 rfl (lv_at hl 0 rfl) ?_
    refine lv_iload_n hx hb dX12_spell_21 rfl (lv_at hl 2 rfl) ?_
    obtain ⟨v_5, hc_5, hf⟩ := calp_inv hf
    refine cc_Vi (r_X12_told (D := D) (y := y) (o := o) (ad := ad) (av := av) hc_5 l) hx hb hml hta hown hK hN hV hA hC hRc hRs (by omega) (by omega) wq_1414 (q := 0) (ci := 12) rfl rfl wq_1415 wq_1416 wq_1012 wq_1406 hd_X12_told (As := [.int x2]) (rest := []) rfl rfl hl.1 rfl dX12_spell_22 (fun H locs hC => ?_)
    exact hret _ _ _ _ _ _ (rv_inv hf).1 (congrArg (WM y o) (rv_inv hf).2) rfl dX12_spell_25 hC
  · have hf := it_t c_3 hf
    refine lv_iconst (v := (-1)) hx hb dX12_spell_13 (by decide) ?_
    exact hret _ _ _ _ _ _ (rv_inv hf).1 (congrArg (WM y o) (rv_inv hf).2) rfl dX12_spell_14 hC

set_option maxHeartbeats 8000000 in
set_option maxRecDepth 100000 in
theorem r_X12_type {D : va_G} {y : Nat → ClassId} {o : Nat → Nat} {ad av : Nat → Nat} {x1 : Int32} {x2 : Int32} {σ : Sto} {σ2 : Sto} {v : Int32} (hf : f_X12_type x1 x2 σ = some (v, σ2)) (l : Launch) (sz : Nat) : Met l yX12_type (Cond.code yX12_type cX12_type 3 (some .int) :: ALW) { frames := 1, cells := 0, slots := 0, locals := 25 } (va_Pc [.ref (o 0), .int x1, .int x2] (PZ D y ad av (WM y o σ) sz)) (QZi D (WM y o σ) v (WM y o σ2) sz) 0 0 (va_A (WM y o σ) sz) := by
  refine met_i (by decide) (Nat.le_of_ble_eq_true rfl) ?_
  intro p e R s m args below meth c Q A ls hx hb hml hta hown hRc hRs hRf hRl hN hK hV hA hret hC hl
  have hl : lv_has ls 3 [(0, .ref (o 0)), (1, .int x1), (2, .int x2)] := hl
  unfold f_X12_type at hf
  refine lv_aload_n hx hb dX12_type_0 rfl (lv_at hl 0 rfl) ?_
  refine lv_iconst (v := 0) hx hb dX12_type_1 (by decide) ?_
  obtain ⟨s_1, e_1, hf⟩ := lt_inv hf
  refine pt_X12_169_m hx hb hta hown hK hC e_1 dX12_type_2 (fun H locs hC => ?_)
  refine lv_aload_n hx hb dX12_type_5 rfl (lv_at hl 0 rfl) ?_
  refine gt_X12_292_m hx hb hta hown hK hC dX12_type_6 ?_
  refine lv_if_eq (tgt := 61) hx hb dX12_type_9 (by decide) (fun c_2 => ?_) (fun c_2 => ?_)
  · have hf := it_t c_2 hf
    refine lv_iconst (v := (-1)) hx hb dX12_type_61 (by decide) ?_
    exact hret _ _ _ _ _ _ (rv_inv hf).1 (congrArg (WM y o) (rv_inv hf).2) rfl dX12_type_62 hC
  · have hf := it_f c_2 hf
    refine lv_iload_n hx hb dX12_type_12 rfl (lv_at hl 1 rfl) ?_
    refine lv_i2l hx hb dX12_type_13 rfl ?_
    refine lv_lconst (v := 0) hx hb dX12_type_14 rfl ?_
    refine lv_ldc2 hx hb hown (hta _ wq_1419) dX12_type_15 ?_
    obtain ⟨v_3, hc_3, hf⟩ := calp_inv hf
    refine cc_Si (r_X12_isIn (D := D) (y := y) (w := WM y o s_1) (ad := ad) (av := av) hc_3 l) hx hb hml hta hown hK hN hV hA hC hRc hRs (by omega) (by omega) wq_1362 wq_1363 wq_1012 wq_1007 hd_X12_isIn (As := [.long x1.toInt64, .long 0, .long 2]) (rest := []) rfl rfl hl.1 rfl dX12_type_18 (fun H locs hC => ?_)
    refine lv_if_eq (tgt := 61) hx hb dX12_type_21 (by decide) (fun c_4 => ?_) (fun c_4 => ?_)
    · have hf := it_t c_4 hf
      refine lv_iconst (v := (-1)) hx hb dX12_type_61 (by decide) ?_
      exact hret _ _ _ _ _ _ (rv_inv hf).1 (congrArg (WM y o) (rv_inv hf).2) rfl dX12_type_62 hC
    · have hf := it_f c_4 hf
      refine lv_iload_n hx hb dX12_type_24 rfl (lv_at hl 2 rfl) ?_
      refine lv_i2l hx hb dX12_type_25 rfl ?_
      refine lv_lconst (v := 0) hx hb dX12_type_26 rfl ?_
      refine lv_iload_n hx hb dX12_type_27 rfl (lv_at hl 1 rfl) ?_
      obtain ⟨k_52, hk_52, hf⟩ := jn_inv1 hf
      have hj_52 : ∀ (t0_5 : Int32) (H : Heap) (locs : List Loc) (ls : Array Slot), k_52 t0_5 = some (v, σ2) → CZ D A s H locs (WM y o s_1) → lv_has ls 3 [(0, .ref (o 0)), (1, .int x1), (2, .int x2)] → W p l e R s m args below meth c H locs 0 0 Q (F0 m 52 ls [.int t0_5, .long 0, .long x2.toInt64]) := by
        intro t0_5 H locs ls hf hC hl
        have hf := hk_52 _ hf
        refine lv_iconst (v := 1) hx hb dX12_type_52 (by decide) ?_
        refine lv_isub hx hb dX12_type_53 ?_
        refine lv_i2l hx hb dX12_type_54 rfl ?_
        obtain ⟨v_6, hc_6, hf⟩ := calp_inv hf
        refine cc_Si (r_X12_isIn (D := D) (y := y) (w := WM y o s_1) (ad := ad) (av := av) hc_6 l) hx hb hml hta hown hK hN hV hA hC hRc hRs (by omega) (by omega) wq_1362 wq_1363 wq_1012 wq_1007 hd_X12_isIn (As := [.long x2.toInt64, .long 0, .long ((t0_5 - 1).toInt64)]) (rest := []) rfl rfl hl.1 rfl dX12_type_55 (fun H locs hC => ?_)
        refine lv_if_ne (tgt := 63) hx hb dX12_type_58 (by decide) (fun c_7 => ?_) (fun c_7 => ?_)
        · have hf := it_f c_7 hf
          refine lv_iload_n hx hb dX12_type_63 rfl (lv_at hl 1 rfl) ?_
          obtain ⟨k_109, hk_109, hf⟩ := jn_inv0 hf
          have hj_109 : ∀  (H : Heap) (locs : List Loc) (ls : Array Slot), k_109 = some (v, σ2) → CZ D A s H locs (WM y o s_1) → lv_has ls 3 [] → W p l e R s m args below meth c H locs 0 0 Q (F0 m 109 ls []) := by
            intro H locs ls hf hC hl
            have hf := hk_109 hf
            refine lv_iconst (v := 0) hx hb dX12_type_109 (by decide) ?_
            exact hret _ _ _ _ _ _ (rv_inv hf).1 (congrArg (WM y o) (rv_inv hf).2) rfl dX12_type_110 hC
          obtain ⟨k_105, hk_105, hf⟩ := jn_inv0 hf
          have hj_105 : ∀  (H : Heap) (locs : List Loc) (ls : Array Slot), k_105 = some (v, σ2) → CZ D A s H locs (WM y o s_1) → lv_has ls 3 [] → W p l e R s m args below meth c H locs 0 0 Q (F0 m 105 ls []) := by
            intro H locs ls hf hC hl
            have hf := hk_105 hf
            refine lv_iconst (v := 1) hx hb dX12_type_105 (by decide) ?_
            refine lv_goto (tgt := 110) hx hb dX12_type_106 (by decide) ?_
            exact hret _ _ _ _ _ _ (rv_inv hf).1 (congrArg (WM y o) (rv_inv hf).2) rfl dX12_type_110 hC
          refine lv_if_ne (tgt := 79) hx hb dX12_type_64 (by decide) (fun c_10 => ?_) (fun c_10 => ?_)
          · have hf := it_f c_10 hf
            refine lv_iload_n hx hb dX12_type_79 rfl (lv_at hl 1 rfl) ?_
            refine lv_iconst (v := 1) hx hb dX12_type_80 (by decide) ?_
            refine lv_icmp_ne (tgt := 96) hx hb dX12_type_81 (by decide) (fun c_13 => ?_) (fun c_13 => ?_)
            · have hf := it_f c_13 hf
              refine lv_aload_n hx hb dX12_type_96 rfl (lv_at hl 0 rfl) ?_
              refine gt_X12_121_m hx hb hta hown hK hC dX12_type_97 ?_
              refine lv_iload_n hx hb dX12_type_100 rfl (lv_at hl 2 rfl) ?_
              obtain ⟨hi_16, hf⟩ := ix_inv hf
              obtain ⟨v_16, e_16, hf⟩ := lt_inv hf
              refine al_M_37 hx hb hK hC hi_16 e_16 dX12_type_101 ?_
              refine lv_if_eq (tgt := 109) hx hb dX12_type_102 (by decide) (fun c_17 => ?_) (fun c_17 => ?_)
              · have hf := it_t c_17 hf
                exact hj_109 _ _ _ hf hC (lv_sub hl [] rfl)
              · have hf := it_f c_17 hf
                exact hj_105 _ _ _ hf hC (lv_sub hl [] rfl)
            · have hf := it_t c_13 hf
              refine lv_aload_n hx hb dX12_type_84 rfl (lv_at hl 0 rfl) ?_
              refine gt_X12_118_m hx hb hta hown hK hC dX12_type_85 ?_
              refine lv_iload_n hx hb dX12_type_88 rfl (lv_at hl 2 rfl) ?_
              obtain ⟨hi_14, hf⟩ := ix_inv hf
              obtain ⟨v_14, e_14, hf⟩ := lt_inv hf
              refine al_M_36 hx hb hK hC hi_14 e_14 dX12_type_89 ?_
              refine lv_if_eq (tgt := 109) hx hb dX12_type_90 (by decide) (fun c_15 => ?_) (fun c_15 => ?_)
              · have hf := it_t c_15 hf
                exact hj_109 _ _ _ hf hC (lv_sub hl [] rfl)
              · have hf := it_f c_15 hf
                refine lv_goto (tgt := 105) hx hb dX12_type_93 (by decide) ?_
                exact hj_105 _ _ _ hf hC (lv_sub hl [] rfl)
          · have hf := it_t c_10 hf
            refine lv_aload_n hx hb dX12_type_67 rfl (lv_at hl 0 rfl) ?_
            refine gt_X12_115_m hx hb hta hown hK hC dX12_type_68 ?_
            refine lv_iload_n hx hb dX12_type_71 rfl (lv_at hl 2 rfl) ?_
            obtain ⟨hi_11, hf⟩ := ix_inv hf
            obtain ⟨v_11, e_11, hf⟩ := lt_inv hf
            refine al_M_35 hx hb hK hC hi_11 e_11 dX12_type_72 ?_
            refine lv_if_eq (tgt := 109) hx hb dX12_type_73 (by decide) (fun c_12 => ?_) (fun c_12 => ?_)
            · have hf := it_t c_12 hf
              exact hj_109 _ _ _ hf hC (lv_sub hl [] rfl)
            · have hf := it_f c_12 hf
              refine lv_goto (tgt := 105) hx hb dX12_type_76 (by decide) ?_
              exact hj_105 _ _ _ hf hC (lv_sub hl [] rfl)
        · have hf := it_t c_7 hf
          refine lv_iconst (v := (-1)) hx hb dX12_type_61 (by decide) ?_
          exact hret _ _ _ _ _ _ (rv_inv hf).1 (congrArg (WM y o) (rv_inv hf).2) rfl dX12_type_62 hC
      refine lv_if_ne (tgt := 36) hx hb dX12_type_28 (by decide) (fun c_18 => ?_) (fun c_18 => ?_)
      · have hf := it_f c_18 hf
        refine lv_iload_n hx hb dX12_type_36 rfl (lv_at hl 1 rfl) ?_
        refine lv_iconst (v := 1) hx hb dX12_type_37 (by decide) ?_
        refine lv_icmp_ne (tgt := 48) hx hb dX12_type_38 (by decide) (fun c_19 => ?_) (fun c_19 => ?_)
        · have hf := it_f c_19 hf
          refine lv_aload_n hx hb dX12_type_48 rfl (lv_at hl 0 rfl) ?_
          refine gt_X12_410_m hx hb hta hown hK hC dX12_type_49 ?_
          exact hj_52 _ _ _ _ hf hC hl
        · have hf := it_t c_19 hf
          refine lv_aload_n hx hb dX12_type_41 rfl (lv_at hl 0 rfl) ?_
          refine gt_X12_447_m hx hb hta hown hK hC dX12_type_42 ?_
          refine lv_goto (tgt := 52) hx hb dX12_type_45 (by decide) ?_
          exact hj_52 _ _ _ _ hf hC hl
      · have hf := it_t c_18 hf
        refine lv_bipush (v := 6) hx hb dX12_type_31 (by decide) ?_
        refine lv_goto (tgt := 52) hx hb dX12_type_33 (by decide) ?_
        exact hj_52 _ _ _ _ hf hC hl

set_option maxHeartbeats 8000000 in
set_option maxRecDepth 100000 in
theorem r_X12_begins {D : va_G} {y : Nat → ClassId} {o : Nat → Nat} {ad av : Nat → Nat} {x1 : Int32} {x2 : Int32} {x3 : Int32} {x4 : Int32} {σ : Sto} {σ2 : Sto} (hf : f_X12_begins x1 x2 x3 x4 σ = some σ2) (l : Launch) (sz : Nat) : Met l yX12_begins (Cond.code yX12_begins cX12_begins 6 none :: ALW) { frames := 0, cells := 0, slots := 0, locals := 0 } (va_Pc [.ref (o 0), .int x1, .int x2, .int x3, .int x4] (PZ D y ad av (WM y o σ) sz)) (QZv D (WM y o σ) (WM y o σ2) sz) 0 0 (va_A (WM y o σ) sz) := by
  refine met_v (by decide) (Nat.le_of_ble_eq_true rfl) ?_
  intro p e R s m args below meth c Q A ls hx hb hml hta hown hRc hRs hRf hRl hN hK hV hA hret hC hl
  have hl : lv_has ls 6 [(0, .ref (o 0)), (1, .int x1), (2, .int x2), (3, .int x3), (4, .int x4)] := hl
  unfold f_X12_begins at hf
  refine lv_iconst (v := 0) hx hb dX12_begins_0 (by decide) ?_
  refine lv_istore (lv' := [(5, .int 0), (0, .ref (o 0)), (1, .int x1), (2, .int x2), (3, .int x3), (4, .int x4)]) hx hb dX12_begins_1 hl (by decide) rfl (fun ls hl => ?_)
  refine itr_inv2 (P := fun (x5_1 : Int32) (s_1 : Sto) => ∀ (H : Heap) (locs : List Loc) (ls : Array Slot), CZ D A s H locs (WM y o s_1) → lv_has ls 6 [(0, .ref (o 0)), (1, .int x1), (2, .int x2), (3, .int x3), (4, .int x4), (5, .int x5_1)] → W p l e R s m args below meth c H locs 0 0 Q (F0 m 3 ls [])) hf ?_ _ _ _ hC (lv_sub hl [1, 2, 3, 4, 5, 0] rfl)
  intro a_3 x5_1 s_1 ha_3 hf H locs ls hC hl
  refine lv_iload hx hb dX12_begins_3 (lv_at hl 5 rfl) ?_
  refine lv_bipush (v := 6) hx hb dX12_begins_5 (by decide) ?_
  refine lv_icmp_ge (tgt := 43) hx hb dX12_begins_7 (by decide) (fun c_2 => ?_) (fun c_2 => ?_)
  · have hf := it_t c_2 hf
    refine lv_aload_n hx hb dX12_begins_43 rfl (lv_at hl 0 rfl) ?_
    refine lv_iconst (v := 0) hx hb dX12_begins_44 (by decide) ?_
    obtain ⟨s_3, e_3, hf⟩ := lt_inv hf
    refine pt_X12_675_m hx hb hta hown hK hC e_3 dX12_begins_45 (fun H locs hC => ?_)
    refine lv_aload_n hx hb dX12_begins_48 rfl (lv_at hl 0 rfl) ?_
    refine lv_iconst (v := 0) hx hb dX12_begins_49 (by decide) ?_
    obtain ⟨s_4, e_4, hf⟩ := lt_inv hf
    refine pt_X12_678_m hx hb hta hown hK hC e_4 dX12_begins_50 (fun H locs hC => ?_)
    refine lv_aload_n hx hb dX12_begins_53 rfl (lv_at hl 0 rfl) ?_
    refine lv_iconst (v := 0) hx hb dX12_begins_54 (by decide) ?_
    obtain ⟨s_5, e_5, hf⟩ := lt_inv hf
    refine pt_X12_681_m hx hb hta hown hK hC e_5 dX12_begins_55 (fun H locs hC => ?_)
    refine lv_aload_n hx hb dX12_begins_58 rfl (lv_at hl 0 rfl) ?_
    refine lv_iconst (v := (-1)) hx hb dX12_begins_59 (by decide) ?_
    obtain ⟨s_6, e_6, hf⟩ := lt_inv hf
    refine pt_X12_684_m hx hb hta hown hK hC e_6 dX12_begins_60 (fun H locs hC => ?_)
    refine lv_aload_n hx hb dX12_begins_63 rfl (lv_at hl 0 rfl) ?_
    refine lv_iconst (v := 0) hx hb dX12_begins_64 (by decide) ?_
    obtain ⟨s_7, e_7, hf⟩ := lt_inv hf
    refine pt_X12_687_m hx hb hta hown hK hC e_7 dX12_begins_65 (fun H locs hC => ?_)
    refine lv_aload_n hx hb dX12_begins_68 rfl (lv_at hl 0 rfl) ?_
    refine lv_iload_n hx hb dX12_begins_69 rfl (lv_at hl 3 rfl) ?_
    obtain ⟨s_8, e_8, hf⟩ := lt_inv hf
    refine pt_X12_690_m hx hb hta hown hK hC e_8 dX12_begins_70 (fun H locs hC => ?_)
    refine lv_aload_n hx hb dX12_begins_73 rfl (lv_at hl 0 rfl) ?_
    refine lv_iload hx hb dX12_begins_74 (lv_at hl 4 rfl) ?_
    obtain ⟨s_9, e_9, hf⟩ := lt_inv hf
    refine pt_X12_693_m hx hb hta hown hK hC e_9 dX12_begins_76 (fun H locs hC => ?_)
    exact hret _ _ _ _ _ (congrArg (WM y o) (Option.some.inj hf)) dX12_begins_79 hC
  · have hf := it_f c_2 hf
    refine lv_aload_n hx hb dX12_begins_10 rfl (lv_at hl 0 rfl) ?_
    refine gt_X12_154_m hx hb hta hown hK hC dX12_begins_11 ?_
    refine lv_iload hx hb dX12_begins_14 (lv_at hl 5 rfl) ?_
    refine lv_iload hx hb dX12_begins_16 (lv_at hl 5 rfl) ?_
    obtain ⟨k_36, hk_36, hf⟩ := jn_inv1 hf
    have hj_36 : ∀ (t0_10 : Int32) (H : Heap) (locs : List Loc) (ls : Array Slot), k_36 t0_10 = some σ2 → CZ D A s H locs (WM y o s_1) → lv_has ls 6 [(0, .ref (o 0)), (1, .int x1), (2, .int x2), (3, .int x3), (4, .int x4), (5, .int x5_1)] → W p l e R s m args below meth c H locs 0 0 Q (F0 m 36 ls [.int t0_10, .int x5_1, .ref (o 48)]) := by
      intro t0_10 H locs ls hf hC hl
      have hf := hk_36 _ hf
      obtain ⟨hi_11, hf⟩ := ix_inv hf
      obtain ⟨s_11, e_11, hf⟩ := lt_inv hf
      refine as_M_48 hx hb hK hC hi_11 e_11 dX12_begins_36 (fun H locs hC => ?_)
      obtain ⟨x5_12, e_12, hf⟩ := lt_inv hf
      refine lv_iinc (v := x5_12) (lv' := [(5, .int x5_12), (0, .ref (o 0)), (1, .int x1), (2, .int x2), (3, .int x3), (4, .int x4)]) hx hb dX12_begins_37 hl (k := 5) rfl e_12.symm (by decide) rfl (fun ls hl => ?_)
      refine lv_goto (tgt := 3) hx hb dX12_begins_40 (by decide) ?_
      exact ha_3 _ _ hf _ _ _ hC (lv_sub hl [1, 2, 3, 4, 5, 0] rfl)
    refine lv_if_ne (tgt := 25) hx hb dX12_begins_18 (by decide) (fun c_13 => ?_) (fun c_13 => ?_)
    · have hf := it_f c_13 hf
      refine lv_iload hx hb dX12_begins_25 (lv_at hl 5 rfl) ?_
      refine lv_iconst (v := 1) hx hb dX12_begins_27 (by decide) ?_
      refine lv_icmp_ne (tgt := 35) hx hb dX12_begins_28 (by decide) (fun c_14 => ?_) (fun c_14 => ?_)
      · have hf := it_f c_14 hf
        refine lv_iconst (v := 0) hx hb dX12_begins_35 (by decide) ?_
        exact hj_36 _ _ _ _ hf hC hl
      · have hf := it_t c_14 hf
        refine lv_iload_n hx hb dX12_begins_31 rfl (lv_at hl 2 rfl) ?_
        refine lv_goto (tgt := 36) hx hb dX12_begins_32 (by decide) ?_
        exact hj_36 _ _ _ _ hf hC hl
    · have hf := it_t c_13 hf
      refine lv_iload_n hx hb dX12_begins_21 rfl (lv_at hl 1 rfl) ?_
      refine lv_goto (tgt := 36) hx hb dX12_begins_22 (by decide) ?_
      exact hj_36 _ _ _ _ hf hC hl

set_option maxHeartbeats 8000000 in
set_option maxRecDepth 100000 in
theorem r_X12_caught {D : va_G} {y : Nat → ClassId} {o : Nat → Nat} {ad av : Nat → Nat} {x1 : Int32} {σ : Sto} {σ2 : Sto} {v : Int32} (hf : f_X12_caught x1 σ = some (v, σ2)) (l : Launch) (sz : Nat) : Met l yX12_caught (Cond.code yX12_caught cX12_caught 3 (some .int) :: ALW) { frames := 1, cells := 0, slots := 0, locals := 23 } (va_Pc [.ref (o 0), .int x1] (PZ D y ad av (WM y o σ) sz)) (QZi D (WM y o σ) v (WM y o σ2) sz) 0 0 (va_A (WM y o σ) sz) := by
  refine met_i (by decide) (Nat.le_of_ble_eq_true rfl) ?_
  intro p e R s m args below meth c Q A ls hx hb hml hta hown hRc hRs hRf hRl hN hK hV hA hret hC hl
  have hl : lv_has ls 3 [(0, .ref (o 0)), (1, .int x1)] := hl
  unfold f_X12_caught at hf
  refine lv_aload_n hx hb dX12_caught_0 rfl (lv_at hl 0 rfl) ?_
  refine lv_iconst (v := 0) hx hb dX12_caught_1 (by decide) ?_
  obtain ⟨s_1, e_1, hf⟩ := lt_inv hf
  refine pt_X12_697_m hx hb hta hown hK hC (Or.inl rfl) e_1 dX12_caught_2 (fun H locs hC => ?_)
  refine lv_aload_n hx hb dX12_caught_5 rfl (lv_at hl 0 rfl) ?_
  refine gt_X12_29_m hx hb hta hown hK hC dX12_caught_6 ?_
  refine lv_aload_n hx hb dX12_caught_9 rfl (lv_at hl 0 rfl) ?_
  refine gt_X12_289_m hx hb hta hown hK hC dX12_caught_10 ?_
  refine lv_iload_n hx hb dX12_caught_13 rfl (lv_at hl 1 rfl) ?_
  obtain ⟨v_2, hc_2, hf⟩ := calp_inv hf
  refine cc_Si (r_X12_handlerOf_handler (D := D) (y := y) (o := o) (ad := ad) (av := av) hc_2 l) hx hb hml hta hown hK hN hV hA hC hRc hRs (by omega) (by omega) wq_1092 wq_1093 wq_1012 wq_1077 hd_X12_handlerOf (As := [.ref (o 7), .int (s_1.1 16 0), .int x1]) (rest := []) rfl rfl hl.1 rfl dX12_caught_14 (fun H locs hC => ?_)
  refine lv_istore_n (lv' := [(2, .int v_2), (0, .ref (o 0)), (1, .int x1)]) hx hb dX12_caught_17 rfl hl (by decide) rfl (fun ls hl => ?_)
  refine lv_iload_n hx hb dX12_caught_18 rfl (lv_at hl 0 rfl) ?_
  refine lv_iconst (v := (-1)) hx hb dX12_caught_19 (by decide) ?_
  refine lv_icmp_ne (tgt := 38) hx hb dX12_caught_20 (by decide) (fun c_3 => ?_) (fun c_3 => ?_)
  · have hf := it_f c_3 hf
    refine lv_aload_n hx hb dX12_caught_38 rfl (lv_at hl 1 rfl) ?_
    refine gt_X12_160_m hx hb hta hown hK hC dX12_caught_39 ?_
    refine lv_iconst (v := 0) hx hb dX12_caught_42 (by decide) ?_
    refine lv_aload_n hx hb dX12_caught_43 rfl (lv_at hl 1 rfl) ?_
    refine gt_X12_700_m hx hb hta hown hK hC dX12_caught_44 ?_
    obtain ⟨hi_6, hf⟩ := ix_inv hf
    obtain ⟨s_6, e_6, hf⟩ := lt_inv hf
    refine as_M_50 hx hb hK hC hi_6 e_6 dX12_caught_47 (fun H locs hC => ?_)
    refine lv_aload_n hx hb dX12_caught_48 rfl (lv_at hl 1 rfl) ?_
    refine lv_iconst (v := 1) hx hb dX12_caught_49 (by decide) ?_
    obtain ⟨s_7, e_7, hf⟩ := lt_inv hf
    refine pt_X12_706_m hx hb hta hown hK hC e_7 dX12_caught_50 (fun H locs hC => ?_)
    refine lv_aload_n hx hb dX12_caught_53 rfl (lv_at hl 1 rfl) ?_
    refine gt_X12_29_m hx hb hta hown hK hC dX12_caught_54 ?_
    refine lv_iconst (v := 3) hx hb dX12_caught_57 (by decide) ?_
    refine lv_iload_n hx hb dX12_caught_58 rfl (lv_at hl 0 rfl) ?_
    refine lv_imul hx hb dX12_caught_59 ?_
    refine lv_iconst (v := 2) hx hb dX12_caught_60 (by decide) ?_
    refine lv_iadd hx hb dX12_caught_61 ?_
    obtain ⟨hi_8, hf⟩ := ix_inv hf
    obtain ⟨v_8, e_8, hf⟩ := lt_inv hf
    refine al_M_7 hx hb hK hC hi_8 e_8 dX12_caught_62 ?_
    exact hret _ _ _ _ _ _ (rv_inv hf).1 (congrArg (WM y o) (rv_inv hf).2) rfl dX12_caught_63 hC
  · have hf := it_t c_3 hf
    refine lv_aload_n hx hb dX12_caught_23 rfl (lv_at hl 1 rfl) ?_
    refine lv_iconst (v := 1) hx hb dX12_caught_24 (by decide) ?_
    obtain ⟨s_4, e_4, hf⟩ := lt_inv hf
    refine pt_X12_684_m hx hb hta hown hK hC e_4 dX12_caught_25 (fun H locs hC => ?_)
    refine lv_aload_n hx hb dX12_caught_28 rfl (lv_at hl 1 rfl) ?_
    refine lv_aload_n hx hb dX12_caught_29 rfl (lv_at hl 1 rfl) ?_
    refine gt_X12_700_m hx hb hta hown hK hC dX12_caught_30 ?_
    obtain ⟨s_5, e_5, hf⟩ := lt_inv hf
    refine pt_X12_687_m hx hb hta hown hK hC e_5 dX12_caught_33 (fun H locs hC => ?_)
    refine lv_iload_n hx hb dX12_caught_36 rfl (lv_at hl 2 rfl) ?_
    exact hret _ _ _ _ _ _ (rv_inv hf).1 (congrArg (WM y o) (rv_inv hf).2) rfl dX12_caught_37 hC

set_option maxHeartbeats 8000000 in
set_option maxRecDepth 100000 in
theorem r_X12_input {D : va_G} {y : Nat → ClassId} {o : Nat → Nat} {ad av : Nat → Nat} {σ : Sto} {σ2 : Sto} {v : Int32} (hf : f_X12_input σ = some (v, σ2)) (l : Launch) (sz : Nat) : Met l yX12_input (Cond.code yX12_input cX12_input 1 (some .int) :: ALW) { frames := 0, cells := 0, slots := 0, locals := 0 } (va_Pc [.ref (o 0)] (PZ D y ad av (WM y o σ) sz)) (QZi D (WM y o σ) v (WM y o σ2) sz) 0 0 (va_A (WM y o σ) sz) := by
  refine met_i (by decide) (Nat.le_of_ble_eq_true rfl) ?_
  intro p e R s m args below meth c Q A ls hx hb hml hta hown hRc hRs hRf hRl hN hK hV hA hret hC hl
  have hl : lv_has ls 1 [(0, .ref (o 0))] := hl
  unfold f_X12_input at hf
  refine lv_aload_n hx hb dX12_input_0 rfl (lv_at hl 0 rfl) ?_
  refine lv_aload_n hx hb dX12_input_1 rfl (lv_at hl 0 rfl) ?_
  refine gt_X12_690_m hx hb hta hown hK hC dX12_input_2 ?_
  refine lv_ldcw hx hb hown (hta _ wq_1509) dX12_input_5 ?_
  refine lv_imul hx hb dX12_input_8 ?_
  refine lv_sipush (v := 12345) hx hb dX12_input_9 (by decide) ?_
  refine lv_iadd hx hb dX12_input_12 ?_
  obtain ⟨s_1, e_1, hf⟩ := lt_inv hf
  refine pt_X12_690_m hx hb hta hown hK hC e_1 dX12_input_13 (fun H locs hC => ?_)
  refine lv_aload_n hx hb dX12_input_16 rfl (lv_at hl 0 rfl) ?_
  refine lv_dup hx hb dX12_input_17 rfl ?_
  refine gt_X12_678_m hx hb hta hown hK hC dX12_input_18 ?_
  refine lv_iconst (v := 1) hx hb dX12_input_21 (by decide) ?_
  refine lv_iadd hx hb dX12_input_22 ?_
  obtain ⟨s_2, e_2, hf⟩ := lt_inv hf
  refine pt_X12_678_m hx hb hta hown hK hC e_2 dX12_input_23 (fun H locs hC => ?_)
  refine lv_aload_n hx hb dX12_input_26 rfl (lv_at hl 0 rfl) ?_
  refine gt_X12_690_m hx hb hta hown hK hC dX12_input_27 ?_
  refine lv_bipush (v := 16) hx hb dX12_input_30 (by decide) ?_
  refine lv_iushr hx hb dX12_input_32 rfl ?_
  refine lv_sipush (v := 32767) hx hb dX12_input_33 (by decide) ?_
  refine lv_iand hx hb dX12_input_36 ?_
  refine lv_iconst (v := 5) hx hb dX12_input_37 (by decide) ?_
  refine lv_irem hx hb dX12_input_38 (by decide) ?_
  exact hret _ _ _ _ _ _ (rv_inv hf).1 (congrArg (WM y o) (rv_inv hf).2) rfl dX12_input_39 hC

set_option maxHeartbeats 8000000 in
set_option maxRecDepth 100000 in
theorem r_X12_outputs {D : va_G} {y : Nat → ClassId} {o : Nat → Nat} {ad av : Nat → Nat} {x1 : Int32} {σ : Sto} {σ2 : Sto} (hf : f_X12_outputs x1 σ = some σ2) (l : Launch) (sz : Nat) : Met l yX12_outputs (Cond.code yX12_outputs cX12_outputs 2 none :: ALW) { frames := 0, cells := 0, slots := 0, locals := 0 } (va_Pc [.ref (o 0), .int x1] (PZ D y ad av (WM y o σ) sz)) (QZv D (WM y o σ) (WM y o σ2) sz) 0 0 (va_A (WM y o σ) sz) := by
  refine met_v (by decide) (Nat.le_of_ble_eq_true rfl) ?_
  intro p e R s m args below meth c Q A ls hx hb hml hta hown hRc hRs hRf hRl hN hK hV hA hret hC hl
  have hl : lv_has ls 2 [(0, .ref (o 0)), (1, .int x1)] := hl
  unfold f_X12_outputs at hf
  refine lv_aload_n hx hb dX12_outputs_0 rfl (lv_at hl 0 rfl) ?_
  refine gt_X12_157_m hx hb hta hown hK hC dX12_outputs_1 ?_
  refine lv_aload_n hx hb dX12_outputs_4 rfl (lv_at hl 0 rfl) ?_
  refine gt_X12_675_m hx hb hta hown hK hC dX12_outputs_5 ?_
  refine lv_iload_n hx hb dX12_outputs_8 rfl (lv_at hl 1 rfl) ?_
  obtain ⟨hi_1, hf⟩ := ix_inv hf
  obtain ⟨s_1, e_1, hf⟩ := lt_inv hf
  refine as_M_49 hx hb hK hC hi_1 e_1 dX12_outputs_9 (fun H locs hC => ?_)
  refine lv_aload_n hx hb dX12_outputs_10 rfl (lv_at hl 0 rfl) ?_
  refine lv_dup hx hb dX12_outputs_11 rfl ?_
  refine gt_X12_675_m hx hb hta hown hK hC dX12_outputs_12 ?_
  refine lv_iconst (v := 1) hx hb dX12_outputs_15 (by decide) ?_
  refine lv_iadd hx hb dX12_outputs_16 ?_
  obtain ⟨s_2, e_2, hf⟩ := lt_inv hf
  refine pt_X12_675_m hx hb hta hown hK hC e_2 dX12_outputs_17 (fun H locs hC => ?_)
  exact hret _ _ _ _ _ (congrArg (WM y o) (Option.some.inj hf)) dX12_outputs_20 hC

set_option maxHeartbeats 8000000 in
set_option maxRecDepth 100000 in
theorem r_X12_throwsIt {D : va_G} {y : Nat → ClassId} {o : Nat → Nat} {ad av : Nat → Nat} {x1 : Int32} {σ : Sto} {σ2 : Sto} (hf : f_X12_throwsIt x1 σ = some σ2) (l : Launch) (sz : Nat) : Met l yX12_throwsIt (Cond.code yX12_throwsIt cX12_throwsIt 2 none :: ALW) { frames := 0, cells := 0, slots := 0, locals := 0 } (va_Pc [.ref (o 0), .int x1] (PZ D y ad av (WM y o σ) sz)) (QZv D (WM y o σ) (WM y o σ2) sz) 0 0 (va_A (WM y o σ) sz) := by
  refine met_v (by decide) (Nat.le_of_ble_eq_true rfl) ?_
  intro p e R s m args below meth c Q A ls hx hb hml hta hown hRc hRs hRf hRl hN hK hV hA hret hC hl
  have hl : lv_has ls 2 [(0, .ref (o 0)), (1, .int x1)] := hl
  unfold f_X12_throwsIt at hf
  refine lv_aload_n hx hb dX12_throwsIt_0 rfl (lv_at hl 0 rfl) ?_
  refine lv_iconst (v := 1) hx hb dX12_throwsIt_1 (by decide) ?_
  obtain ⟨s_1, e_1, hf⟩ := lt_inv hf
  refine pt_X12_697_m hx hb hta hown hK hC (Or.inr rfl) e_1 dX12_throwsIt_2 (fun H locs hC => ?_)
  refine lv_aload_n hx hb dX12_throwsIt_5 rfl (lv_at hl 0 rfl) ?_
  refine lv_iload_n hx hb dX12_throwsIt_6 rfl (lv_at hl 1 rfl) ?_
  obtain ⟨s_2, e_2, hf⟩ := lt_inv hf
  refine pt_X12_700_m hx hb hta hown hK hC e_2 dX12_throwsIt_7 (fun H locs hC => ?_)
  exact hret _ _ _ _ _ (congrArg (WM y o) (Option.some.inj hf)) dX12_throwsIt_10 hC

set_option maxHeartbeats 8000000 in
set_option maxRecDepth 100000 in
theorem r_X12_result {D : va_G} {y : Nat → ClassId} {o : Nat → Nat} {ad av : Nat → Nat} {x1 : Int32} {x2 : Int32} {x3 : Int32} {σ : Sto} {σ2 : Sto} {v : Int32} (hf : f_X12_result x1 x2 x3 σ = some (v, σ2)) (l : Launch) (sz : Nat) : Met l yX12_result (Cond.code yX12_result cX12_result 4 (some .int) :: ALW) { frames := 1, cells := 0, slots := 0, locals := 21 } (va_Pc [.ref (o 0), .int x1, .int x2, .int x3] (PZ D y ad av (WM y o σ) sz)) (QZi D (WM y o σ) v (WM y o σ2) sz) 0 0 (va_A (WM y o σ) sz) := by
  refine met_i (by decide) (Nat.le_of_ble_eq_true rfl) ?_
  intro p e R s m args below meth c Q A ls hx hb hml hta hown hRc hRs hRf hRl hN hK hV hA hret hC hl
  have hl : lv_has ls 4 [(0, .ref (o 0)), (1, .int x1), (2, .int x2), (3, .int x3)] := hl
  unfold f_X12_result at hf
  refine lv_iload_n hx hb dX12_result_0 rfl (lv_at hl 1 rfl) ?_
  by_cases h_1_0 : x1.toInt = 42
  · have hf := it_t h_1_0 hf
    refine lv_lookup (off := 59) (tgt := 60) hx hb dX12_result_1 (by decide) (by (rw [h_1_0]; decide)) (by decide) ?_
    refine lv_iload_n hx hb dX12_result_60 rfl (lv_at hl 2 rfl) ?_
    refine lv_iload_n hx hb dX12_result_61 rfl (lv_at hl 3 rfl) ?_
    refine lv_imul hx hb dX12_result_62 ?_
    exact hret _ _ _ _ _ _ (rv_inv hf).1 (congrArg (WM y o) (rv_inv hf).2) rfl dX12_result_63 hC
  have hf := it_f h_1_0 hf
  by_cases h_1_1 : x1.toInt = 43
  · have hf := it_t h_1_1 hf
    refine lv_lookup (off := 51) (tgt := 52) hx hb dX12_result_1 (by decide) (by (rw [h_1_1]; decide)) (by decide) ?_
    refine lv_iload_n hx hb dX12_result_52 rfl (lv_at hl 2 rfl) ?_
    refine lv_iload_n hx hb dX12_result_53 rfl (lv_at hl 3 rfl) ?_
    refine lv_iadd hx hb dX12_result_54 ?_
    exact hret _ _ _ _ _ _ (rv_inv hf).1 (congrArg (WM y o) (rv_inv hf).2) rfl dX12_result_55 hC
  have hf := it_f h_1_1 hf
  by_cases h_1_2 : x1.toInt = 45
  · have hf := it_t h_1_2 hf
    refine lv_lookup (off := 55) (tgt := 56) hx hb dX12_result_1 (by decide) (by (rw [h_1_2]; decide)) (by decide) ?_
    refine lv_iload_n hx hb dX12_result_56 rfl (lv_at hl 2 rfl) ?_
    refine lv_iload_n hx hb dX12_result_57 rfl (lv_at hl 3 rfl) ?_
    refine lv_isub hx hb dX12_result_58 ?_
    exact hret _ _ _ _ _ _ (rv_inv hf).1 (congrArg (WM y o) (rv_inv hf).2) rfl dX12_result_59 hC
  have hf := it_f h_1_2 hf
  by_cases h_1_3 : x1.toInt = 60
  · have hf := it_t h_1_3 hf
    refine lv_lookup (off := 63) (tgt := 64) hx hb dX12_result_1 (by decide) (by (rw [h_1_3]; decide)) (by decide) ?_
    refine lv_iload_n hx hb dX12_result_64 rfl (lv_at hl 2 rfl) ?_
    refine lv_iload_n hx hb dX12_result_65 rfl (lv_at hl 3 rfl) ?_
    refine lv_icmp_ge (tgt := 73) hx hb dX12_result_66 (by decide) (fun c_2 => ?_) (fun c_2 => ?_)
    · have hf := it_t c_2 hf
      refine lv_iconst (v := 0) hx hb dX12_result_73 (by decide) ?_
      exact hret _ _ _ _ _ _ (rv_inv hf).1 (congrArg (WM y o) (rv_inv hf).2) rfl dX12_result_74 hC
    · have hf := it_f c_2 hf
      refine lv_iconst (v := 1) hx hb dX12_result_69 (by decide) ?_
      refine lv_goto (tgt := 74) hx hb dX12_result_70 (by decide) ?_
      exact hret _ _ _ _ _ _ (rv_inv hf).1 (congrArg (WM y o) (rv_inv hf).2) rfl dX12_result_74 hC
  have hf := it_f h_1_3 hf
  by_cases h_1_4 : x1.toInt = 61
  · have hf := it_t h_1_4 hf
    refine lv_lookup (off := 74) (tgt := 75) hx hb dX12_result_1 (by decide) (by (rw [h_1_4]; decide)) (by decide) ?_
    refine lv_iload_n hx hb dX12_result_75 rfl (lv_at hl 2 rfl) ?_
    refine lv_iload_n hx hb dX12_result_76 rfl (lv_at hl 3 rfl) ?_
    refine lv_icmp_ne (tgt := 84) hx hb dX12_result_77 (by decide) (fun c_3 => ?_) (fun c_3 => ?_)
    · have hf := it_f c_3 hf
      refine lv_iconst (v := 0) hx hb dX12_result_84 (by decide) ?_
      exact hret _ _ _ _ _ _ (rv_inv hf).1 (congrArg (WM y o) (rv_inv hf).2) rfl dX12_result_85 hC
    · have hf := it_t c_3 hf
      refine lv_iconst (v := 1) hx hb dX12_result_80 (by decide) ?_
      refine lv_goto (tgt := 85) hx hb dX12_result_81 (by decide) ?_
      exact hret _ _ _ _ _ _ (rv_inv hf).1 (congrArg (WM y o) (rv_inv hf).2) rfl dX12_result_85 hC
  have hf := it_f h_1_4 hf
  refine lv_lookup (off := 85) (tgt := 86) hx hb dX12_result_1 (by decide) (lk_none (by intro a ha; simp only [List.mem_cons, List.not_mem_nil, or_false] at ha; rcases ha with rfl | rfl | rfl | rfl | rfl <;> (simp only; omega))) (by decide) ?_
  refine lv_iload_n hx hb dX12_result_86 rfl (lv_at hl 3 rfl) ?_
  obtain ⟨k_96, hk_96, hf⟩ := jn_inv1 hf
  have hj_96 : ∀ (s_4 : Sto) (H : Heap) (locs : List Loc) (ls : Array Slot), k_96 s_4 = some (v, σ2) → CZ D A s H locs (WM y o s_4) → lv_has ls 4 [(1, .int x1), (2, .int x2), (3, .int x3)] → W p l e R s m args below meth c H locs 0 0 Q (F0 m 96 ls []) := by
    intro s_4 H locs ls hf hC hl
    have hf := hk_96 _ hf
    refine lv_iload_n hx hb dX12_result_96 rfl (lv_at hl 2 rfl) ?_
    refine lv_if_ne (tgt := 104) hx hb dX12_result_97 (by decide) (fun c_5 => ?_) (fun c_5 => ?_)
    · have hf := it_f c_5 hf
      refine lv_iload_n hx hb dX12_result_104 rfl (lv_at hl 0 rfl) ?_
      refine lv_bipush (v := 47) hx hb dX12_result_105 (by decide) ?_
      refine lv_icmp_ne (tgt := 116) hx hb dX12_result_107 (by decide) (fun c_6 => ?_) (fun c_6 => ?_)
      · have hf := it_f c_6 hf
        refine lv_iload_n hx hb dX12_result_116 rfl (lv_at hl 1 rfl) ?_
        refine lv_iload_n hx hb dX12_result_117 rfl (lv_at hl 2 rfl) ?_
        obtain ⟨hz_8, hf⟩ := nz_inv hf
        refine lv_irem hx hb dX12_result_118 hz_8 ?_
        exact hret _ _ _ _ _ _ (rv_inv hf).1 (congrArg (WM y o) (rv_inv hf).2) rfl dX12_result_119 hC
      · have hf := it_t c_6 hf
        refine lv_iload_n hx hb dX12_result_110 rfl (lv_at hl 1 rfl) ?_
        refine lv_iload_n hx hb dX12_result_111 rfl (lv_at hl 2 rfl) ?_
        obtain ⟨hz_7, hf⟩ := nz_inv hf
        refine lv_idiv hx hb dX12_result_112 hz_7 ?_
        refine lv_goto (tgt := 119) hx hb dX12_result_113 (by decide) ?_
        exact hret _ _ _ _ _ _ (rv_inv hf).1 (congrArg (WM y o) (rv_inv hf).2) rfl dX12_result_119 hC
    · have hf := it_t c_5 hf
      refine lv_iconst (v := 0) hx hb dX12_result_100 (by decide) ?_
      refine lv_goto (tgt := 119) hx hb dX12_result_101 (by decide) ?_
      exact hret _ _ _ _ _ _ (rv_inv hf).1 (congrArg (WM y o) (rv_inv hf).2) rfl dX12_result_119 hC
  refine lv_if_ne (tgt := 96) hx hb dX12_result_87 (by decide) (fun c_9 => ?_) (fun c_9 => ?_)
  · have hf := it_f c_9 hf
    exact hj_96 _ _ _ _ hf hC (lv_sub hl [1, 2, 3] rfl)
  · have hf := it_t c_9 hf
    refine lv_aload_n hx hb dX12_result_90 rfl (lv_at hl 0 rfl) ?_
    refine lv_bipush (v := 99) hx hb dX12_result_91 (by decide) ?_
    obtain ⟨s_10, hc_10, hf⟩ := cals_inv hf
    refine cc_Vv (r_X12_throwsIt (D := D) (y := y) (o := o) (ad := ad) (av := av) hc_10 l) hx hb hml hta hown hK hN hV hA hC hRc hRs (by omega) (by omega) wq_1516 (q := 0) (ci := 12) rfl rfl wq_1517 wq_1518 wq_1012 wq_1512 hd_X12_throwsIt (As := [.int 99]) (rest := []) rfl rfl hl.1 rfl dX12_result_93 (fun H locs hC => ?_)
    exact hj_96 _ _ _ _ hf hC (lv_sub hl [1, 2, 3] rfl)

set_option maxHeartbeats 8000000 in
set_option maxRecDepth 100000 in
theorem r_X12_next {D : va_G} {y : Nat → ClassId} {o : Nat → Nat} {ad av : Nat → Nat} {x1 : Int32} {σ : Sto} {σ2 : Sto} {v : Int32} (hf : f_X12_next x1 σ = some (v, σ2)) (l : Launch) (sz : Nat) : Met l yX12_next (Cond.code yX12_next cX12_next 7 (some .int) :: ALW) { frames := 10, cells := 0, slots := 0, locals := 242 } (va_Pc [.ref (o 0), .int x1] (PZ D y ad av (WM y o σ) sz)) (QZi D (WM y o σ) v (WM y o σ2) sz) 0 0 (va_A (WM y o σ) sz) := by
  refine met_i (by decide) (Nat.le_of_ble_eq_true rfl) ?_
  intro p e R s m args below meth c Q A ls hx hb hml hta hown hRc hRs hRf hRl hN hK hV hA hret hC hl
  have hl : lv_has ls 7 [(0, .ref (o 0)), (1, .int x1)] := hl
  unfold f_X12_next at hf
  refine lv_aload_n hx hb dX12_next_0 rfl (lv_at hl 0 rfl) ?_
  refine gt_X12_23_m hx hb hta hown hK hC dX12_next_1 ?_
  refine lv_iload_n hx hb dX12_next_4 rfl (lv_at hl 1 rfl) ?_
  obtain ⟨hi_1, hf⟩ := ix_inv hf
  obtain ⟨v_1, e_1, hf⟩ := lt_inv hf
  refine al_M_5 hx hb hK hC hi_1 e_1 dX12_next_5 ?_
  refine lv_istore_n (lv' := [(2, .int v_1), (0, .ref (o 0)), (1, .int x1)]) hx hb dX12_next_6 rfl hl (by decide) rfl (fun ls hl => ?_)
  refine lv_iload_n hx hb dX12_next_7 rfl (lv_at hl 0 rfl) ?_
  obtain ⟨v_2, hc_2, hf⟩ := calp_inv hf
  refine cc_Si (r_X12_pops (D := D) (y := y) (w := WM y o σ) (ad := ad) (av := av) hc_2 l) hx hb hml hta hown hK hN hV hA hC hRc hRs (by omega) (by omega) wq_1081 wq_1082 wq_1012 wq_1072 hd_X12_pops (As := [.int v_1]) (rest := []) rfl rfl hl.1 rfl dX12_next_8 (fun H locs hC => ?_)
  obtain ⟨k_29, hk_29, hf⟩ := jn_inv1 hf
  have hj_29 : ∀ (t0_3 : Int32) (H : Heap) (locs : List Loc) (ls : Array Slot), k_29 t0_3 = some (v, σ2) → CZ D A s H locs (WM y o σ) → lv_has ls 7 [(0, .ref (o 0)), (1, .int x1), (2, .int v_1)] → W p l e R s m args below meth c H locs 0 0 Q (F0 m 29 ls [.int t0_3]) := by
    intro t0_3 H locs ls hf hC hl
    have hf := hk_29 _ hf
    refine lv_istore_n (lv' := [(3, .int t0_3), (0, .ref (o 0)), (1, .int x1), (2, .int v_1)]) hx hb dX12_next_29 rfl hl (by decide) rfl (fun ls hl => ?_)
    refine lv_iload_n hx hb dX12_next_30 rfl (lv_at hl 3 rfl) ?_
    obtain ⟨v_4, hc_4, hf⟩ := calp_inv hf
    refine cc_Si (r_X12_pops (D := D) (y := y) (w := WM y o σ) (ad := ad) (av := av) hc_4 l) hx hb hml hta hown hK hN hV hA hC hRc hRs (by omega) (by omega) wq_1081 wq_1082 wq_1012 wq_1072 hd_X12_pops (As := [.int v_1]) (rest := []) rfl rfl hl.1 rfl dX12_next_31 (fun H locs hC => ?_)
    refine lv_iconst (v := 1) hx hb dX12_next_34 (by decide) ?_
    obtain ⟨k_53, hk_53, hf⟩ := jn_inv1 hf
    have hj_53 : ∀ (t0_5 : Int32) (H : Heap) (locs : List Loc) (ls : Array Slot), k_53 t0_5 = some (v, σ2) → CZ D A s H locs (WM y o σ) → lv_has ls 7 [(0, .ref (o 0)), (1, .int x1), (2, .int v_1), (3, .int t0_3)] → W p l e R s m args below meth c H locs 0 0 Q (F0 m 53 ls [.int t0_5]) := by
      intro t0_5 H locs ls hf hC hl
      have hf := hk_53 _ hf
      refine lv_istore (lv' := [(4, .int t0_5), (0, .ref (o 0)), (1, .int x1), (2, .int v_1), (3, .int t0_3)]) hx hb dX12_next_53 hl (by decide) rfl (fun ls hl => ?_)
      refine lv_aload_n hx hb dX12_next_55 rfl (lv_at hl 1 rfl) ?_
      refine lv_dup hx hb dX12_next_56 rfl ?_
      refine gt_X12_706_m hx hb hta hown hK hC dX12_next_57 ?_
      refine lv_iload_n hx hb dX12_next_60 rfl (lv_at hl 3 rfl) ?_
      obtain ⟨v_6, hc_6, hf⟩ := calp_inv hf
      refine cc_Si (r_X12_pops (D := D) (y := y) (w := WM y o σ) (ad := ad) (av := av) hc_6 l) hx hb hml hta hown hK hN hV hA hC hRc hRs (by omega) (by omega) wq_1081 wq_1082 wq_1012 wq_1072 hd_X12_pops (As := [.int v_1]) (rest := [.int (σ.1 81 0), .ref (o 0)]) rfl rfl hl.1 rfl dX12_next_61 (fun H locs hC => ?_)
      refine lv_isub hx hb dX12_next_64 ?_
      obtain ⟨s_7, e_7, hf⟩ := lt_inv hf
      refine pt_X12_706_m hx hb hta hown hK hC e_7 dX12_next_65 (fun H locs hC => ?_)
      refine lv_iload_n hx hb dX12_next_68 rfl (lv_at hl 2 rfl) ?_
      refine lv_iconst (v := 1) hx hb dX12_next_69 (by decide) ?_
      refine lv_iadd hx hb dX12_next_70 ?_
      obtain ⟨x5_8, e_8, hf⟩ := lt_inv hf
      refine nmi e_8 ?_
      refine lv_istore (lv' := [(5, .int x5_8), (4, .int t0_5), (0, .ref (o 0)), (1, .int x1), (2, .int v_1), (3, .int t0_3)]) hx hb dX12_next_71 hl (by decide) rfl (fun ls hl => ?_)
      refine lv_iconst (v := 0) hx hb dX12_next_73 (by decide) ?_
      refine lv_istore (lv' := [(6, .int 0), (5, .int x5_8), (4, .int t0_5), (0, .ref (o 0)), (1, .int x1), (2, .int v_1), (3, .int t0_3)]) hx hb dX12_next_74 hl (by decide) rfl (fun ls hl => ?_)
      refine lv_iload_n hx hb dX12_next_76 rfl (lv_at hl 5 rfl) ?_
      obtain ⟨k_376, hk_376, hf⟩ := jn_inv3 hf
      have hj_376 : ∀ (x5_9 : Int32) (x6_9 : Int32) (s_9 : Sto) (H : Heap) (locs : List Loc) (ls : Array Slot), k_376 x5_9 x6_9 s_9 = some (v, σ2) → CZ D A s H locs (WM y o s_9) → lv_has ls 7 [(0, .ref (o 0)), (1, .int x1), (2, .int v_1), (5, .int x5_9), (6, .int x6_9)] → W p l e R s m args below meth c H locs 0 0 Q (F0 m 376 ls []) := by
        intro x5_9 x6_9 s_9 H locs ls hf hC hl
        have hf := hk_376 _ _ _ hf
        refine lv_iload_n hx hb dX12_next_376 rfl (lv_at hl 2 rfl) ?_
        obtain ⟨v_10, hc_10, hf⟩ := calp_inv hf
        refine cc_Si (r_X12_pushes (D := D) (y := y) (w := WM y o s_9) (ad := ad) (av := av) hc_10 l) hx hb hml hta hown hK hN hV hA hC hRc hRs (by omega) (by omega) wq_1083 wq_1084 wq_1012 wq_1073 hd_X12_pushes (As := [.int v_1]) (rest := []) rfl rfl hl.1 rfl dX12_next_377 (fun H locs hC => ?_)
        refine lv_iconst (v := 1) hx hb dX12_next_380 (by decide) ?_
        obtain ⟨k_395, hk_395, hf⟩ := jn_inv1 hf
        have hj_395 : ∀ (s_11 : Sto) (H : Heap) (locs : List Loc) (ls : Array Slot), k_395 s_11 = some (v, σ2) → CZ D A s H locs (WM y o s_11) → lv_has ls 7 [(0, .ref (o 0)), (1, .int x1), (2, .int v_1), (5, .int x5_9)] → W p l e R s m args below meth c H locs 0 0 Q (F0 m 395 ls []) := by
          intro s_11 H locs ls hf hC hl
          have hf := hk_395 _ hf
          refine lv_aload_n hx hb dX12_next_395 rfl (lv_at hl 0 rfl) ?_
          refine lv_dup hx hb dX12_next_396 rfl ?_
          refine gt_X12_706_m hx hb hta hown hK hC dX12_next_397 ?_
          refine lv_iload_n hx hb dX12_next_400 rfl (lv_at hl 2 rfl) ?_
          obtain ⟨v_12, hc_12, hf⟩ := calp_inv hf
          refine cc_Si (r_X12_pushes (D := D) (y := y) (w := WM y o s_11) (ad := ad) (av := av) hc_12 l) hx hb hml hta hown hK hN hV hA hC hRc hRs (by omega) (by omega) wq_1083 wq_1084 wq_1012 wq_1073 hd_X12_pushes (As := [.int v_1]) (rest := [.int (s_11.1 81 0), .ref (o 0)]) rfl rfl hl.1 rfl dX12_next_401 (fun H locs hC => ?_)
          refine lv_iadd hx hb dX12_next_404 ?_
          obtain ⟨s_13, e_13, hf⟩ := lt_inv hf
          refine pt_X12_706_m hx hb hta hown hK hC e_13 dX12_next_405 (fun H locs hC => ?_)
          refine lv_aload_n hx hb dX12_next_408 rfl (lv_at hl 0 rfl) ?_
          refine gt_X12_697_m hx hb hta hown hK hC dX12_next_409 ?_
          refine lv_if_eq (tgt := 423) hx hb dX12_next_412 (by decide) (fun c_14 => ?_) (fun c_14 => ?_)
          · have hf := it_t c_14 hf
            refine lv_iload hx hb dX12_next_423 (lv_at hl 3 rfl) ?_
            exact hret _ _ _ _ _ _ (rv_inv hf).1 (congrArg (WM y o) (rv_inv hf).2) rfl dX12_next_425 hC
          · have hf := it_f c_14 hf
            refine lv_aload_n hx hb dX12_next_415 rfl (lv_at hl 0 rfl) ?_
            refine lv_iload_n hx hb dX12_next_416 rfl (lv_at hl 1 rfl) ?_
            obtain ⟨v_15, s_15, hc_15, hf⟩ := calv_inv hf
            refine cc_Vi (r_X12_caught (D := D) (y := y) (o := o) (ad := ad) (av := av) hc_15 l) hx hb hml hta hown hK hN hV hA hC hRc hRs (by omega) (by omega) wq_1530 (q := 0) (ci := 12) rfl rfl wq_1531 wq_1532 wq_1012 wq_1519 hd_X12_caught (As := [.int x1]) (rest := []) rfl rfl hl.1 rfl dX12_next_417 (fun H locs hC => ?_)
            refine lv_goto (tgt := 425) hx hb dX12_next_420 (by decide) ?_
            exact hret _ _ _ _ _ _ (rv_inv hf).1 (congrArg (WM y o) (rv_inv hf).2) rfl dX12_next_425 hC
        refine lv_icmp_ne (tgt := 395) hx hb dX12_next_381 (by decide) (fun c_16 => ?_) (fun c_16 => ?_)
        · have hf := it_f c_16 hf
          exact hj_395 _ _ _ _ hf hC (lv_sub hl [0, 1, 2, 3] rfl)
        · have hf := it_t c_16 hf
          refine lv_aload_n hx hb dX12_next_384 rfl (lv_at hl 0 rfl) ?_
          refine gt_X12_160_m hx hb hta hown hK hC dX12_next_385 ?_
          refine lv_aload_n hx hb dX12_next_388 rfl (lv_at hl 0 rfl) ?_
          refine gt_X12_706_m hx hb hta hown hK hC dX12_next_389 ?_
          refine lv_iload hx hb dX12_next_392 (lv_at hl 4 rfl) ?_
          obtain ⟨hi_17, hf⟩ := ix_inv hf
          obtain ⟨s_17, e_17, hf⟩ := lt_inv hf
          refine as_M_50 hx hb hK hC hi_17 e_17 dX12_next_394 (fun H locs hC => ?_)
          exact hj_395 _ _ _ _ hf hC (lv_sub hl [0, 1, 2, 3] rfl)
      by_cases h_18_0 : v_1.toInt = 33
      · have hf := it_t h_18_0 hf
        refine lv_lookup (off := 182) (tgt := 259) hx hb dX12_next_77 (by decide) (by (rw [h_18_0]; decide)) (by decide) ?_
        refine lv_iload_n hx hb dX12_next_259 rfl (lv_at hl 6 rfl) ?_
        obtain ⟨k_268, hk_268, hf⟩ := jn_inv1 hf
        have hj_268 : ∀ (t0_19 : Int32) (H : Heap) (locs : List Loc) (ls : Array Slot), k_268 t0_19 = some (v, σ2) → CZ D A s H locs (WM y o s_7) → lv_has ls 7 [(0, .ref (o 0)), (1, .int x1), (2, .int v_1), (5, .int x5_8)] → W p l e R s m args below meth c H locs 0 0 Q (F0 m 268 ls [.int t0_19]) := by
          intro t0_19 H locs ls hf hC hl
          have hf := hk_268 _ hf
          refine lv_istore (lv' := [(6, .int t0_19), (0, .ref (o 0)), (1, .int x1), (2, .int v_1), (5, .int x5_8)]) hx hb dX12_next_268 hl (by decide) rfl (fun ls hl => ?_)
          refine lv_goto (tgt := 376) hx hb dX12_next_270 (by decide) ?_
          exact hj_376 _ _ _ _ _ _ hf hC (lv_sub hl [1, 2, 3, 4, 0] rfl)
        refine lv_if_ne (tgt := 267) hx hb dX12_next_260 (by decide) (fun c_20 => ?_) (fun c_20 => ?_)
        · have hf := it_f c_20 hf
          refine lv_iconst (v := 0) hx hb dX12_next_267 (by decide) ?_
          exact hj_268 _ _ _ _ hf hC (lv_sub hl [3, 4, 5, 1] rfl)
        · have hf := it_t c_20 hf
          refine lv_iconst (v := 1) hx hb dX12_next_263 (by decide) ?_
          refine lv_goto (tgt := 268) hx hb dX12_next_264 (by decide) ?_
          exact hj_268 _ _ _ _ hf hC (lv_sub hl [3, 4, 5, 1] rfl)
      have hf := it_f h_18_0 hf
      by_cases h_18_1 : v_1.toInt = 100 ∨ v_1.toInt = 119
      · have hf := it_t h_18_1 hf
        refine lv_lookup (off := 203) (tgt := 280) hx hb dX12_next_77 (by decide) (by rcases h_18_1 with h_18_1 | h_18_1 <;> (rw [h_18_1]; decide)) (by decide) ?_
        refine lv_aload_n hx hb dX12_next_280 rfl (lv_at hl 3 rfl) ?_
        refine gt_X12_160_m hx hb hta hown hK hC dX12_next_281 ?_
        refine lv_aload_n hx hb dX12_next_284 rfl (lv_at hl 3 rfl) ?_
        refine gt_X12_706_m hx hb hta hown hK hC dX12_next_285 ?_
        refine lv_iload_n hx hb dX12_next_288 rfl (lv_at hl 6 rfl) ?_
        obtain ⟨hi_21, hf⟩ := ix_inv hf
        obtain ⟨s_21, e_21, hf⟩ := lt_inv hf
        refine as_M_50 hx hb hK hC hi_21 e_21 dX12_next_289 (fun H locs hC => ?_)
        refine lv_aload_n hx hb dX12_next_290 rfl (lv_at hl 3 rfl) ?_
        refine gt_X12_160_m hx hb hta hown hK hC dX12_next_291 ?_
        refine lv_aload_n hx hb dX12_next_294 rfl (lv_at hl 3 rfl) ?_
        refine gt_X12_706_m hx hb hta hown hK hC dX12_next_295 ?_
        refine lv_iconst (v := 1) hx hb dX12_next_298 (by decide) ?_
        refine lv_iadd hx hb dX12_next_299 ?_
        refine lv_iload_n hx hb dX12_next_300 rfl (lv_at hl 5 rfl) ?_
        refine lv_bipush (v := 100) hx hb dX12_next_301 (by decide) ?_
        obtain ⟨k_312, hk_312, hf⟩ := jn_inv1 hf
        have hj_312 : ∀ (t0_22 : Int32) (H : Heap) (locs : List Loc) (ls : Array Slot), k_312 t0_22 = some (v, σ2) → CZ D A s H locs (WM y o s_21) → lv_has ls 7 [(0, .ref (o 0)), (1, .int x1), (2, .int v_1), (5, .int x5_8), (6, .int 0)] → W p l e R s m args below meth c H locs 0 0 Q (F0 m 312 ls [.int t0_22, .int ((s_21.1 81 0) + 1), .ref (o 50)]) := by
          intro t0_22 H locs ls hf hC hl
          have hf := hk_312 _ hf
          obtain ⟨hi_23, hf⟩ := ix_inv hf
          obtain ⟨s_23, e_23, hf⟩ := lt_inv hf
          refine as_M_50 hx hb hK hC hi_23 e_23 dX12_next_312 (fun H locs hC => ?_)
          refine lv_goto (tgt := 376) hx hb dX12_next_313 (by decide) ?_
          exact hj_376 _ _ _ _ _ _ hf hC hl
        refine lv_icmp_ne (tgt := 310) hx hb dX12_next_303 (by decide) (fun c_24 => ?_) (fun c_24 => ?_)
        · have hf := it_f c_24 hf
          refine lv_iload hx hb dX12_next_310 (lv_at hl 2 rfl) ?_
          exact hj_312 _ _ _ _ hf hC (lv_sub hl [3, 4, 5, 1, 0] rfl)
        · have hf := it_t c_24 hf
          refine lv_iload_n hx hb dX12_next_306 rfl (lv_at hl 6 rfl) ?_
          refine lv_goto (tgt := 312) hx hb dX12_next_307 (by decide) ?_
          exact hj_312 _ _ _ _ hf hC (lv_sub hl [3, 4, 5, 1, 0] rfl)
      have hf := it_f h_18_1 hf
      by_cases h_18_2 : v_1.toInt = 103
      · have hf := it_t h_18_2 hf
        refine lv_lookup (off := 239) (tgt := 316) hx hb dX12_next_77 (by decide) (by (rw [h_18_2]; decide)) (by decide) ?_
        refine lv_aload_n hx hb dX12_next_316 rfl (lv_at hl 3 rfl) ?_
        refine gt_X12_26_m hx hb hta hown hK hC dX12_next_317 ?_
        refine lv_iload_n hx hb dX12_next_320 rfl (lv_at hl 4 rfl) ?_
        obtain ⟨hi_25, hf⟩ := ix_inv hf
        obtain ⟨v_25, e_25, hf⟩ := lt_inv hf
        refine al_M_6 hx hb hK hC hi_25 e_25 dX12_next_321 ?_
        refine lv_istore (lv' := [(5, .int v_25), (6, .int 0), (4, .int t0_5), (0, .ref (o 0)), (1, .int x1), (2, .int v_1), (3, .int t0_3)]) hx hb dX12_next_322 hl (by decide) rfl (fun ls hl => ?_)
        refine lv_goto (tgt := 376) hx hb dX12_next_324 (by decide) ?_
        exact hj_376 _ _ _ _ _ _ hf hC (lv_sub hl [3, 4, 5, 0, 1] rfl)
      have hf := it_f h_18_2 hf
      by_cases h_18_3 : v_1.toInt = 105
      · have hf := it_t h_18_3 hf
        refine lv_lookup (off := 165) (tgt := 242) hx hb dX12_next_77 (by decide) (by (rw [h_18_3]; decide)) (by decide) ?_
        refine lv_aload_n hx hb dX12_next_242 rfl (lv_at hl 3 rfl) ?_
        obtain ⟨v_26, s_26, hc_26, hf⟩ := calv_inv hf
        refine cc_Vi (r_X12_input (D := D) (y := y) (o := o) (ad := ad) (av := av) hc_26 l) hx hb hml hta hown hK hN hV hA hC hRc hRs (by omega) (by omega) wq_1521 (q := 0) (ci := 12) rfl rfl wq_1522 wq_1523 wq_1012 wq_1508 hd_X12_input (As := []) (rest := []) rfl rfl hl.1 rfl dX12_next_243 (fun H locs hC => ?_)
        refine lv_istore (lv' := [(6, .int v_26), (5, .int x5_8), (4, .int t0_5), (0, .ref (o 0)), (1, .int x1), (2, .int v_1), (3, .int t0_3)]) hx hb dX12_next_246 hl (by decide) rfl (fun ls hl => ?_)
        refine lv_goto (tgt := 376) hx hb dX12_next_248 (by decide) ?_
        exact hj_376 _ _ _ _ _ _ hf hC (lv_sub hl [3, 4, 5, 1, 0] rfl)
      have hf := it_f h_18_3 hf
      by_cases h_18_4 : v_1.toInt = 107
      · have hf := it_t h_18_4 hf
        refine lv_lookup (off := 123) (tgt := 200) hx hb dX12_next_77 (by decide) (by (rw [h_18_4]; decide)) (by decide) ?_
        refine lv_aload_n hx hb dX12_next_200 rfl (lv_at hl 3 rfl) ?_
        refine gt_X12_26_m hx hb hta hown hK hC dX12_next_201 ?_
        refine lv_iload_n hx hb dX12_next_204 rfl (lv_at hl 4 rfl) ?_
        obtain ⟨hi_27, hf⟩ := ix_inv hf
        obtain ⟨v_27, e_27, hf⟩ := lt_inv hf
        refine al_M_6 hx hb hK hC hi_27 e_27 dX12_next_205 ?_
        refine lv_istore (lv' := [(6, .int v_27), (5, .int x5_8), (4, .int t0_5), (0, .ref (o 0)), (1, .int x1), (2, .int v_1), (3, .int t0_3)]) hx hb dX12_next_206 hl (by decide) rfl (fun ls hl => ?_)
        refine lv_goto (tgt := 376) hx hb dX12_next_208 (by decide) ?_
        exact hj_376 _ _ _ _ _ _ hf hC (lv_sub hl [3, 4, 5, 1, 0] rfl)
      have hf := it_f h_18_4 hf
      by_cases h_18_5 : v_1.toInt = 108
      · have hf := it_t h_18_5 hf
        refine lv_lookup (off := 134) (tgt := 211) hx hb dX12_next_77 (by decide) (by (rw [h_18_5]; decide)) (by decide) ?_
        refine lv_aload_n hx hb dX12_next_211 rfl (lv_at hl 3 rfl) ?_
        refine gt_X12_154_m hx hb hta hown hK hC dX12_next_212 ?_
        refine lv_aload_n hx hb dX12_next_215 rfl (lv_at hl 3 rfl) ?_
        refine gt_X12_26_m hx hb hta hown hK hC dX12_next_216 ?_
        refine lv_iload_n hx hb dX12_next_219 rfl (lv_at hl 4 rfl) ?_
        obtain ⟨hi_28, hf⟩ := ix_inv hf
        obtain ⟨v_28, e_28, hf⟩ := lt_inv hf
        refine al_M_6 hx hb hK hC hi_28 e_28 dX12_next_220 ?_
        obtain ⟨hi_29, hf⟩ := ix_inv hf
        obtain ⟨v_29, e_29, hf⟩ := lt_inv hf
        refine al_M_48 hx hb hK hC hi_29 e_29 dX12_next_221 ?_
        refine lv_istore (lv' := [(6, .int v_29), (5, .int x5_8), (4, .int t0_5), (0, .ref (o 0)), (1, .int x1), (2, .int v_1), (3, .int t0_3)]) hx hb dX12_next_222 hl (by decide) rfl (fun ls hl => ?_)
        refine lv_goto (tgt := 376) hx hb dX12_next_224 (by decide) ?_
        exact hj_376 _ _ _ _ _ _ hf hC (lv_sub hl [3, 4, 5, 1, 0] rfl)
      have hf := it_f h_18_5 hf
      by_cases h_18_6 : v_1.toInt = 110
      · have hf := it_t h_18_6 hf
        refine lv_lookup (off := 196) (tgt := 273) hx hb dX12_next_77 (by decide) (by (rw [h_18_6]; decide)) (by decide) ?_
        refine lv_iload_n hx hb dX12_next_273 rfl (lv_at hl 6 rfl) ?_
        refine lv_ineg hx hb dX12_next_274 ?_
        obtain ⟨x6_30, e_30, hf⟩ := lt_inv hf
        refine nmi e_30 ?_
        refine lv_istore (lv' := [(6, .int x6_30), (5, .int x5_8), (4, .int t0_5), (0, .ref (o 0)), (1, .int x1), (2, .int v_1), (3, .int t0_3)]) hx hb dX12_next_275 hl (by decide) rfl (fun ls hl => ?_)
        refine lv_goto (tgt := 376) hx hb dX12_next_277 (by decide) ?_
        exact hj_376 _ _ _ _ _ _ hf hC (lv_sub hl [3, 4, 5, 1, 0] rfl)
      have hf := it_f h_18_6 hf
      by_cases h_18_7 : v_1.toInt = 111
      · have hf := it_t h_18_7 hf
        refine lv_lookup (off := 174) (tgt := 251) hx hb dX12_next_77 (by decide) (by (rw [h_18_7]; decide)) (by decide) ?_
        refine lv_aload_n hx hb dX12_next_251 rfl (lv_at hl 3 rfl) ?_
        refine lv_iload_n hx hb dX12_next_252 rfl (lv_at hl 6 rfl) ?_
        obtain ⟨s_31, hc_31, hf⟩ := cals_inv hf
        refine cc_Vv (r_X12_outputs (D := D) (y := y) (o := o) (ad := ad) (av := av) hc_31 l) hx hb hml hta hown hK hN hV hA hC hRc hRs (by omega) (by omega) wq_1524 (q := 0) (ci := 12) rfl rfl wq_1525 wq_1526 wq_1012 wq_1510 hd_X12_outputs (As := [.int t0_3]) (rest := []) rfl rfl hl.1 rfl dX12_next_253 (fun H locs hC => ?_)
        refine lv_goto (tgt := 376) hx hb dX12_next_256 (by decide) ?_
        exact hj_376 _ _ _ _ _ _ hf hC (lv_sub hl [3, 4, 5, 1, 0] rfl)
      have hf := it_f h_18_7 hf
      by_cases h_18_8 : v_1.toInt = 112
      · have hf := it_t h_18_8 hf
        refine lv_lookup (off := 286) (tgt := 363) hx hb dX12_next_77 (by decide) (by (rw [h_18_8]; decide)) (by decide) ?_
        refine lv_goto (tgt := 376) hx hb dX12_next_363 (by decide) ?_
        exact hj_376 _ _ _ _ _ _ hf hC (lv_sub hl [3, 4, 5, 1, 0] rfl)
      have hf := it_f h_18_8 hf
      by_cases h_18_9 : v_1.toInt = 114
      · have hf := it_t h_18_9 hf
        refine lv_lookup (off := 278) (tgt := 355) hx hb dX12_next_77 (by decide) (by (rw [h_18_9]; decide)) (by decide) ?_
        refine lv_aload_n hx hb dX12_next_355 rfl (lv_at hl 3 rfl) ?_
        refine lv_iconst (v := 0) hx hb dX12_next_356 (by decide) ?_
        obtain ⟨s_32, e_32, hf⟩ := lt_inv hf
        refine pt_X12_684_m hx hb hta hown hK hC e_32 dX12_next_357 (fun H locs hC => ?_)
        refine lv_goto (tgt := 376) hx hb dX12_next_360 (by decide) ?_
        exact hj_376 _ _ _ _ _ _ hf hC (lv_sub hl [3, 4, 5, 1, 0] rfl)
      have hf := it_f h_18_9 hf
      by_cases h_18_10 : v_1.toInt = 115
      · have hf := it_t h_18_10 hf
        refine lv_lookup (off := 150) (tgt := 227) hx hb dX12_next_77 (by decide) (by (rw [h_18_10]; decide)) (by decide) ?_
        refine lv_aload_n hx hb dX12_next_227 rfl (lv_at hl 3 rfl) ?_
        refine gt_X12_154_m hx hb hta hown hK hC dX12_next_228 ?_
        refine lv_aload_n hx hb dX12_next_231 rfl (lv_at hl 3 rfl) ?_
        refine gt_X12_26_m hx hb hta hown hK hC dX12_next_232 ?_
        refine lv_iload_n hx hb dX12_next_235 rfl (lv_at hl 4 rfl) ?_
        obtain ⟨hi_33, hf⟩ := ix_inv hf
        obtain ⟨v_33, e_33, hf⟩ := lt_inv hf
        refine al_M_6 hx hb hK hC hi_33 e_33 dX12_next_236 ?_
        refine lv_iload_n hx hb dX12_next_237 rfl (lv_at hl 6 rfl) ?_
        obtain ⟨hi_34, hf⟩ := ix_inv hf
        obtain ⟨s_34, e_34, hf⟩ := lt_inv hf
        refine as_M_48 hx hb hK hC hi_34 e_34 dX12_next_238 (fun H locs hC => ?_)
        refine lv_goto (tgt := 376) hx hb dX12_next_239 (by decide) ?_
        exact hj_376 _ _ _ _ _ _ hf hC (lv_sub hl [3, 4, 5, 1, 0] rfl)
      have hf := it_f h_18_10 hf
      by_cases h_18_11 : v_1.toInt = 116
      · have hf := it_t h_18_11 hf
        refine lv_lookup (off := 270) (tgt := 347) hx hb dX12_next_77 (by decide) (by (rw [h_18_11]; decide)) (by decide) ?_
        refine lv_aload_n hx hb dX12_next_347 rfl (lv_at hl 3 rfl) ?_
        refine lv_iload_n hx hb dX12_next_348 rfl (lv_at hl 6 rfl) ?_
        obtain ⟨s_35, hc_35, hf⟩ := cals_inv hf
        refine cc_Vv (r_X12_throwsIt (D := D) (y := y) (o := o) (ad := ad) (av := av) hc_35 l) hx hb hml hta hown hK hN hV hA hC hRc hRs (by omega) (by omega) wq_1516 (q := 0) (ci := 12) rfl rfl wq_1517 wq_1518 wq_1012 wq_1512 hd_X12_throwsIt (As := [.int t0_3]) (rest := []) rfl rfl hl.1 rfl dX12_next_349 (fun H locs hC => ?_)
        refine lv_goto (tgt := 376) hx hb dX12_next_352 (by decide) ?_
        exact hj_376 _ _ _ _ _ _ hf hC (lv_sub hl [3, 4, 5, 1, 0] rfl)
      have hf := it_f h_18_11 hf
      by_cases h_18_12 : v_1.toInt = 122
      · have hf := it_t h_18_12 hf
        refine lv_lookup (off := 250) (tgt := 327) hx hb dX12_next_77 (by decide) (by (rw [h_18_12]; decide)) (by decide) ?_
        refine lv_iload_n hx hb dX12_next_327 rfl (lv_at hl 6 rfl) ?_
        obtain ⟨k_342, hk_342, hf⟩ := jn_inv1 hf
        have hj_342 : ∀ (t0_36 : Int32) (H : Heap) (locs : List Loc) (ls : Array Slot), k_342 t0_36 = some (v, σ2) → CZ D A s H locs (WM y o s_7) → lv_has ls 7 [(0, .ref (o 0)), (1, .int x1), (2, .int v_1), (6, .int 0)] → W p l e R s m args below meth c H locs 0 0 Q (F0 m 342 ls [.int t0_36]) := by
          intro t0_36 H locs ls hf hC hl
          have hf := hk_342 _ hf
          refine lv_istore (lv' := [(5, .int t0_36), (0, .ref (o 0)), (1, .int x1), (2, .int v_1), (6, .int 0)]) hx hb dX12_next_342 hl (by decide) rfl (fun ls hl => ?_)
          refine lv_goto (tgt := 376) hx hb dX12_next_344 (by decide) ?_
          exact hj_376 _ _ _ _ _ _ hf hC (lv_sub hl [1, 2, 3, 0, 4] rfl)
        refine lv_if_ne (tgt := 340) hx hb dX12_next_328 (by decide) (fun c_37 => ?_) (fun c_37 => ?_)
        · have hf := it_f c_37 hf
          refine lv_iload hx hb dX12_next_340 (lv_at hl 1 rfl) ?_
          exact hj_342 _ _ _ _ hf hC (lv_sub hl [3, 4, 5, 0] rfl)
        · have hf := it_t c_37 hf
          refine lv_aload_n hx hb dX12_next_331 rfl (lv_at hl 3 rfl) ?_
          refine gt_X12_26_m hx hb hta hown hK hC dX12_next_332 ?_
          refine lv_iload_n hx hb dX12_next_335 rfl (lv_at hl 4 rfl) ?_
          obtain ⟨hi_38, hf⟩ := ix_inv hf
          obtain ⟨v_38, e_38, hf⟩ := lt_inv hf
          refine al_M_6 hx hb hK hC hi_38 e_38 dX12_next_336 ?_
          refine lv_goto (tgt := 342) hx hb dX12_next_337 (by decide) ?_
          exact hj_342 _ _ _ _ hf hC (lv_sub hl [3, 4, 5, 0] rfl)
      have hf := it_f h_18_12 hf
      refine lv_lookup (off := 289) (tgt := 366) hx hb dX12_next_77 (by decide) (lk_none (by intro a ha; simp only [List.mem_cons, List.not_mem_nil, or_false] at ha; rcases ha with rfl | rfl | rfl | rfl | rfl | rfl | rfl | rfl | rfl | rfl | rfl | rfl | rfl | rfl <;> (simp only; omega))) (by decide) ?_
      refine lv_aload_n hx hb dX12_next_366 rfl (lv_at hl 3 rfl) ?_
      refine lv_iload_n hx hb dX12_next_367 rfl (lv_at hl 5 rfl) ?_
      refine lv_iload hx hb dX12_next_368 (lv_at hl 2 rfl) ?_
      refine lv_iload_n hx hb dX12_next_370 rfl (lv_at hl 6 rfl) ?_
      obtain ⟨v_39, s_39, hc_39, hf⟩ := calv_inv hf
      refine cc_Vi (r_X12_result (D := D) (y := y) (o := o) (ad := ad) (av := av) hc_39 l) hx hb hml hta hown hK hN hV hA hC hRc hRs (by omega) (by omega) wq_1527 (q := 0) (ci := 12) rfl rfl wq_1528 wq_1529 wq_1012 wq_1515 hd_X12_result (As := [.int v_1, .int t0_5, .int t0_3]) (rest := []) rfl rfl hl.1 rfl dX12_next_371 (fun H locs hC => ?_)
      refine lv_istore (lv' := [(6, .int v_39), (5, .int x5_8), (4, .int t0_5), (0, .ref (o 0)), (1, .int x1), (2, .int v_1), (3, .int t0_3)]) hx hb dX12_next_374 hl (by decide) rfl (fun ls hl => ?_)
      exact hj_376 _ _ _ _ _ _ hf hC (lv_sub hl [3, 4, 5, 1, 0] rfl)
    refine lv_icmp_le (tgt := 52) hx hb dX12_next_35 (by decide) (fun c_40 => ?_) (fun c_40 => ?_)
    · have hf := it_t c_40 hf
      refine lv_iconst (v := 0) hx hb dX12_next_52 (by decide) ?_
      exact hj_53 _ _ _ _ hf hC (lv_sub hl [1, 2, 3, 0] rfl)
    · have hf := it_f c_40 hf
      refine lv_aload_n hx hb dX12_next_38 rfl (lv_at hl 1 rfl) ?_
      refine gt_X12_160_m hx hb hta hown hK hC dX12_next_39 ?_
      refine lv_aload_n hx hb dX12_next_42 rfl (lv_at hl 1 rfl) ?_
      refine gt_X12_706_m hx hb hta hown hK hC dX12_next_43 ?_
      refine lv_iconst (v := 2) hx hb dX12_next_46 (by decide) ?_
      refine lv_isub hx hb dX12_next_47 ?_
      obtain ⟨hi_41, hf⟩ := ix_inv hf
      obtain ⟨v_41, e_41, hf⟩ := lt_inv hf
      refine al_M_50 hx hb hK hC hi_41 e_41 dX12_next_48 ?_
      refine lv_goto (tgt := 53) hx hb dX12_next_49 (by decide) ?_
      exact hj_53 _ _ _ _ hf hC (lv_sub hl [1, 2, 3, 0] rfl)
  refine lv_if_le (tgt := 28) hx hb dX12_next_11 (by decide) (fun c_42 => ?_) (fun c_42 => ?_)
  · have hf := it_t c_42 hf
    refine lv_iconst (v := 0) hx hb dX12_next_28 (by decide) ?_
    exact hj_29 _ _ _ _ hf hC (lv_sub hl [1, 2, 0] rfl)
  · have hf := it_f c_42 hf
    refine lv_aload_n hx hb dX12_next_14 rfl (lv_at hl 1 rfl) ?_
    refine gt_X12_160_m hx hb hta hown hK hC dX12_next_15 ?_
    refine lv_aload_n hx hb dX12_next_18 rfl (lv_at hl 1 rfl) ?_
    refine gt_X12_706_m hx hb hta hown hK hC dX12_next_19 ?_
    refine lv_iconst (v := 1) hx hb dX12_next_22 (by decide) ?_
    refine lv_isub hx hb dX12_next_23 ?_
    obtain ⟨hi_43, hf⟩ := ix_inv hf
    obtain ⟨v_43, e_43, hf⟩ := lt_inv hf
    refine al_M_50 hx hb hK hC hi_43 e_43 dX12_next_24 ?_
    refine lv_goto (tgt := 29) hx hb dX12_next_25 (by decide) ?_
    exact hj_29 _ _ _ _ hf hC (lv_sub hl [1, 2, 0] rfl)

set_option maxHeartbeats 8000000 in
set_option maxRecDepth 100000 in
theorem r_X12_enters {D : va_G} {y : Nat → ClassId} {o : Nat → Nat} {ad av : Nat → Nat} {σ : Sto} {σ2 : Sto} (hf : f_X12_enters σ = some σ2) (l : Launch) (sz : Nat) : Met l yX12_enters (Cond.code yX12_enters cX12_enters 1 none :: ALW) { frames := 0, cells := 0, slots := 0, locals := 0 } (va_Pc [.ref (o 0)] (PZ D y ad av (WM y o σ) sz)) (QZv D (WM y o σ) (WM y o σ2) sz) 0 0 (va_A (WM y o σ) sz) := by
  refine met_v (by decide) (Nat.le_of_ble_eq_true rfl) ?_
  intro p e R s m args below meth c Q A ls hx hb hml hta hown hRc hRs hRf hRl hN hK hV hA hret hC hl
  have hl : lv_has ls 1 [(0, .ref (o 0))] := hl
  unfold f_X12_enters at hf
  refine lv_aload_n hx hb dX12_enters_0 rfl (lv_at hl 0 rfl) ?_
  refine gt_X12_681_m hx hb hta hown hK hC dX12_enters_1 ?_
  refine lv_aload_n hx hb dX12_enters_4 rfl (lv_at hl 0 rfl) ?_
  refine gt_X12_693_m hx hb hta hown hK hC dX12_enters_5 ?_
  refine lv_icmp_ne (tgt := 19) hx hb dX12_enters_8 (by decide) (fun c_1 => ?_) (fun c_1 => ?_)
  · have hf := it_f c_1 hf
    refine lv_aload_n hx hb dX12_enters_19 rfl (lv_at hl 0 rfl) ?_
    refine lv_dup hx hb dX12_enters_20 rfl ?_
    refine gt_X12_681_m hx hb hta hown hK hC dX12_enters_21 ?_
    refine lv_iconst (v := 1) hx hb dX12_enters_24 (by decide) ?_
    refine lv_iadd hx hb dX12_enters_25 ?_
    obtain ⟨s_3, e_3, hf⟩ := lt_inv hf
    refine pt_X12_681_m hx hb hta hown hK hC e_3 dX12_enters_26 (fun H locs hC => ?_)
    exact hret _ _ _ _ _ (congrArg (WM y o) (Option.some.inj hf)) dX12_enters_29 hC
  · have hf := it_t c_1 hf
    refine lv_aload_n hx hb dX12_enters_11 rfl (lv_at hl 0 rfl) ?_
    refine lv_iconst (v := 2) hx hb dX12_enters_12 (by decide) ?_
    obtain ⟨s_2, e_2, hf⟩ := lt_inv hf
    refine pt_X12_684_m hx hb hta hown hK hC e_2 dX12_enters_13 (fun H locs hC => ?_)
    refine lv_goto (tgt := 29) hx hb dX12_enters_16 (by decide) ?_
    exact hret _ _ _ _ _ (congrArg (WM y o) (Option.some.inj hf)) dX12_enters_29 hC

set_option maxHeartbeats 8000000 in
set_option maxRecDepth 100000 in
theorem r_X12_runsCode {D : va_G} {y : Nat → ClassId} {o : Nat → Nat} {ad av : Nat → Nat} {σ : Sto} {σ2 : Sto} (hf : f_X12_runsCode σ = some σ2) (l : Launch) (sz : Nat) : Met l yX12_runsCode (Cond.code yX12_runsCode cX12_runsCode 2 none :: ALW) { frames := 11, cells := 0, slots := 0, locals := 268 } (va_Pc [.ref (o 0)] (PZ D y ad av (WM y o σ) sz)) (QZv D (WM y o σ) (WM y o σ2) sz) 0 0 (va_A (WM y o σ) sz) := by
  refine met_v (by decide) (Nat.le_of_ble_eq_true rfl) ?_
  intro p e R s m args below meth c Q A ls hx hb hml hta hown hRc hRs hRf hRl hN hK hV hA hret hC hl
  have hl : lv_has ls 2 [(0, .ref (o 0))] := hl
  unfold f_X12_runsCode at hf
  refine lv_aload_n hx hb dX12_runsCode_0 rfl (lv_at hl 0 rfl) ?_
  refine lv_iconst (v := 0) hx hb dX12_runsCode_1 (by decide) ?_
  obtain ⟨s_1, e_1, hf⟩ := lt_inv hf
  refine pt_X12_706_m hx hb hta hown hK hC e_1 dX12_runsCode_2 (fun H locs hC => ?_)
  refine lv_aload_n hx hb dX12_runsCode_5 rfl (lv_at hl 0 rfl) ?_
  refine lv_iconst (v := 0) hx hb dX12_runsCode_6 (by decide) ?_
  obtain ⟨s_2, e_2, hf⟩ := lt_inv hf
  refine pt_X12_697_m hx hb hta hown hK hC (Or.inl rfl) e_2 dX12_runsCode_7 (fun H locs hC => ?_)
  refine lv_iconst (v := 0) hx hb dX12_runsCode_10 (by decide) ?_
  refine lv_istore_n (lv' := [(1, .int 0), (0, .ref (o 0))]) hx hb dX12_runsCode_11 rfl hl (by decide) rfl (fun ls hl => ?_)
  refine itr_inv2 (P := fun (x1_3 : Int32) (s_3 : Sto) => ∀ (H : Heap) (locs : List Loc) (ls : Array Slot), CZ D A s H locs (WM y o s_3) → lv_has ls 2 [(0, .ref (o 0)), (1, .int x1_3)] → W p l e R s m args below meth c H locs 0 0 Q (F0 m 12 ls [])) hf ?_ _ _ _ hC (lv_sub hl [1, 0] rfl)
  intro a_12 x1_3 s_3 ha_12 hf H locs ls hC hl
  refine lv_aload_n hx hb dX12_runsCode_12 rfl (lv_at hl 0 rfl) ?_
  refine gt_X12_684_m hx hb hta hown hK hC dX12_runsCode_13 ?_
  refine lv_iconst (v := (-1)) hx hb dX12_runsCode_16 (by decide) ?_
  refine lv_icmp_ne (tgt := 56) hx hb dX12_runsCode_17 (by decide) (fun c_4 => ?_) (fun c_4 => ?_)
  · have hf := it_f c_4 hf
    exact hret _ _ _ _ _ (congrArg (WM y o) (Option.some.inj hf)) dX12_runsCode_56 hC
  · have hf := it_t c_4 hf
    refine lv_aload_n hx hb dX12_runsCode_20 rfl (lv_at hl 0 rfl) ?_
    refine gt_X12_47_m hx hb hta hown hK hC dX12_runsCode_21 ?_
    refine lv_aload_n hx hb dX12_runsCode_24 rfl (lv_at hl 0 rfl) ?_
    refine gt_X12_53_m hx hb hta hown hK hC dX12_runsCode_25 ?_
    refine lv_iload_n hx hb dX12_runsCode_28 rfl (lv_at hl 1 rfl) ?_
    obtain ⟨hi_5, hf⟩ := ix_inv hf
    obtain ⟨v_5, e_5, hf⟩ := lt_inv hf
    refine al_M_15 hx hb hK hC hi_5 e_5 dX12_runsCode_29 ?_
    obtain ⟨hi_6, hf⟩ := ix_inv hf
    obtain ⟨v_6, e_6, hf⟩ := lt_inv hf
    refine al_M_13 hx hb hK hC hi_6 e_6 dX12_runsCode_30 ?_
    refine lv_iload_n hx hb dX12_runsCode_31 rfl (lv_at hl 1 rfl) ?_
    obtain ⟨k_39, hk_39, hf⟩ := jn_inv1 hf
    have hj_39 : ∀ (s_7 : Sto) (H : Heap) (locs : List Loc) (ls : Array Slot), k_39 s_7 = some σ2 → CZ D A s H locs (WM y o s_7) → lv_has ls 2 [(0, .ref (o 0)), (1, .int x1_3)] → W p l e R s m args below meth c H locs 0 0 Q (F0 m 39 ls []) := by
      intro s_7 H locs ls hf hC hl
      have hf := hk_39 _ hf
      refine lv_aload_n hx hb dX12_runsCode_39 rfl (lv_at hl 0 rfl) ?_
      refine gt_X12_684_m hx hb hta hown hK hC dX12_runsCode_40 ?_
      refine lv_iconst (v := (-1)) hx hb dX12_runsCode_43 (by decide) ?_
      refine lv_icmp_ne (tgt := 12) hx hb dX12_runsCode_44 (by decide) (fun c_8 => ?_) (fun c_8 => ?_)
      · have hf := it_f c_8 hf
        exact ha_12 _ _ hf _ _ _ hC hl
      · have hf := it_t c_8 hf
        refine lv_aload_n hx hb dX12_runsCode_47 rfl (lv_at hl 0 rfl) ?_
        refine lv_iload_n hx hb dX12_runsCode_48 rfl (lv_at hl 1 rfl) ?_
        obtain ⟨v_9, s_9, hc_9, hf⟩ := calv_inv hf
        refine cc_Vi (r_X12_next (D := D) (y := y) (o := o) (ad := ad) (av := av) hc_9 l) hx hb hml hta hown hK hN hV hA hC hRc hRs (by omega) (by omega) wq_1537 (q := 0) (ci := 12) rfl rfl wq_1538 wq_1539 wq_1012 wq_1533 hd_X12_next (As := [.int x1_3]) (rest := []) rfl rfl hl.1 rfl dX12_runsCode_49 (fun H locs hC => ?_)
        refine lv_istore_n (lv' := [(1, .int v_9), (0, .ref (o 0))]) hx hb dX12_runsCode_52 rfl hl (by decide) rfl (fun ls hl => ?_)
        refine lv_goto (tgt := 12) hx hb dX12_runsCode_53 (by decide) ?_
        exact ha_12 _ _ hf _ _ _ hC (lv_sub hl [1, 0] rfl)
    refine lv_icmp_ne (tgt := 39) hx hb dX12_runsCode_32 (by decide) (fun c_10 => ?_) (fun c_10 => ?_)
    · have hf := it_f c_10 hf
      exact hj_39 _ _ _ _ hf hC hl
    · have hf := it_t c_10 hf
      refine lv_aload_n hx hb dX12_runsCode_35 rfl (lv_at hl 0 rfl) ?_
      obtain ⟨s_11, hc_11, hf⟩ := cals_inv hf
      refine cc_Vv (r_X12_enters (D := D) (y := y) (o := o) (ad := ad) (av := av) hc_11 l) hx hb hml hta hown hK hN hV hA hC hRc hRs (by omega) (by omega) wq_1534 (q := 0) (ci := 12) rfl rfl wq_1535 wq_1536 wq_1012 wq_1511 hd_X12_enters (As := []) (rest := []) rfl rfl hl.1 rfl dX12_runsCode_36 (fun H locs hC => ?_)
      exact hj_39 _ _ _ _ hf hC hl

set_option maxHeartbeats 8000000 in
set_option maxRecDepth 100000 in
theorem rg_X12_valueOf {D : va_G} {y : Nat → ClassId} {o : Nat → Nat} {ad av : Nat → Nat} : ∀ d : Nat, (∀ {x1 : Int32} {σ : Sto} {σ2 : Sto} {v : Int32}, f_X12_valueOf d x1 σ = some (v, σ2) → ∀ (l : Launch) (sz : Nat), Met l yX12_valueOf (Cond.code yX12_valueOf cX12_valueOf 4 (some .int) :: ALW) { frames := d + 2, cells := 0, slots := 0, locals := d * 23 + 44 } (va_Pc [.ref (o 0), .int x1] (PZ D y ad av (WM y o σ) sz)) (QZi D (WM y o σ) v (WM y o σ2) sz) 0 0 (va_A (WM y o σ) sz)) := by
  intro d
  induction d with
  | zero => exact fun hc => by have hc : (none : Option (Int32 × Sto)) = some _ := hc; cases hc
  | succ d ih =>
    have h_X12_valueOf := @ih
    intro x1 σ σ2 v hf l sz
    have hf : b_X12_valueOf (f_X12_valueOf d) x1 σ = some (v, σ2) := hf
    refine met_i (by decide) (Nat.le_of_ble_eq_true rfl) ?_
    intro p e R s m args below meth c Q A ls hx hb hml hta hown hRc hRs hRf hRl hN hK hV hA hret hC hl
    have hl : lv_has ls 4 [(0, .ref (o 0)), (1, .int x1)] := hl
    unfold b_X12_valueOf at hf
    refine lv_aload_n hx hb dX12_valueOf_0 rfl (lv_at hl 0 rfl) ?_
    refine gt_X12_88_m hx hb hta hown hK hC dX12_valueOf_1 ?_
    refine lv_iload_n hx hb dX12_valueOf_4 rfl (lv_at hl 1 rfl) ?_
    obtain ⟨hi_1, hf⟩ := ix_inv hf
    obtain ⟨v_1, e_1, hf⟩ := lt_inv hf
    refine al_M_26 hx hb hK hC hi_1 e_1 dX12_valueOf_5 ?_
    by_cases h_2_0 : v_1.toInt = 0
    · have hf := it_t h_2_0 hf
      refine lv_tab (tgt := 48) hx hb dX12_valueOf_6 (Or.inr ⟨42, by omega, by omega, by (rw [h_2_0]; decide), by decide⟩) ?_
      refine lv_aload_n hx hb dX12_valueOf_48 rfl (lv_at hl 0 rfl) ?_
      refine gt_X12_91_m hx hb hta hown hK hC dX12_valueOf_49 ?_
      refine lv_iload_n hx hb dX12_valueOf_52 rfl (lv_at hl 1 rfl) ?_
      obtain ⟨hi_3, hf⟩ := ix_inv hf
      obtain ⟨v_3, e_3, hf⟩ := lt_inv hf
      refine al_M_27 hx hb hK hC hi_3 e_3 dX12_valueOf_53 ?_
      exact hret _ _ _ _ _ _ (rv_inv hf).1 (congrArg (WM y o) (rv_inv hf).2) rfl dX12_valueOf_54 hC
    have hf := it_f h_2_0 hf
    by_cases h_2_1 : v_1.toInt = 1
    · have hf := it_t h_2_1 hf
      refine lv_tab (tgt := 55) hx hb dX12_valueOf_6 (Or.inr ⟨49, by omega, by omega, by (rw [h_2_1]; decide), by decide⟩) ?_
      refine lv_aload_n hx hb dX12_valueOf_55 rfl (lv_at hl 0 rfl) ?_
      refine gt_X12_154_m hx hb hta hown hK hC dX12_valueOf_56 ?_
      refine lv_aload_n hx hb dX12_valueOf_59 rfl (lv_at hl 0 rfl) ?_
      refine gt_X12_91_m hx hb hta hown hK hC dX12_valueOf_60 ?_
      refine lv_iload_n hx hb dX12_valueOf_63 rfl (lv_at hl 1 rfl) ?_
      obtain ⟨hi_4, hf⟩ := ix_inv hf
      obtain ⟨v_4, e_4, hf⟩ := lt_inv hf
      refine al_M_27 hx hb hK hC hi_4 e_4 dX12_valueOf_64 ?_
      obtain ⟨hi_5, hf⟩ := ix_inv hf
      obtain ⟨v_5, e_5, hf⟩ := lt_inv hf
      refine al_M_48 hx hb hK hC hi_5 e_5 dX12_valueOf_65 ?_
      exact hret _ _ _ _ _ _ (rv_inv hf).1 (congrArg (WM y o) (rv_inv hf).2) rfl dX12_valueOf_66 hC
    have hf := it_f h_2_1 hf
    by_cases h_2_2 : v_1.toInt = 2
    · have hf := it_t h_2_2 hf
      refine lv_tab (tgt := 67) hx hb dX12_valueOf_6 (Or.inr ⟨61, by omega, by omega, by (rw [h_2_2]; decide), by decide⟩) ?_
      refine lv_aload_n hx hb dX12_valueOf_67 rfl (lv_at hl 0 rfl) ?_
      refine gt_X12_163_m hx hb hta hown hK hC dX12_valueOf_68 ?_
      refine lv_aload_n hx hb dX12_valueOf_71 rfl (lv_at hl 0 rfl) ?_
      refine gt_X12_91_m hx hb hta hown hK hC dX12_valueOf_72 ?_
      refine lv_iload_n hx hb dX12_valueOf_75 rfl (lv_at hl 1 rfl) ?_
      obtain ⟨hi_6, hf⟩ := ix_inv hf
      obtain ⟨v_6, e_6, hf⟩ := lt_inv hf
      refine al_M_27 hx hb hK hC hi_6 e_6 dX12_valueOf_76 ?_
      obtain ⟨hi_7, hf⟩ := ix_inv hf
      obtain ⟨v_7, e_7, hf⟩ := lt_inv hf
      refine al_M_51 hx hb hK hC hi_7 e_7 dX12_valueOf_77 ?_
      exact hret _ _ _ _ _ _ (rv_inv hf).1 (congrArg (WM y o) (rv_inv hf).2) rfl dX12_valueOf_78 hC
    have hf := it_f h_2_2 hf
    by_cases h_2_3 : v_1.toInt = 3
    · have hf := it_t h_2_3 hf
      refine lv_tab (tgt := 79) hx hb dX12_valueOf_6 (Or.inr ⟨73, by omega, by omega, by (rw [h_2_3]; decide), by decide⟩) ?_
      refine lv_aload_n hx hb dX12_valueOf_79 rfl (lv_at hl 0 rfl) ?_
      refine gt_X12_166_m hx hb hta hown hK hC dX12_valueOf_80 ?_
      refine lv_aload_n hx hb dX12_valueOf_83 rfl (lv_at hl 0 rfl) ?_
      refine gt_X12_91_m hx hb hta hown hK hC dX12_valueOf_84 ?_
      refine lv_iload_n hx hb dX12_valueOf_87 rfl (lv_at hl 1 rfl) ?_
      obtain ⟨hi_8, hf⟩ := ix_inv hf
      obtain ⟨v_8, e_8, hf⟩ := lt_inv hf
      refine al_M_27 hx hb hK hC hi_8 e_8 dX12_valueOf_88 ?_
      obtain ⟨hi_9, hf⟩ := ix_inv hf
      obtain ⟨v_9, e_9, hf⟩ := lt_inv hf
      refine al_M_52 hx hb hK hC hi_9 e_9 dX12_valueOf_89 ?_
      exact hret _ _ _ _ _ _ (rv_inv hf).1 (congrArg (WM y o) (rv_inv hf).2) rfl dX12_valueOf_90 hC
    have hf := it_f h_2_3 hf
    by_cases h_2_4 : v_1.toInt = 4
    · have hf := it_t h_2_4 hf
      refine lv_tab (tgt := 91) hx hb dX12_valueOf_6 (Or.inr ⟨85, by omega, by omega, by (rw [h_2_4]; decide), by decide⟩) ?_
      refine lv_aload_n hx hb dX12_valueOf_91 rfl (lv_at hl 0 rfl) ?_
      obtain ⟨v_10, s_10, hc_10, hf⟩ := calv_inv hf
      refine cc_Vi (r_X12_input (D := D) (y := y) (o := o) (ad := ad) (av := av) hc_10 l) hx hb hml hta hown hK hN hV hA hC hRc hRs (by omega) (by omega) wq_1521 (q := 0) (ci := 12) rfl rfl wq_1522 wq_1523 wq_1012 wq_1508 hd_X12_input (As := []) (rest := []) rfl rfl hl.1 rfl dX12_valueOf_92 (fun H locs hC => ?_)
      exact hret _ _ _ _ _ _ (rv_inv hf).1 (congrArg (WM y o) (rv_inv hf).2) rfl dX12_valueOf_95 hC
    have hf := it_f h_2_4 hf
    by_cases h_2_5 : v_1.toInt = 5
    · have hf := it_t h_2_5 hf
      refine lv_tab (tgt := 96) hx hb dX12_valueOf_6 (Or.inr ⟨90, by omega, by omega, by (rw [h_2_5]; decide), by decide⟩) ?_
      refine lv_aload_n hx hb dX12_valueOf_96 rfl (lv_at hl 0 rfl) ?_
      refine lv_aload_n hx hb dX12_valueOf_97 rfl (lv_at hl 0 rfl) ?_
      refine gt_X12_91_m hx hb hta hown hK hC dX12_valueOf_98 ?_
      refine lv_iload_n hx hb dX12_valueOf_101 rfl (lv_at hl 1 rfl) ?_
      obtain ⟨hi_11, hf⟩ := ix_inv hf
      obtain ⟨v_11, e_11, hf⟩ := lt_inv hf
      refine al_M_27 hx hb hK hC hi_11 e_11 dX12_valueOf_102 ?_
      obtain ⟨v_12, s_12, hc_12, hf⟩ := calv_inv hf
      refine cc_Vi (h_X12_valueOf hc_12 l) hx hb hml hta hown hK hN hV hA hC hRc hRs (by omega) (by omega) wq_1541 (q := 0) (ci := 12) rfl rfl wq_1542 wq_1543 wq_1012 wq_1544 hd_X12_valueOf (As := [.int v_11]) (rest := []) rfl rfl hl.1 rfl dX12_valueOf_103 (fun H locs hC => ?_)
      refine lv_if_ne (tgt := 113) hx hb dX12_valueOf_106 (by decide) (fun c_13 => ?_) (fun c_13 => ?_)
      · have hf := it_f c_13 hf
        refine lv_iconst (v := 0) hx hb dX12_valueOf_113 (by decide) ?_
        exact hret _ _ _ _ _ _ (rv_inv hf).1 (congrArg (WM y o) (rv_inv hf).2) rfl dX12_valueOf_114 hC
      · have hf := it_t c_13 hf
        refine lv_iconst (v := 1) hx hb dX12_valueOf_109 (by decide) ?_
        refine lv_goto (tgt := 114) hx hb dX12_valueOf_110 (by decide) ?_
        exact hret _ _ _ _ _ _ (rv_inv hf).1 (congrArg (WM y o) (rv_inv hf).2) rfl dX12_valueOf_114 hC
    have hf := it_f h_2_5 hf
    by_cases h_2_6 : v_1.toInt = 6
    · have hf := it_t h_2_6 hf
      refine lv_tab (tgt := 115) hx hb dX12_valueOf_6 (Or.inr ⟨109, by omega, by omega, by (rw [h_2_6]; decide), by decide⟩) ?_
      refine lv_aload_n hx hb dX12_valueOf_115 rfl (lv_at hl 0 rfl) ?_
      refine lv_aload_n hx hb dX12_valueOf_116 rfl (lv_at hl 0 rfl) ?_
      refine gt_X12_91_m hx hb hta hown hK hC dX12_valueOf_117 ?_
      refine lv_iload_n hx hb dX12_valueOf_120 rfl (lv_at hl 1 rfl) ?_
      obtain ⟨hi_14, hf⟩ := ix_inv hf
      obtain ⟨v_14, e_14, hf⟩ := lt_inv hf
      refine al_M_27 hx hb hK hC hi_14 e_14 dX12_valueOf_121 ?_
      obtain ⟨v_15, s_15, hc_15, hf⟩ := calv_inv hf
      refine cc_Vi (h_X12_valueOf hc_15 l) hx hb hml hta hown hK hN hV hA hC hRc hRs (by omega) (by omega) wq_1541 (q := 0) (ci := 12) rfl rfl wq_1542 wq_1543 wq_1012 wq_1544 hd_X12_valueOf (As := [.int v_14]) (rest := []) rfl rfl hl.1 rfl dX12_valueOf_122 (fun H locs hC => ?_)
      refine lv_ineg hx hb dX12_valueOf_125 ?_
      exact hret _ _ _ _ _ _ (rv_inv hf).1 (congrArg (WM y o) (rv_inv hf).2) rfl dX12_valueOf_126 hC
    have hf := it_f h_2_6 hf
    refine lv_tab (tgt := 127) hx hb dX12_valueOf_6 (Or.inl ⟨by omega, by decide⟩) ?_
    refine lv_aload_n hx hb dX12_valueOf_127 rfl (lv_at hl 0 rfl) ?_
    refine lv_aload_n hx hb dX12_valueOf_128 rfl (lv_at hl 0 rfl) ?_
    refine gt_X12_91_m hx hb hta hown hK hC dX12_valueOf_129 ?_
    refine lv_iload_n hx hb dX12_valueOf_132 rfl (lv_at hl 1 rfl) ?_
    obtain ⟨hi_16, hf⟩ := ix_inv hf
    obtain ⟨v_16, e_16, hf⟩ := lt_inv hf
    refine al_M_27 hx hb hK hC hi_16 e_16 dX12_valueOf_133 ?_
    obtain ⟨v_17, s_17, hc_17, hf⟩ := calv_inv hf
    refine cc_Vi (h_X12_valueOf hc_17 l) hx hb hml hta hown hK hN hV hA hC hRc hRs (by omega) (by omega) wq_1541 (q := 0) (ci := 12) rfl rfl wq_1542 wq_1543 wq_1012 wq_1544 hd_X12_valueOf (As := [.int v_16]) (rest := []) rfl rfl hl.1 rfl dX12_valueOf_134 (fun H locs hC => ?_)
    refine lv_istore_n (lv' := [(2, .int v_17), (0, .ref (o 0)), (1, .int x1)]) hx hb dX12_valueOf_137 rfl hl (by decide) rfl (fun ls hl => ?_)
    refine lv_aload_n hx hb dX12_valueOf_138 rfl (lv_at hl 1 rfl) ?_
    refine gt_X12_697_m hx hb hta hown hK hC dX12_valueOf_139 ?_
    refine lv_if_eq (tgt := 147) hx hb dX12_valueOf_142 (by decide) (fun c_18 => ?_) (fun c_18 => ?_)
    · have hf := it_t c_18 hf
      refine lv_aload_n hx hb dX12_valueOf_147 rfl (lv_at hl 1 rfl) ?_
      refine lv_aload_n hx hb dX12_valueOf_148 rfl (lv_at hl 1 rfl) ?_
      refine gt_X12_94_m hx hb hta hown hK hC dX12_valueOf_149 ?_
      refine lv_iload_n hx hb dX12_valueOf_152 rfl (lv_at hl 2 rfl) ?_
      obtain ⟨hi_19, hf⟩ := ix_inv hf
      obtain ⟨v_19, e_19, hf⟩ := lt_inv hf
      refine al_M_28 hx hb hK hC hi_19 e_19 dX12_valueOf_153 ?_
      obtain ⟨v_20, s_20, hc_20, hf⟩ := calv_inv hf
      refine cc_Vi (h_X12_valueOf hc_20 l) hx hb hml hta hown hK hN hV hA hC hRc hRs (by omega) (by omega) wq_1541 (q := 0) (ci := 12) rfl rfl wq_1542 wq_1543 wq_1012 wq_1544 hd_X12_valueOf (As := [.int v_19]) (rest := []) rfl rfl hl.1 rfl dX12_valueOf_154 (fun H locs hC => ?_)
      refine lv_istore_n (lv' := [(3, .int v_20), (2, .int v_17), (0, .ref (o 0)), (1, .int x1)]) hx hb dX12_valueOf_157 rfl hl (by decide) rfl (fun ls hl => ?_)
      refine lv_aload_n hx hb dX12_valueOf_158 rfl (lv_at hl 2 rfl) ?_
      refine gt_X12_697_m hx hb hta hown hK hC dX12_valueOf_159 ?_
      refine lv_if_eq (tgt := 169) hx hb dX12_valueOf_162 (by decide) (fun c_21 => ?_) (fun c_21 => ?_)
      · have hf := it_t c_21 hf
        refine lv_aload_n hx hb dX12_valueOf_169 rfl (lv_at hl 2 rfl) ?_
        refine lv_aload_n hx hb dX12_valueOf_170 rfl (lv_at hl 2 rfl) ?_
        refine gt_X12_88_m hx hb hta hown hK hC dX12_valueOf_171 ?_
        refine lv_iload_n hx hb dX12_valueOf_174 rfl (lv_at hl 3 rfl) ?_
        obtain ⟨hi_22, hf⟩ := ix_inv hf
        obtain ⟨v_22, e_22, hf⟩ := lt_inv hf
        refine al_M_26 hx hb hK hC hi_22 e_22 dX12_valueOf_175 ?_
        refine lv_iload_n hx hb dX12_valueOf_176 rfl (lv_at hl 1 rfl) ?_
        refine lv_iload_n hx hb dX12_valueOf_177 rfl (lv_at hl 0 rfl) ?_
        obtain ⟨v_23, s_23, hc_23, hf⟩ := calv_inv hf
        refine cc_Vi (r_X12_result (D := D) (y := y) (o := o) (ad := ad) (av := av) hc_23 l) hx hb hml hta hown hK hN hV hA hC hRc hRs (by omega) (by omega) wq_1527 (q := 0) (ci := 12) rfl rfl wq_1528 wq_1529 wq_1012 wq_1515 hd_X12_result (As := [.int v_22, .int v_17, .int v_20]) (rest := []) rfl rfl hl.1 rfl dX12_valueOf_178 (fun H locs hC => ?_)
        exact hret _ _ _ _ _ _ (rv_inv hf).1 (congrArg (WM y o) (rv_inv hf).2) rfl dX12_valueOf_181 hC
      · have hf := it_f c_21 hf
        refine lv_iconst (v := 0) hx hb dX12_valueOf_165 (by decide) ?_
        refine lv_goto (tgt := 181) hx hb dX12_valueOf_166 (by decide) ?_
        exact hret _ _ _ _ _ _ (rv_inv hf).1 (congrArg (WM y o) (rv_inv hf).2) rfl dX12_valueOf_181 hC
    · have hf := it_f c_18 hf
      refine lv_iconst (v := 0) hx hb dX12_valueOf_145 (by decide) ?_
      exact hret _ _ _ _ _ _ (rv_inv hf).1 (congrArg (WM y o) (rv_inv hf).2) rfl dX12_valueOf_146 hC
theorem r_X12_valueOf (d : Nat) {D : va_G} {y : Nat → ClassId} {o : Nat → Nat} {ad av : Nat → Nat} {x1 : Int32} {σ : Sto} {σ2 : Sto} {v : Int32} (hf : f_X12_valueOf d x1 σ = some (v, σ2)) (l : Launch) (sz : Nat) : Met l yX12_valueOf (Cond.code yX12_valueOf cX12_valueOf 4 (some .int) :: ALW) { frames := d + 2, cells := 0, slots := 0, locals := d * 23 + 44 } (va_Pc [.ref (o 0), .int x1] (PZ D y ad av (WM y o σ) sz)) (QZi D (WM y o σ) v (WM y o σ2) sz) 0 0 (va_A (WM y o σ) sz) := (rg_X12_valueOf d) hf l sz
