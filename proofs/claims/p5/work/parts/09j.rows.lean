set_option maxHeartbeats 8000000 in
set_option maxRecDepth 100000 in
theorem r_X11_most {D : va_G} {y : Nat → ClassId} {o : Nat → Nat} {ad av : Nat → Nat} {x1 : Int32} {σ : Sto} {v : Int32} (hf : f_X11_most x1 σ = some v) (l : Launch) (sz : Nat) : Met l yX11_most (Cond.code yX11_most cX11_most 2 (some .int) :: ALW) { frames := 4, cells := 0, slots := 0, locals := 83 } (va_Pc [.ref (o 0), .int x1] (PZ D y ad av (WX y o σ) sz)) (QZi D (WX y o σ) v (WX y o σ) sz) 0 0 (va_A (WX y o σ) sz) := by
  refine met_i (by decide) (Nat.le_of_ble_eq_true rfl) ?_
  intro p e R s m args below meth c Q A ls hx hb hml hta hown hRc hRs hRf hRl hN hK hV hA hret hC hl
  have hl : lv_has ls 2 [(0, .ref (o 0)), (1, .int x1)] := hl
  unfold f_X11_most at hf
  refine lv_aload_n hx hb dX11_most_0 rfl (lv_at hl 0 rfl) ?_
  refine gt_X11_105_cl hx hb hta hown hK hC dX11_most_1 ?_
  refine lv_if_ne (tgt := 10) hx hb dX11_most_4 (by decide) (fun c_1 => ?_) (fun c_1 => ?_)
  · have hf := it_f c_1 hf
    refine lv_iload_n hx hb dX11_most_10 rfl (lv_at hl 1 rfl) ?_
    by_cases h_2_0 : x1.toInt = 0
    · have hf := it_t h_2_0 hf
      refine lv_tab (tgt := 56) hx hb dX11_most_11 (Or.inr ⟨45, by omega, by omega, by (rw [h_2_0]; decide), by decide⟩) ?_
      refine lv_aload_n hx hb dX11_most_56 rfl (lv_at hl 0 rfl) ?_
      refine gt_X11_40_cl hx hb hta hown hK hC dX11_most_57 ?_
      obtain ⟨v_3, hc_3, hf⟩ := calp_inv hf
      refine cc_Vi (r_X8_mostLoops (D := D) (y := y) (o := o) (ad := ad) (av := av) hc_3 l) hx hb hml hta hown hK hN hV hA hC hRc hRs (by omega) (by omega) wq_933 (q := 30) (ci := 8) rfl rfl wq_934 wq_935 wq_603 wq_657 hd_X8_mostLoops (As := []) (rest := []) rfl rfl hl.1 rfl dX11_most_60 (fun H locs hC => ?_)
      exact hret _ _ _ _ _ _ (Option.some.inj hf) rfl rfl dX11_most_63 hC
    have hf := it_f h_2_0 hf
    by_cases h_2_1 : x1.toInt = 1
    · have hf := it_t h_2_1 hf
      refine lv_tab (tgt := 64) hx hb dX11_most_11 (Or.inr ⟨53, by omega, by omega, by (rw [h_2_1]; decide), by decide⟩) ?_
      refine lv_aload_n hx hb dX11_most_64 rfl (lv_at hl 0 rfl) ?_
      refine gt_X11_40_cl hx hb hta hown hK hC dX11_most_65 ?_
      refine gt_X11_173_shape hx hb hta hown hK hC dX11_most_68 ?_
      refine lv_if_eq (tgt := 78) hx hb dX11_most_71 (by decide) (fun c_4 => ?_) (fun c_4 => ?_)
      · have hf := it_t c_4 hf
        refine lv_aload_n hx hb dX11_most_78 rfl (lv_at hl 0 rfl) ?_
        refine gt_X11_83_cl hx hb hta hown hK hC dX11_most_79 ?_
        obtain ⟨v_5, hc_5, hf⟩ := calp_inv hf
        refine cc_Vi (r_X2_deepest (D := D) (y := y) (o := o) (ad := ad) (av := av) hc_5 l) hx hb hml hta hown hK hN hV hA hC hRc hRs (by omega) (by omega) wq_936 (q := 63) (ci := 2) rfl rfl wq_937 wq_938 wq_242 wq_304 hd_X2_deepest (As := []) (rest := []) rfl rfl hl.1 rfl dX11_most_82 (fun H locs hC => ?_)
        exact hret _ _ _ _ _ _ (Option.some.inj hf) rfl rfl dX11_most_85 hC
      · have hf := it_f c_4 hf
        refine lv_iconst (v := (-1)) hx hb dX11_most_74 (by decide) ?_
        refine lv_goto (tgt := 85) hx hb dX11_most_75 (by decide) ?_
        exact hret _ _ _ _ _ _ (Option.some.inj hf) rfl rfl dX11_most_85 hC
    have hf := it_f h_2_1 hf
    by_cases h_2_2 : x1.toInt = 2
    · have hf := it_t h_2_2 hf
      refine lv_tab (tgt := 86) hx hb dX11_most_11 (Or.inr ⟨75, by omega, by omega, by (rw [h_2_2]; decide), by decide⟩) ?_
      refine lv_aload_n hx hb dX11_most_86 rfl (lv_at hl 0 rfl) ?_
      refine gt_X11_40_cl hx hb hta hown hK hC dX11_most_87 ?_
      refine gt_X11_173_shape hx hb hta hown hK hC dX11_most_90 ?_
      refine lv_if_eq (tgt := 100) hx hb dX11_most_93 (by decide) (fun c_6 => ?_) (fun c_6 => ?_)
      · have hf := it_t c_6 hf
        refine lv_aload_n hx hb dX11_most_100 rfl (lv_at hl 0 rfl) ?_
        refine gt_X11_83_cl hx hb hta hown hK hC dX11_most_101 ?_
        refine lv_bipush (v := 6) hx hb dX11_most_104 (by decide) ?_
        obtain ⟨v_7, hc_7, hf⟩ := calp_inv hf
        refine cc_Vi (r_X2_ofKind (D := D) (y := y) (o := o) (ad := ad) (av := av) hc_7 l) hx hb hml hta hown hK hN hV hA hC hRc hRs (by omega) (by omega) wq_939 (q := 63) (ci := 2) rfl rfl wq_940 wq_941 wq_242 wq_306 hd_X2_ofKind (As := [.int 6]) (rest := []) rfl rfl hl.1 rfl dX11_most_106 (fun H locs hC => ?_)
        exact hret _ _ _ _ _ _ (Option.some.inj hf) rfl rfl dX11_most_109 hC
      · have hf := it_f c_6 hf
        refine lv_iconst (v := (-1)) hx hb dX11_most_96 (by decide) ?_
        refine lv_goto (tgt := 109) hx hb dX11_most_97 (by decide) ?_
        exact hret _ _ _ _ _ _ (Option.some.inj hf) rfl rfl dX11_most_109 hC
    have hf := it_f h_2_2 hf
    by_cases h_2_3 : x1.toInt = 3
    · have hf := it_t h_2_3 hf
      refine lv_tab (tgt := 110) hx hb dX11_most_11 (Or.inr ⟨99, by omega, by omega, by (rw [h_2_3]; decide), by decide⟩) ?_
      refine lv_aload_n hx hb dX11_most_110 rfl (lv_at hl 0 rfl) ?_
      refine gt_X11_40_cl hx hb hta hown hK hC dX11_most_111 ?_
      refine gt_X11_173_shape hx hb hta hown hK hC dX11_most_114 ?_
      refine lv_if_eq (tgt := 124) hx hb dX11_most_117 (by decide) (fun c_8 => ?_) (fun c_8 => ?_)
      · have hf := it_t c_8 hf
        refine lv_aload_n hx hb dX11_most_124 rfl (lv_at hl 0 rfl) ?_
        refine gt_X11_83_cl hx hb hta hown hK hC dX11_most_125 ?_
        refine lv_bipush (v := 7) hx hb dX11_most_128 (by decide) ?_
        obtain ⟨v_9, hc_9, hf⟩ := calp_inv hf
        refine cc_Vi (r_X2_ofKind (D := D) (y := y) (o := o) (ad := ad) (av := av) hc_9 l) hx hb hml hta hown hK hN hV hA hC hRc hRs (by omega) (by omega) wq_939 (q := 63) (ci := 2) rfl rfl wq_940 wq_941 wq_242 wq_306 hd_X2_ofKind (As := [.int 7]) (rest := []) rfl rfl hl.1 rfl dX11_most_130 (fun H locs hC => ?_)
        exact hret _ _ _ _ _ _ (Option.some.inj hf) rfl rfl dX11_most_133 hC
      · have hf := it_f c_8 hf
        refine lv_iconst (v := (-1)) hx hb dX11_most_120 (by decide) ?_
        refine lv_goto (tgt := 133) hx hb dX11_most_121 (by decide) ?_
        exact hret _ _ _ _ _ _ (Option.some.inj hf) rfl rfl dX11_most_133 hC
    have hf := it_f h_2_3 hf
    by_cases h_2_4 : x1.toInt = 4
    · have hf := it_t h_2_4 hf
      refine lv_tab (tgt := 134) hx hb dX11_most_11 (Or.inr ⟨123, by omega, by omega, by (rw [h_2_4]; decide), by decide⟩) ?_
      refine lv_aload_n hx hb dX11_most_134 rfl (lv_at hl 0 rfl) ?_
      refine gt_X11_56_cl hx hb hta hown hK hC dX11_most_135 ?_
      obtain ⟨v_10, hc_10, hf⟩ := calp_inv hf
      refine cc_Vi (r_X1_mostParts (D := D) (y := y) (o := o) (ad := ad) (av := av) hc_10 l) hx hb hml hta hown hK hN hV hA hC hRc hRs (by omega) (by omega) wq_942 (q := 48) (ci := 1) rfl rfl wq_943 wq_944 wq_120 wq_220 hd_X1_mostParts (As := []) (rest := []) rfl rfl hl.1 rfl dX11_most_138 (fun H locs hC => ?_)
      exact hret _ _ _ _ _ _ (Option.some.inj hf) rfl rfl dX11_most_141 hC
    have hf := it_f h_2_4 hf
    by_cases h_2_5 : x1.toInt = 5
    · have hf := it_t h_2_5 hf
      refine lv_tab (tgt := 142) hx hb dX11_most_11 (Or.inr ⟨131, by omega, by omega, by (rw [h_2_5]; decide), by decide⟩) ?_
      refine lv_aload_n hx hb dX11_most_142 rfl (lv_at hl 0 rfl) ?_
      refine gt_X11_19_cl hx hb hta hown hK hC dX11_most_143 ?_
      obtain ⟨v_11, hc_11, hf⟩ := calp_inv hf
      refine cc_Vi (r_X3_highest (D := D) (y := y) (o := o) (ad := ad) (av := av) hc_11 l) hx hb hml hta hown hK hN hV hA hC hRc hRs (by omega) (by omega) wq_945 (q := 3) (ci := 3) rfl rfl wq_946 wq_947 wq_27 wq_336 hd_X3_highest (As := []) (rest := []) rfl rfl hl.1 rfl dX11_most_146 (fun H locs hC => ?_)
      exact hret _ _ _ _ _ _ (Option.some.inj hf) rfl rfl dX11_most_149 hC
    have hf := it_f h_2_5 hf
    by_cases h_2_6 : x1.toInt = 6
    · have hf := it_t h_2_6 hf
      refine lv_tab (tgt := 150) hx hb dX11_most_11 (Or.inr ⟨139, by omega, by omega, by (rw [h_2_6]; decide), by decide⟩) ?_
      refine lv_aload_n hx hb dX11_most_150 rfl (lv_at hl 0 rfl) ?_
      refine gt_X11_56_cl hx hb hta hown hK hC dX11_most_151 ?_
      obtain ⟨v_12, hc_12, hf⟩ := calp_inv hf
      refine cc_Vi (r_X1_fullest (D := D) (y := y) (o := o) (ad := ad) (av := av) hc_12 l) hx hb hml hta hown hK hN hV hA hC hRc hRs (by omega) (by omega) wq_948 (q := 48) (ci := 1) rfl rfl wq_949 wq_950 wq_120 wq_223 hd_X1_fullest (As := []) (rest := []) rfl rfl hl.1 rfl dX11_most_154 (fun H locs hC => ?_)
      exact hret _ _ _ _ _ _ (Option.some.inj hf) rfl rfl dX11_most_157 hC
    have hf := it_f h_2_6 hf
    by_cases h_2_7 : x1.toInt = 7
    · have hf := it_t h_2_7 hf
      refine lv_tab (tgt := 158) hx hb dX11_most_11 (Or.inr ⟨147, by omega, by omega, by (rw [h_2_7]; decide), by decide⟩) ?_
      refine lv_aload_n hx hb dX11_most_158 rfl (lv_at hl 0 rfl) ?_
      refine gt_X11_65_cl hx hb hta hown hK hC dX11_most_159 ?_
      obtain ⟨v_13, hc_13, hf⟩ := calp_inv hf
      refine cc_Vi (r_X10_howMany (D := D) (y := y) (o := o) (ad := ad) (av := av) hc_13 l) hx hb hml hta hown hK hN hV hA hC hRc hRs (by omega) (by omega) wq_951 (q := 56) (ci := 10) rfl rfl wq_952 wq_953 wq_729 wq_741 hd_X10_howMany (As := []) (rest := []) rfl rfl hl.1 rfl dX11_most_162 (fun H locs hC => ?_)
      exact hret _ _ _ _ _ _ (Option.some.inj hf) rfl rfl dX11_most_165 hC
    have hf := it_f h_2_7 hf
    refine lv_tab (tgt := 166) hx hb dX11_most_11 (Or.inl ⟨by omega, by decide⟩) ?_
    refine lv_ldc hx hb hown (hta _ wq_820) dX11_most_166 ?_
    exact hret _ _ _ _ _ _ (Option.some.inj hf) rfl rfl dX11_most_168 hC
  · have hf := it_t c_1 hf
    refine lv_ldc hx hb hown (hta _ wq_820) dX11_most_7 ?_
    exact hret _ _ _ _ _ _ (Option.some.inj hf) rfl rfl dX11_most_9 hC
