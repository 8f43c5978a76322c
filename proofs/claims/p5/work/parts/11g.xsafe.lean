set_option maxHeartbeats 4000000 in
theorem s_X11_dividesByZero {x1 : Int32} {x2 : Int32} (p_x1 : 0 ≤ x1.toInt ∧ x1.toInt ≤ 255) : OK (f_X11_dividesByZero x1 x2) (fun v => (0 ≤ v.toInt ∧ v.toInt ≤ 1)) := by
  unfold f_X11_dividesByZero
  have k_0 : (0 : Int32).toInt = 0 := by decide +kernel
  have k_1 : (1 : Int32).toInt = 1 := by decide +kernel
  have k_37 : (37 : Int32).toInt = 37 := by decide +kernel
  have k_47 : (47 : Int32).toInt = 47 := by decide +kernel
  refine ok_jn ?_
  refine ok_jn ?_
  refine ok_ite (fun c_1 => ?_) (fun c_1 => ?_)
  · rw [fa_eq] at c_1
    refine ok_ite (fun c_2 => ?_) (fun c_2 => ?_)
    · rw [fa_eq] at c_2
      exact ok_ret (by (try dsimp only); omega)
    · rw [fa_eq] at c_2
      exact ok_ret (by (try dsimp only); omega)
  · rw [fa_eq] at c_1
    refine ok_ite (fun c_3 => ?_) (fun c_3 => ?_)
    · rw [fa_eq] at c_3
      refine ok_ite (fun c_4 => ?_) (fun c_4 => ?_)
      · rw [fa_eq] at c_4
        exact ok_ret (by (try dsimp only); omega)
      · rw [fa_eq] at c_4
        exact ok_ret (by (try dsimp only); omega)
    · rw [fa_eq] at c_3
      exact ok_ret (by (try dsimp only); omega)

set_option maxHeartbeats 4000000 in
theorem s_X5_operate {x1 : Int32} {σ : Sto} (hB : BX σ) (p_x1 : 0 ≤ x1.toInt ∧ x1.toInt ≤ 255) : OK (f_X5_operate x1 σ) (fun s => BX s ∧ FR [79, 81, 84] [] σ s) := by
  unfold f_X5_operate
  have hF : FR [79, 81, 84] [] σ σ := FR.rf
  have k_0 : (0 : Int32).toInt = 0 := by decide +kernel
  have k_1 : (1 : Int32).toInt = 1 := by decide +kernel
  refine ok_calv (s_X5_pop  (σ := σ) hB) (fun v_1 s_1 h_1 => ?_)
  obtain ⟨b_v_1, hB_s_1, hG_s_1⟩ := h_1
  (try dsimp only at b_v_1 hB_s_1 hG_s_1)
  have hF_s_1 : FR [79, 81, 84] [] σ s_1 := FR.cal hF hG_s_1 rfl rfl
  refine ok_calp (s_X11_isBinary (x1 := x1) ) (fun v_2 h_2 => ?_)
  obtain ⟨b_v_2, x_v_2⟩ := h_2
  (try dsimp only at b_v_2 x_v_2)
  refine ok_ite (fun c_3 => ?_) (fun c_3 => ?_)
  · rw [fa_eq] at c_3
    refine ok_calp (s_X11_outcome (x1 := x1) (x2 := v_1) (x3 := (0 : Int32)) (by omega)) (fun v_4 h_4 => ?_)
    have b_v_4 := h_4
    (try dsimp only at b_v_4)
    refine ok_cals (s_X5_push (x1 := v_4) (σ := s_1) hB_s_1) (fun s_5 h_5 => ?_)
    obtain ⟨hB_s_5, hG_s_5⟩ := h_5
    (try dsimp only at hB_s_5 hG_s_5)
    have hF_s_5 : FR [79, 81, 84] [] σ s_5 := FR.cal hF_s_1 hG_s_5 rfl rfl
    exact ok_ret ⟨hB_s_5, hF_s_5⟩
  · rw [fa_eq] at c_3
    refine ok_calv (s_X5_pop  (σ := s_1) hB_s_1) (fun v_6 s_6 h_6 => ?_)
    obtain ⟨b_v_6, hB_s_6, hG_s_6⟩ := h_6
    (try dsimp only at b_v_6 hB_s_6 hG_s_6)
    have hF_s_6 : FR [79, 81, 84] [] σ s_6 := FR.cal hF_s_1 hG_s_6 rfl rfl
    refine ok_calp (s_X11_dividesByZero (x1 := x1) (x2 := v_1) (by omega)) (fun v_7 h_7 => ?_)
    have b_v_7 := h_7
    (try dsimp only at b_v_7)
    refine ok_bz (by rw [fa_eq, fa_eq]; omega) ?_
    refine ok_lt fun s_8 e_s_8 => ?_
    have hB_s_8 : BX s_8 := by rw [e_s_8]; exact pX_84 hB_s_6 (by omega)
    have hF_s_8 : FR [79, 81, 84] [] σ s_8 := by rw [e_s_8]; exact FR.st hF_s_6 (by decide)
    refine ok_calp (s_X11_outcome (x1 := x1) (x2 := v_6) (x3 := v_1) (by omega)) (fun v_10 h_8 => ?_)
    have b_v_10 := h_8
    (try dsimp only at b_v_10)
    refine ok_cals (s_X5_push (x1 := v_10) (σ := s_8) hB_s_8) (fun s_11 h_9 => ?_)
    obtain ⟨hB_s_11, hG_s_11⟩ := h_9
    (try dsimp only at hB_s_11 hG_s_11)
    have hF_s_11 : FR [79, 81, 84] [] σ s_11 := FR.cal hF_s_8 hG_s_11 rfl rfl
    exact ok_ret ⟨hB_s_11, hF_s_11⟩

set_option maxHeartbeats 4000000 in
theorem s_X5_obey {x1 : Int32} {σ : Sto} (hB : BX σ) (hLV : LV σ) (p_x1 : 0 ≤ x1.toInt ∧ x1.toInt ≤ 39) (hx : x1.toInt < (σ.1 4 0).toInt) : OK (f_X5_obey x1 σ) (fun r => ((-1) ≤ r.1.toInt ∧ r.1.toInt ≤ 39) ∧ BX r.2 ∧ FR [78, 79, 81, 82, 84, 85, 86, 88, 89, 90, 92] [] σ r.2 ∧ ((r.1.toInt ≠ -1 → r.1.toInt < (σ.1 4 0).toInt))) := by
  unfold f_X5_obey
  have hF : FR [78, 79, 81, 82, 84, 85, 86, 88, 89, 90, 92] [] σ σ := FR.rf
  have k_m1 : ((-1) : Int32).toInt = -1 := by decide +kernel
  have k_0 : (0 : Int32).toInt = 0 := by decide +kernel
  have k_1 : (1 : Int32).toInt = 1 := by decide +kernel
  have k_99 : (99 : Int32).toInt = 99 := by decide +kernel
  have k_103 : (103 : Int32).toInt = 103 := by decide +kernel
  have k_105 : (105 : Int32).toInt = 105 := by decide +kernel
  have k_107 : (107 : Int32).toInt = 107 := by decide +kernel
  have k_108 : (108 : Int32).toInt = 108 := by decide +kernel
  have k_111 : (111 : Int32).toInt = 111 := by decide +kernel
  have k_112 : (112 : Int32).toInt = 112 := by decide +kernel
  have k_114 : (114 : Int32).toInt = 114 := by decide +kernel
  have k_115 : (115 : Int32).toInt = 115 := by decide +kernel
  have k_116 : (116 : Int32).toInt = 116 := by decide +kernel
  have k_122 : (122 : Int32).toInt = 122 := by decide +kernel
  have g4 := gX_4 hB 0
  refine ok_ix ⟨by omega, by omega⟩ ?_
  have g_1 := gX_6 hB (x1.toNatClampNeg)
  refine ok_lt fun v_1 e_v_1 => ?_
  have b_v_1 : 0 ≤ v_1.toInt ∧ v_1.toInt ≤ 255 := by rw [e_v_1]; exact gX_6 hB _
  refine ok_ix ⟨by omega, by omega⟩ ?_
  have g_2 := gX_7 hB (x1.toNatClampNeg)
  refine ok_lt fun v_2 e_v_2 => ?_
  have b_v_2 : 0 ≤ v_2.toInt ∧ v_2.toInt ≤ 999 := by rw [e_v_2]; exact gX_7 hB _
  have V := hLV.1 x1.toNatClampNeg (by have := clamp_I (x := x1) (by omega); omega)
  rw [← e_v_1, ← e_v_2] at V
  have z5 : v_1.toInt = 108 ∨ v_1.toInt = 115 → v_2.toInt ≤ 5 := V.1.1
  have zE : v_1.toInt = 103 ∨ v_1.toInt = 122 → v_2.toInt < (σ.1 4 0).toInt := V.2.1
  refine ok_jnI1 (fun (s_3 : Sto) => True ∧ (BX s_3) ∧ (FR [78, 79, 81, 82, 84, 85, 86, 88, 89, 90, 92] [] σ s_3) ∧ ((s_3.1 4 0).toInt = (σ.1 4 0).toInt)) ?_ ?_
  · intro s_3 hJ
    obtain ⟨-, hB_s_3, hF_s_3, j4⟩ := hJ
    have f_s_3_4 : (s_3.1 4 0).toInt = (σ.1 4 0).toInt := by rw [hF_s_3.1 4 (by decide)]
    have g_4 := gX_4 hB_s_3 0
    have g_5 : (s_3.1 4 0).toInt = (σ.1 4 0).toInt := by rw [hF_s_3.1 4 (by decide)]
    have g_6 := gX_4 hB 0
    obtain ⟨t_7, ht_7, g_7⟩ : ∃ t : Int, (x1 + 1).toInt = t ∧ t = x1.toInt + (1 : Int32).toInt := ⟨_, rfl, by have h9 := fb_addI (x := x1) (y := (1 : Int32)) (by omega) (by omega); exact h9⟩
    refine ok_ite (fun c_3 => ?_) (fun c_3 => ?_)
    · rw [fa_le, ht_7] at c_3
      exact ok_ret ⟨(by (try dsimp only); omega), hB_s_3, hF_s_3, (fun h => by (try dsimp only at h); (try dsimp only); omega)⟩
    · rw [fa_le, ht_7] at c_3
      exact ok_ret ⟨(by (try dsimp only); rw [ht_7]; omega), hB_s_3, hF_s_3, (fun h => by (try dsimp only at h); (try dsimp only); omega)⟩
  · intro k_243 hk_k_243
    refine ok_ite (fun c_8 => ?_) (fun c_8 => ?_)
    · have c_8 := c_8
      refine ok_cals (s_X5_shuffle (x1 := v_1) (σ := σ) hB (by omega)) (fun s_6 h_9 => ?_)
      obtain ⟨hB_s_6, hG_s_6⟩ := h_9
      (try dsimp only at hB_s_6 hG_s_6)
      have hF_s_6 : FR [78, 79, 81, 82, 84, 85, 86, 88, 89, 90, 92] [] σ s_6 := FR.cal hF hG_s_6 rfl rfl
      have w_s_6_84 : (s_6.1 84 0).toInt = (σ.1 84 0).toInt := by rw [hG_s_6.1 84 (by decide)]
      have f_s_6_4 : (s_6.1 4 0).toInt = (σ.1 4 0).toInt := by rw [hF_s_6.1 4 (by decide)]
      have hLV_s_6 : LV s_6 := LV.fr hG_s_6 (by decide) hLV
      exact hk_k_243 s_6 ⟨trivial, hB_s_6, hF_s_6, (by omega)⟩
    · have c_8 := c_8
      refine ok_ite (fun c_10 => ?_) (fun c_10 => ?_)
      · have c_10 := c_10
        exact ok_ret ⟨(by (try dsimp only); omega), hB, hF, (fun h => by (try dsimp only at h); (try dsimp only); omega)⟩
      · have c_10 := c_10
        refine ok_ite (fun c_11 => ?_) (fun c_11 => ?_)
        · have c_11 := c_11
          refine ok_calv (s_X5_draw  (σ := σ) hB) (fun v_7 s_7 h_12 => ?_)
          obtain ⟨b_v_7, hB_s_7, hG_s_7⟩ := h_12
          (try dsimp only at b_v_7 hB_s_7 hG_s_7)
          have hF_s_7 : FR [78, 79, 81, 82, 84, 85, 86, 88, 89, 90, 92] [] σ s_7 := FR.cal hF hG_s_7 rfl rfl
          have w_s_7_84 : (s_7.1 84 0).toInt = (σ.1 84 0).toInt := by rw [hG_s_7.1 84 (by decide)]
          have f_s_7_4 : (s_7.1 4 0).toInt = (σ.1 4 0).toInt := by rw [hF_s_7.1 4 (by decide)]
          have hLV_s_7 : LV s_7 := LV.fr hG_s_7 (by decide) hLV
          refine ok_cals (s_X5_push (x1 := v_7) (σ := s_7) hB_s_7) (fun s_8 h_13 => ?_)
          obtain ⟨hB_s_8, hG_s_8⟩ := h_13
          (try dsimp only at hB_s_8 hG_s_8)
          have hF_s_8 : FR [78, 79, 81, 82, 84, 85, 86, 88, 89, 90, 92] [] σ s_8 := FR.cal hF_s_7 hG_s_8 rfl rfl
          have w_s_8_84 : (s_8.1 84 0).toInt = (s_7.1 84 0).toInt := by rw [hG_s_8.1 84 (by decide)]
          have f_s_8_4 : (s_8.1 4 0).toInt = (σ.1 4 0).toInt := by rw [hF_s_8.1 4 (by decide)]
          have hLV_s_8 : LV s_8 := LV.fr hG_s_8 (by decide) hLV_s_7
          exact hk_k_243 s_8 ⟨trivial, hB_s_8, hF_s_8, (by omega)⟩
        · have c_11 := c_11
          refine ok_ite (fun c_14 => ?_) (fun c_14 => ?_)
          · have c_14 := c_14
            refine ok_cals (s_X5_push (x1 := v_2) (σ := σ) hB) (fun s_9 h_15 => ?_)
            obtain ⟨hB_s_9, hG_s_9⟩ := h_15
            (try dsimp only at hB_s_9 hG_s_9)
            have hF_s_9 : FR [78, 79, 81, 82, 84, 85, 86, 88, 89, 90, 92] [] σ s_9 := FR.cal hF hG_s_9 rfl rfl
            have w_s_9_84 : (s_9.1 84 0).toInt = (σ.1 84 0).toInt := by rw [hG_s_9.1 84 (by decide)]
            have f_s_9_4 : (s_9.1 4 0).toInt = (σ.1 4 0).toInt := by rw [hF_s_9.1 4 (by decide)]
            have hLV_s_9 : LV s_9 := LV.fr hG_s_9 (by decide) hLV
            exact hk_k_243 s_9 ⟨trivial, hB_s_9, hF_s_9, (by omega)⟩
          · have c_14 := c_14
            refine ok_ite (fun c_16 => ?_) (fun c_16 => ?_)
            · have c_16 := c_16
              refine ok_ix ⟨by omega, by omega⟩ ?_
              refine ok_lt fun v_10 e_v_10 => ?_
              refine ok_cals (s_X5_push (x1 := v_10) (σ := σ) hB) (fun s_11 h_17 => ?_)
              obtain ⟨hB_s_11, hG_s_11⟩ := h_17
              (try dsimp only at hB_s_11 hG_s_11)
              have hF_s_11 : FR [78, 79, 81, 82, 84, 85, 86, 88, 89, 90, 92] [] σ s_11 := FR.cal hF hG_s_11 rfl rfl
              have w_s_11_84 : (s_11.1 84 0).toInt = (σ.1 84 0).toInt := by rw [hG_s_11.1 84 (by decide)]
              have f_s_11_4 : (s_11.1 4 0).toInt = (σ.1 4 0).toInt := by rw [hF_s_11.1 4 (by decide)]
              have hLV_s_11 : LV s_11 := LV.fr hG_s_11 (by decide) hLV
              exact hk_k_243 s_11 ⟨trivial, hB_s_11, hF_s_11, (by omega)⟩
            · have c_16 := c_16
              refine ok_ite (fun c_18 => ?_) (fun c_18 => ?_)
              · have c_18 := c_18
                refine ok_calv (s_X5_pop  (σ := σ) hB) (fun v_12 s_12 h_19 => ?_)
                obtain ⟨b_v_12, hB_s_12, hG_s_12⟩ := h_19
                (try dsimp only at b_v_12 hB_s_12 hG_s_12)
                have hF_s_12 : FR [78, 79, 81, 82, 84, 85, 86, 88, 89, 90, 92] [] σ s_12 := FR.cal hF hG_s_12 rfl rfl
                have w_s_12_84 : (s_12.1 84 0).toInt = (σ.1 84 0).toInt := by rw [hG_s_12.1 84 (by decide)]
                have f_s_12_4 : (s_12.1 4 0).toInt = (σ.1 4 0).toInt := by rw [hF_s_12.1 4 (by decide)]
                have hLV_s_12 : LV s_12 := LV.fr hG_s_12 (by decide) hLV
                refine ok_cals (s_X5_tellOut (x1 := v_12) (σ := s_12) hB_s_12) (fun s_13 h_20 => ?_)
                obtain ⟨hB_s_13, hG_s_13⟩ := h_20
                (try dsimp only at hB_s_13 hG_s_13)
                have hF_s_13 : FR [78, 79, 81, 82, 84, 85, 86, 88, 89, 90, 92] [] σ s_13 := FR.cal hF_s_12 hG_s_13 rfl rfl
                have w_s_13_84 : (s_13.1 84 0).toInt = (s_12.1 84 0).toInt := by rw [hG_s_13.1 84 (by decide)]
                have f_s_13_4 : (s_13.1 4 0).toInt = (σ.1 4 0).toInt := by rw [hF_s_13.1 4 (by decide)]
                have hLV_s_13 : LV s_13 := LV.fr hG_s_13 (by decide) hLV_s_12
                exact hk_k_243 s_13 ⟨trivial, hB_s_13, hF_s_13, (by omega)⟩
              · have c_18 := c_18
                refine ok_ite (fun c_21 => ?_) (fun c_21 => ?_)
                · have c_21 := c_21
                  refine ok_calv (s_X5_pop  (σ := σ) hB) (fun v_14 s_14 h_22 => ?_)
                  obtain ⟨b_v_14, hB_s_14, hG_s_14⟩ := h_22
                  (try dsimp only at b_v_14 hB_s_14 hG_s_14)
                  have hF_s_14 : FR [78, 79, 81, 82, 84, 85, 86, 88, 89, 90, 92] [] σ s_14 := FR.cal hF hG_s_14 rfl rfl
                  have w_s_14_84 : (s_14.1 84 0).toInt = (σ.1 84 0).toInt := by rw [hG_s_14.1 84 (by decide)]
                  have f_s_14_4 : (s_14.1 4 0).toInt = (σ.1 4 0).toInt := by rw [hF_s_14.1 4 (by decide)]
                  have hLV_s_14 : LV s_14 := LV.fr hG_s_14 (by decide) hLV
                  exact hk_k_243 s_14 ⟨trivial, hB_s_14, hF_s_14, (by omega)⟩
                · have c_21 := c_21
                  refine ok_ite (fun c_23 => ?_) (fun c_23 => ?_)
                  · have c_23 := c_23
                    exact ok_ret ⟨(by (try dsimp only); omega), hB, hF, (fun h => by (try dsimp only at h); (try dsimp only); omega)⟩
                  · have c_23 := c_23
                    refine ok_ite (fun c_24 => ?_) (fun c_24 => ?_)
                    · have c_24 := c_24
                      refine ok_calv (s_X5_pop  (σ := σ) hB) (fun v_15 s_15 h_25 => ?_)
                      obtain ⟨b_v_15, hB_s_15, hG_s_15⟩ := h_25
                      (try dsimp only at b_v_15 hB_s_15 hG_s_15)
                      have hF_s_15 : FR [78, 79, 81, 82, 84, 85, 86, 88, 89, 90, 92] [] σ s_15 := FR.cal hF hG_s_15 rfl rfl
                      have w_s_15_84 : (s_15.1 84 0).toInt = (σ.1 84 0).toInt := by rw [hG_s_15.1 84 (by decide)]
                      have f_s_15_4 : (s_15.1 4 0).toInt = (σ.1 4 0).toInt := by rw [hF_s_15.1 4 (by decide)]
                      have hLV_s_15 : LV s_15 := LV.fr hG_s_15 (by decide) hLV
                      refine ok_ix ⟨by omega, by omega⟩ ?_
                      refine ok_lt fun s_16 e_s_16 => ?_
                      have hB_s_16 : BX s_16 := by rw [e_s_16]; exact pX_78 hB_s_15 (tI_rng _)
                      have hF_s_16 : FR [78, 79, 81, 82, 84, 85, 86, 88, 89, 90, 92] [] σ s_16 := by rw [e_s_16]; exact FR.st hF_s_15 (by decide)
                      have w_s_16_84 : (s_16.1 84 0).toInt = (s_15.1 84 0).toInt := by rw [e_s_16]; rfl
                      have f_s_16_4 : (s_16.1 4 0).toInt = (σ.1 4 0).toInt := by rw [hF_s_16.1 4 (by decide)]
                      have hLV_s_16 : LV s_16 := by rw [e_s_16]; exact LV.st1 (by decide) hLV_s_15
                      exact hk_k_243 s_16 ⟨trivial, hB_s_16, hF_s_16, (by omega)⟩
                    · have c_24 := c_24
                      refine ok_ite (fun c_26 => ?_) (fun c_26 => ?_)
                      · have c_26 := c_26
                        refine ok_calv (s_X5_pop  (σ := σ) hB) (fun v_17 s_17 h_27 => ?_)
                        obtain ⟨b_v_17, hB_s_17, hG_s_17⟩ := h_27
                        (try dsimp only at b_v_17 hB_s_17 hG_s_17)
                        have hF_s_17 : FR [78, 79, 81, 82, 84, 85, 86, 88, 89, 90, 92] [] σ s_17 := FR.cal hF hG_s_17 rfl rfl
                        have w_s_17_84 : (s_17.1 84 0).toInt = (σ.1 84 0).toInt := by rw [hG_s_17.1 84 (by decide)]
                        have f_s_17_4 : (s_17.1 4 0).toInt = (σ.1 4 0).toInt := by rw [hF_s_17.1 4 (by decide)]
                        have hLV_s_17 : LV s_17 := LV.fr hG_s_17 (by decide) hLV
                        refine ok_calv (s_X5_throwFrom (x1 := x1) (x2 := v_17) (σ := s_17) hB_s_17 hLV_s_17 (by omega)) (fun v_18 s_18 h_28 => ?_)
                        obtain ⟨b_v_18, hB_s_18, hG_s_18, x_s_18⟩ := h_28
                        (try dsimp only at b_v_18 hB_s_18 hG_s_18 x_s_18)
                        have hF_s_18 : FR [78, 79, 81, 82, 84, 85, 86, 88, 89, 90, 92] [] σ s_18 := FR.cal hF_s_17 hG_s_18 rfl rfl
                        have f_s_18_4 : (s_18.1 4 0).toInt = (σ.1 4 0).toInt := by rw [hF_s_18.1 4 (by decide)]
                        have hLV_s_18 : LV s_18 := LV.fr hG_s_18 (by decide) hLV_s_17
                        exact ok_ret ⟨(by (try dsimp only); omega), hB_s_18, hF_s_18, (fun h => by (try dsimp only at h); (try dsimp only); omega)⟩
                      · have c_26 := c_26
                        refine ok_ite (fun c_29 => ?_) (fun c_29 => ?_)
                        · have c_29 := c_29
                          refine ok_calv (s_X5_pop  (σ := σ) hB) (fun v_19 s_19 h_30 => ?_)
                          obtain ⟨b_v_19, hB_s_19, hG_s_19⟩ := h_30
                          (try dsimp only at b_v_19 hB_s_19 hG_s_19)
                          have hF_s_19 : FR [78, 79, 81, 82, 84, 85, 86, 88, 89, 90, 92] [] σ s_19 := FR.cal hF hG_s_19 rfl rfl
                          have w_s_19_84 : (s_19.1 84 0).toInt = (σ.1 84 0).toInt := by rw [hG_s_19.1 84 (by decide)]
                          have f_s_19_4 : (s_19.1 4 0).toInt = (σ.1 4 0).toInt := by rw [hF_s_19.1 4 (by decide)]
                          have hLV_s_19 : LV s_19 := LV.fr hG_s_19 (by decide) hLV
                          refine ok_ite (fun c_31 => ?_) (fun c_31 => ?_)
                          · rw [fa_eq] at c_31
                            exact ok_ret ⟨(by (try dsimp only); omega), hB_s_19, hF_s_19, (fun h => by (try dsimp only at h); (try dsimp only); omega)⟩
                          · rw [fa_eq] at c_31
                            exact hk_k_243 s_19 ⟨trivial, hB_s_19, hF_s_19, (by omega)⟩
                        · have c_29 := c_29
                          refine ok_cals (s_X5_operate (x1 := v_1) (σ := σ) hB (by omega)) (fun s_21 h_32 => ?_)
                          obtain ⟨hB_s_21, hG_s_21⟩ := h_32
                          (try dsimp only at hB_s_21 hG_s_21)
                          have hF_s_21 : FR [78, 79, 81, 82, 84, 85, 86, 88, 89, 90, 92] [] σ s_21 := FR.cal hF hG_s_21 rfl rfl
                          have f_s_21_4 : (s_21.1 4 0).toInt = (σ.1 4 0).toInt := by rw [hF_s_21.1 4 (by decide)]
                          have hLV_s_21 : LV s_21 := LV.fr hG_s_21 (by decide) hLV
                          have g_34 := gX_84 hB_s_21 0
                          refine ok_ite (fun c_33 => ?_) (fun c_33 => ?_)
                          · rw [fa_eq] at c_33
                            exact hk_k_243 s_21 ⟨trivial, hB_s_21, hF_s_21, (by omega)⟩
                          · rw [fa_eq] at c_33
                            refine ok_calv (s_X5_throwFrom (x1 := x1) (x2 := (99 : Int32)) (σ := s_21) hB_s_21 hLV_s_21 (by omega)) (fun v_23 s_23 h_35 => ?_)
                            obtain ⟨b_v_23, hB_s_23, hG_s_23, x_s_23⟩ := h_35
                            (try dsimp only at b_v_23 hB_s_23 hG_s_23 x_s_23)
                            have hF_s_23 : FR [78, 79, 81, 82, 84, 85, 86, 88, 89, 90, 92] [] σ s_23 := FR.cal hF_s_21 hG_s_23 rfl rfl
                            have f_s_23_4 : (s_23.1 4 0).toInt = (σ.1 4 0).toInt := by rw [hF_s_23.1 4 (by decide)]
                            have hLV_s_23 : LV s_23 := LV.fr hG_s_23 (by decide) hLV_s_21
                            exact ok_ret ⟨(by (try dsimp only); omega), hB_s_23, hF_s_23, (fun h => by (try dsimp only at h); (try dsimp only); omega)⟩

set_option maxHeartbeats 4000000 in
theorem s_X5_enter {σ : Sto} (hB : BX σ) : OK (f_X5_enter σ) (fun r => (0 ≤ r.1.toInt ∧ r.1.toInt ≤ 1) ∧ BX r.2 ∧ FR [86, 87] [] σ r.2) := by
  unfold f_X5_enter
  have hF : FR [86, 87] [] σ σ := FR.rf
  have k_0 : (0 : Int32).toInt = 0 := by decide +kernel
  have k_1 : (1 : Int32).toInt = 1 := by decide +kernel
  have k_2 : (2 : Int32).toInt = 2 := by decide +kernel
  refine ok_ite (fun c_1 => ?_) (fun c_1 => ?_)
  · rw [fa_eq] at c_1
    refine ok_lt fun s_2 e_s_2 => ?_
    have hB_s_2 : BX s_2 := by rw [e_s_2]; exact pX_86 hB (by omega)
    have hF_s_2 : FR [86, 87] [] σ s_2 := by rw [e_s_2]; exact FR.st hF (by decide)
    have w_s_2_87 : (s_2.1 87 0).toInt = (σ.1 87 0).toInt := by rw [e_s_2]; rfl
    exact ok_ret ⟨(by (try dsimp only); omega), hB_s_2, hF_s_2⟩
  · rw [fa_eq] at c_1
    obtain ⟨t_2, ht_2, g_2⟩ : ∃ t : Int, ((σ.1 87 0) + 1).toInt = t ∧ -2147483648 ≤ t ∧ t ≤ 2147483647 := ⟨_, rfl, tI_rng _⟩
    refine ok_lt fun s_3 e_s_3 => ?_
    have hB_s_3 : BX s_3 := by rw [e_s_3]; exact pX_87 hB (tI_rng _)
    have hF_s_3 : FR [86, 87] [] σ s_3 := by rw [e_s_3]; exact FR.st hF (by decide)
    have w_s_3_87 : (s_3.1 87 0).toInt = t_2 := by rw [e_s_3, sti_s, ht_2]
    exact ok_ret ⟨(by (try dsimp only); omega), hB_s_3, hF_s_3⟩

set_option maxHeartbeats 4000000 in
theorem s_X5_goThroughCode {σ : Sto} (hB : BX σ) (hLV : LV σ) (h4 : 1 ≤ (σ.1 4 0).toInt) : OK (f_X5_goThroughCode σ) (fun s => BX s ∧ FR [78, 79, 81, 82, 84, 85, 86, 87, 88, 89, 90, 92] [] σ s) := by
  unfold f_X5_goThroughCode
  have hF : FR [78, 79, 81, 82, 84, 85, 86, 87, 88, 89, 90, 92] [] σ σ := FR.rf
  have k_m1 : ((-1) : Int32).toInt = -1 := by decide +kernel
  have k_0 : (0 : Int32).toInt = 0 := by decide +kernel
  have k_1 : (1 : Int32).toInt = 1 := by decide +kernel
  have k_1000000 : (1000000 : Int32).toInt = 1000000 := by decide +kernel
  have g4 := gX_4 hB 0
  refine ok_itr3 (fun (n : Nat) (x1_1 : Int32) (x2_1 : Int32) (s_1 : Sto) => n = (1000001 - x2_1.toInt).toNat ∧ ((-1) ≤ x1_1.toInt ∧ x1_1.toInt ≤ 39) ∧ (0 ≤ x2_1.toInt ∧ x2_1.toInt ≤ 1000000) ∧ (BX s_1) ∧ (FR [78, 79, 81, 82, 84, 85, 86, 87, 88, 89, 90, 92] [] σ s_1) ∧ (LV s_1) ∧ (x1_1.toInt < (σ.1 4 0).toInt)) ?_ (n := _) ⟨rfl, (by omega), (by omega), hB, hF, hLV, (by omega)⟩ (show _ < 10000000 by omega)
  intro a_4 n x1_1 x2_1 s_1 hI ih_a_4
  obtain ⟨hn_a_4, b_x1_1, b_x2_1, hB_s_1, hF_s_1, hLV_s_1, hin⟩ := hI
  have f_s_1_4 : (s_1.1 4 0).toInt = (σ.1 4 0).toInt := by rw [hF_s_1.1 4 (by decide)]
  refine ok_ite (fun c_1 => ?_) (fun c_1 => ?_)
  · rw [fa_le] at c_1
    exact ok_ret ⟨hB_s_1, hF_s_1⟩
  · rw [fa_le] at c_1
    refine ok_ite (fun c_2 => ?_) (fun c_2 => ?_)
    · rw [fa_eq] at c_2
      exact ok_ret ⟨hB_s_1, hF_s_1⟩
    · rw [fa_eq] at c_2
      refine ok_ix ⟨by omega, by omega⟩ ?_
      have g_3 := gX_23 hB_s_1 (x1_1.toNatClampNeg)
      refine ok_lt fun v_4 e_v_4 => ?_
      have b_v_4 : (-1) ≤ v_4.toInt ∧ v_4.toInt ≤ 39 := by rw [e_v_4]; exact gX_23 hB_s_1 _
      refine ok_jn ?_
      refine ok_jn ?_
      refine ok_ite (fun c_4 => ?_) (fun c_4 => ?_)
      · rw [fa_eq] at c_4
        refine ok_jnI1 (fun (s_6 : Sto) => True ∧ (BX s_6) ∧ (FR [78, 79, 81, 82, 84, 85, 86, 87, 88, 89, 90, 92] [] σ s_6) ∧ (LV s_6) ∧ ((s_6.1 4 0).toInt = (σ.1 4 0).toInt)) ?_ ?_
        · intro s_6 hJ
          obtain ⟨-, hB_s_6, hF_s_6, hLV_s_6, j4⟩ := hJ
          have f_s_6_4 : (s_6.1 4 0).toInt = (σ.1 4 0).toInt := by rw [hF_s_6.1 4 (by decide)]
          refine ok_calv (s_X5_obey (x1 := x1_1) (σ := s_6) hB_s_6 hLV_s_6 (by omega) (by omega)) (fun v_7 s_7 h_5 => ?_)
          obtain ⟨b_v_7, hB_s_7, hG_s_7, x_s_7⟩ := h_5
          (try dsimp only at b_v_7 hB_s_7 hG_s_7 x_s_7)
          have hF_s_7 : FR [78, 79, 81, 82, 84, 85, 86, 87, 88, 89, 90, 92] [] σ s_7 := FR.cal hF_s_6 hG_s_7 rfl rfl
          have f_s_7_4 : (s_7.1 4 0).toInt = (σ.1 4 0).toInt := by rw [hF_s_7.1 4 (by decide)]
          have hLV_s_7 : LV s_7 := LV.fr hG_s_7 (by decide) hLV_s_6
          obtain ⟨t_6, ht_6, g_6⟩ : ∃ t : Int, (x2_1 + 1).toInt = t ∧ t = x2_1.toInt + (1 : Int32).toInt := ⟨_, rfl, by have h9 := fb_addI (x := x2_1) (y := (1 : Int32)) (by omega) (by omega); exact h9⟩
          refine ok_lt fun x2_8 e_x2_8 => ?_
          have q_x2_8 : x2_8.toInt = t_6 := by rw [e_x2_8]; exact ht_6
          exact ih_a_4 _ v_7 x2_8 s_7 (by rw [hn_a_4]; omega) ⟨rfl, (by omega), (by omega), hB_s_7, hF_s_7, hLV_s_7, (by omega)⟩
        · intro k_63 hk_k_63
          refine ok_ite (fun c_7 => ?_) (fun c_7 => ?_)
          · rw [fa_eq] at c_7
            exact hk_k_63 s_1 ⟨trivial, hB_s_1, hF_s_1, hLV_s_1, (by omega)⟩
          · rw [fa_eq] at c_7
            exfalso; omega
      · rw [fa_eq] at c_4
        refine ok_ix ⟨by omega, by omega⟩ ?_
        have g_8 := gX_21 hB_s_1 (v_4.toNatClampNeg)
        refine ok_lt fun v_14 e_v_14 => ?_
        have b_v_14 : 0 ≤ v_14.toInt ∧ v_14.toInt ≤ 39 := by rw [e_v_14]; exact gX_21 hB_s_1 _
        refine ok_ite (fun c_9 => ?_) (fun c_9 => ?_)
        · rw [fa_eq] at c_9
          refine ok_jnI1 (fun (s_6 : Sto) => True ∧ (BX s_6) ∧ (FR [78, 79, 81, 82, 84, 85, 86, 87, 88, 89, 90, 92] [] σ s_6) ∧ (LV s_6) ∧ ((s_6.1 4 0).toInt = (σ.1 4 0).toInt)) ?_ ?_
          · intro s_6 hJ
            obtain ⟨-, hB_s_6, hF_s_6, hLV_s_6, j4⟩ := hJ
            have f_s_6_4 : (s_6.1 4 0).toInt = (σ.1 4 0).toInt := by rw [hF_s_6.1 4 (by decide)]
            refine ok_calv (s_X5_obey (x1 := x1_1) (σ := s_6) hB_s_6 hLV_s_6 (by omega) (by omega)) (fun v_7 s_7 h_10 => ?_)
            obtain ⟨b_v_7, hB_s_7, hG_s_7, x_s_7⟩ := h_10
            (try dsimp only at b_v_7 hB_s_7 hG_s_7 x_s_7)
            have hF_s_7 : FR [78, 79, 81, 82, 84, 85, 86, 87, 88, 89, 90, 92] [] σ s_7 := FR.cal hF_s_6 hG_s_7 rfl rfl
            have f_s_7_4 : (s_7.1 4 0).toInt = (σ.1 4 0).toInt := by rw [hF_s_7.1 4 (by decide)]
            have hLV_s_7 : LV s_7 := LV.fr hG_s_7 (by decide) hLV_s_6
            obtain ⟨t_11, ht_11, g_11⟩ : ∃ t : Int, (x2_1 + 1).toInt = t ∧ t = x2_1.toInt + (1 : Int32).toInt := ⟨_, rfl, by have h9 := fb_addI (x := x2_1) (y := (1 : Int32)) (by omega) (by omega); exact h9⟩
            refine ok_lt fun x2_8 e_x2_8 => ?_
            have q_x2_8 : x2_8.toInt = t_11 := by rw [e_x2_8]; exact ht_11
            exact ih_a_4 _ v_7 x2_8 s_7 (by rw [hn_a_4]; omega) ⟨rfl, (by omega), (by omega), hB_s_7, hF_s_7, hLV_s_7, (by omega)⟩
          · intro k_63 hk_k_63
            refine ok_ite (fun c_12 => ?_) (fun c_12 => ?_)
            · rw [fa_eq] at c_12
              exfalso; omega
            · rw [fa_eq] at c_12
              refine ok_calv (s_X5_enter  (σ := s_1) hB_s_1) (fun v_10 s_10 h_13 => ?_)
              obtain ⟨b_v_10, hB_s_10, hG_s_10⟩ := h_13
              (try dsimp only at b_v_10 hB_s_10 hG_s_10)
              have hF_s_10 : FR [78, 79, 81, 82, 84, 85, 86, 87, 88, 89, 90, 92] [] σ s_10 := FR.cal hF_s_1 hG_s_10 rfl rfl
              have f_s_10_4 : (s_10.1 4 0).toInt = (σ.1 4 0).toInt := by rw [hF_s_10.1 4 (by decide)]
              have hLV_s_10 : LV s_10 := LV.fr hG_s_10 (by decide) hLV_s_1
              refine ok_ite (fun c_14 => ?_) (fun c_14 => ?_)
              · rw [fa_eq] at c_14
                exact ok_ret ⟨hB_s_10, hF_s_10⟩
              · rw [fa_eq] at c_14
                exact hk_k_63 s_10 ⟨trivial, hB_s_10, hF_s_10, hLV_s_10, (by omega)⟩
        · rw [fa_eq] at c_9
          refine ok_jnI1 (fun (s_6 : Sto) => True ∧ (BX s_6) ∧ (FR [78, 79, 81, 82, 84, 85, 86, 87, 88, 89, 90, 92] [] σ s_6) ∧ (LV s_6) ∧ ((s_6.1 4 0).toInt = (σ.1 4 0).toInt)) ?_ ?_
          · intro s_6 hJ
            obtain ⟨-, hB_s_6, hF_s_6, hLV_s_6, j4⟩ := hJ
            have f_s_6_4 : (s_6.1 4 0).toInt = (σ.1 4 0).toInt := by rw [hF_s_6.1 4 (by decide)]
            refine ok_calv (s_X5_obey (x1 := x1_1) (σ := s_6) hB_s_6 hLV_s_6 (by omega) (by omega)) (fun v_7 s_7 h_15 => ?_)
            obtain ⟨b_v_7, hB_s_7, hG_s_7, x_s_7⟩ := h_15
            (try dsimp only at b_v_7 hB_s_7 hG_s_7 x_s_7)
            have hF_s_7 : FR [78, 79, 81, 82, 84, 85, 86, 87, 88, 89, 90, 92] [] σ s_7 := FR.cal hF_s_6 hG_s_7 rfl rfl
            have f_s_7_4 : (s_7.1 4 0).toInt = (σ.1 4 0).toInt := by rw [hF_s_7.1 4 (by decide)]
            have hLV_s_7 : LV s_7 := LV.fr hG_s_7 (by decide) hLV_s_6
            obtain ⟨t_16, ht_16, g_16⟩ : ∃ t : Int, (x2_1 + 1).toInt = t ∧ t = x2_1.toInt + (1 : Int32).toInt := ⟨_, rfl, by have h9 := fb_addI (x := x2_1) (y := (1 : Int32)) (by omega) (by omega); exact h9⟩
            refine ok_lt fun x2_8 e_x2_8 => ?_
            have q_x2_8 : x2_8.toInt = t_16 := by rw [e_x2_8]; exact ht_16
            exact ih_a_4 _ v_7 x2_8 s_7 (by rw [hn_a_4]; omega) ⟨rfl, (by omega), (by omega), hB_s_7, hF_s_7, hLV_s_7, (by omega)⟩
          · intro k_63 hk_k_63
            refine ok_ite (fun c_17 => ?_) (fun c_17 => ?_)
            · rw [fa_eq] at c_17
              exact hk_k_63 s_1 ⟨trivial, hB_s_1, hF_s_1, hLV_s_1, (by omega)⟩
            · rw [fa_eq] at c_17
              exfalso; omega

set_option maxHeartbeats 4000000 in
theorem sd_X5_value : ∀ d : Nat, ∀ {x1 : Int32} {x2 : Int32} {σ : Sto} (hB : BX σ) (hPI : PI σ) (p_x1 : (-1) ≤ x1.toInt ∧ x1.toInt ≤ 511) (p_x2 : 0 ≤ x2.toInt ∧ x2.toInt ≤ 61), (63 - x2.toInt).toNat ≤ d → OK (f_X5_value d x1 x2 σ) (fun r => True ∧ BX r.2 ∧ FR [82, 84, 88] [] σ r.2) := by
  intro d
  induction d with
  | zero => intro x1 x2 σ hB hPI p_x1 p_x2 hmu; omega
  | succ d ih =>
  intro x1 x2 σ hB hPI p_x1 p_x2 hmu
  show OK (b_X5_value (f_X5_value d) x1 x2 σ) _
  unfold b_X5_value
  have hF : FR [82, 84, 88] [] σ σ := FR.rf
  have k_m1 : ((-1) : Int32).toInt = -1 := by decide +kernel
  have k_0 : (0 : Int32).toInt = 0 := by decide +kernel
  have k_1 : (1 : Int32).toInt = 1 := by decide +kernel
  have k_60 : (60 : Int32).toInt = 60 := by decide +kernel
  have k_84 : (84 : Int32).toInt = 84 := by decide +kernel
  have k_88 : (88 : Int32).toInt = 88 := by decide +kernel
  have k_105 : (105 : Int32).toInt = 105 := by decide +kernel
  have k_107 : (107 : Int32).toInt = 107 := by decide +kernel
  have k_108 : (108 : Int32).toInt = 108 := by decide +kernel
  refine ok_ite (fun c_1 => ?_) (fun c_1 => ?_)
  · rw [fa_eq] at c_1
    exact ok_ret ⟨trivial, hB, hF⟩
  · rw [fa_eq] at c_1
    refine ok_ite (fun c_2 => ?_) (fun c_2 => ?_)
    · rw [fa_lt] at c_2
      exact ok_ret ⟨trivial, hB, hF⟩
    · rw [fa_lt] at c_2
      have g_4 := gX_84 hB 0
      refine ok_ite (fun c_3 => ?_) (fun c_3 => ?_)
      · rw [fa_eq] at c_3
        refine ok_ix ⟨by omega, by omega⟩ ?_
        have g_5 := gX_47 hB (x1.toNatClampNeg)
        refine ok_lt fun v_4 e_v_4 => ?_
        have b_v_4 : 0 ≤ v_4.toInt ∧ v_4.toInt ≤ 255 := by rw [e_v_4]; exact gX_47 hB _
        refine ok_ix ⟨by omega, by omega⟩ ?_
        have g_6 := gX_48 hB (x1.toNatClampNeg)
        refine ok_lt fun v_5 e_v_5 => ?_
        have b_v_5 : 0 ≤ v_5.toInt ∧ v_5.toInt ≤ 999 := by rw [e_v_5]; exact gX_48 hB _
        have y1 : v_4.toInt ≠ 107 → v_5.toInt ≤ 511 := by rw [e_v_4, e_v_5]; exact (hPI _).1
        have y2 : v_4.toInt = 108 → v_5.toInt ≤ 5 := by rw [e_v_4, e_v_5]; exact (hPI _).2.1
        have y3 : v_4.toInt = 84 → v_5.toInt ≤ 5 := by rw [e_v_4, e_v_5]; exact (hPI _).2.2.1
        have y4 : v_4.toInt = 88 → v_5.toInt ≤ 160 := by rw [e_v_4, e_v_5]; exact (hPI _).2.2.2.1
        refine ok_ite (fun c_7 => ?_) (fun c_7 => ?_)
        · have c_7 := c_7
          refine ok_ix ⟨by omega, by omega⟩ ?_
          refine ok_lt fun v_7 e_v_7 => ?_
          exact ok_ret ⟨trivial, hB, hF⟩
        · have c_7 := c_7
          refine ok_ite (fun c_8 => ?_) (fun c_8 => ?_)
          · have c_8 := c_8
            refine ok_ix ⟨by omega, by omega⟩ ?_
            refine ok_lt fun v_8 e_v_8 => ?_
            exact ok_ret ⟨trivial, hB, hF⟩
          · have c_8 := c_8
            refine ok_ite (fun c_9 => ?_) (fun c_9 => ?_)
            · have c_9 := c_9
              refine ok_calv (s_X5_draw  (σ := σ) hB) (fun v_9 s_9 h_10 => ?_)
              obtain ⟨b_v_9, hB_s_9, hG_s_9⟩ := h_10
              (try dsimp only at b_v_9 hB_s_9 hG_s_9)
              have hF_s_9 : FR [82, 84, 88] [] σ s_9 := FR.cal hF hG_s_9 rfl rfl
              have w_s_9_84 : (s_9.1 84 0).toInt = (σ.1 84 0).toInt := by rw [hG_s_9.1 84 (by decide)]
              have hPI_s_9 : PI s_9 := PI.fr hG_s_9 (by decide) hPI
              exact ok_ret ⟨trivial, hB_s_9, hF_s_9⟩
            · have c_9 := c_9
              refine ok_ite (fun c_11 => ?_) (fun c_11 => ?_)
              · have c_11 := c_11
                exact ok_ret ⟨trivial, hB, hF⟩
              · have c_11 := c_11
                refine ok_ite (fun c_12 => ?_) (fun c_12 => ?_)
                · have c_12 := c_12
                  refine ok_ix ⟨by omega, by omega⟩ ?_
                  refine ok_lt fun v_10 e_v_10 => ?_
                  exact ok_ret ⟨trivial, hB, hF⟩
                · have c_12 := c_12
                  obtain ⟨t_13, ht_13, g_13⟩ : ∃ t : Int, (x2 + 1).toInt = t ∧ t = x2.toInt + (1 : Int32).toInt := ⟨_, rfl, by have h9 := fb_addI (x := x2) (y := (1 : Int32)) (by omega) (by omega); exact h9⟩
                  refine ok_calv (ih (x1 := v_5) (x2 := (x2 + 1)) (σ := σ) hB hPI (by omega) (by rw [ht_13]; omega) (by rw [ht_13]; omega)) (fun v_11 s_11 h_14 => ?_)
                  obtain ⟨b_v_11, hB_s_11, hG_s_11⟩ := h_14
                  (try dsimp only at b_v_11 hB_s_11 hG_s_11)
                  have hF_s_11 : FR [82, 84, 88] [] σ s_11 := FR.cal hF hG_s_11 rfl rfl
                  have hPI_s_11 : PI s_11 := PI.fr hG_s_11 (by decide) hPI
                  refine ok_calp (s_X11_isBinary (x1 := v_4) ) (fun v_12 h_15 => ?_)
                  obtain ⟨b_v_12, x_v_12⟩ := h_15
                  (try dsimp only at b_v_12 x_v_12)
                  refine ok_jn ?_
                  refine ok_ite (fun c_16 => ?_) (fun c_16 => ?_)
                  · rw [fa_eq] at c_16
                    refine ok_jn ?_
                    refine ok_jn ?_
                    have g_18 := gX_84 hB_s_11 0
                    refine ok_ite (fun c_17 => ?_) (fun c_17 => ?_)
                    · rw [fa_eq] at c_17
                      refine ok_calp (s_X11_dividesByZero (x1 := v_4) (x2 := (0 : Int32)) (by omega)) (fun v_21 h_19 => ?_)
                      have b_v_21 := h_19
                      (try dsimp only at b_v_21)
                      refine ok_ite (fun c_20 => ?_) (fun c_20 => ?_)
                      · rw [fa_eq] at c_20
                        refine ok_bz (by rw [fa_eq, fa_eq]; omega) ?_
                        refine ok_lt fun s_15 e_s_15 => ?_
                        have hB_s_15 : BX s_15 := by rw [e_s_15]; exact pX_84 hB_s_11 (by omega)
                        have hF_s_15 : FR [82, 84, 88] [] σ s_15 := by rw [e_s_15]; exact FR.st hF_s_11 (by decide)
                        have w_s_15_84 : (s_15.1 84 0).toInt = (0 : Int32).toInt := by rw [e_s_15, sti_s]
                        have hPI_s_15 : PI s_15 := by rw [e_s_15]; exact PI.st1 (by decide) hPI_s_11
                        have g_22 := gX_84 hB_s_15 0
                        refine ok_ite (fun c_21 => ?_) (fun c_21 => ?_)
                        · rw [fa_eq] at c_21
                          refine ok_calp (s_X11_outcome (x1 := v_4) (x2 := v_11) (x3 := (0 : Int32)) (by omega)) (fun v_18 h_23 => ?_)
                          have b_v_18 := h_23
                          (try dsimp only at b_v_18)
                          exact ok_ret ⟨trivial, hB_s_15, hF_s_15⟩
                        · rw [fa_eq] at c_21
                          exfalso; omega
                      · rw [fa_eq] at c_20
                        refine ok_bz (by rw [fa_eq, fa_eq]; omega) ?_
                        refine ok_lt fun s_15 e_s_15 => ?_
                        have hB_s_15 : BX s_15 := by rw [e_s_15]; exact pX_84 hB_s_11 (by omega)
                        have hF_s_15 : FR [82, 84, 88] [] σ s_15 := by rw [e_s_15]; exact FR.st hF_s_11 (by decide)
                        have w_s_15_84 : (s_15.1 84 0).toInt = (1 : Int32).toInt := by rw [e_s_15, sti_s]
                        have hPI_s_15 : PI s_15 := by rw [e_s_15]; exact PI.st1 (by decide) hPI_s_11
                        have g_25 := gX_84 hB_s_15 0
                        refine ok_ite (fun c_24 => ?_) (fun c_24 => ?_)
                        · rw [fa_eq] at c_24
                          exfalso; omega
                        · rw [fa_eq] at c_24
                          exact ok_ret ⟨trivial, hB_s_15, hF_s_15⟩
                    · rw [fa_eq] at c_17
                      refine ok_bz (by rw [fa_eq, fa_eq]; omega) ?_
                      refine ok_lt fun s_15 e_s_15 => ?_
                      have hB_s_15 : BX s_15 := by rw [e_s_15]; exact pX_84 hB_s_11 (by omega)
                      have hF_s_15 : FR [82, 84, 88] [] σ s_15 := by rw [e_s_15]; exact FR.st hF_s_11 (by decide)
                      have w_s_15_84 : (s_15.1 84 0).toInt = (1 : Int32).toInt := by rw [e_s_15, sti_s]
                      have hPI_s_15 : PI s_15 := by rw [e_s_15]; exact PI.st1 (by decide) hPI_s_11
                      have g_27 := gX_84 hB_s_15 0
                      refine ok_ite (fun c_26 => ?_) (fun c_26 => ?_)
                      · rw [fa_eq] at c_26
                        exfalso; omega
                      · rw [fa_eq] at c_26
                        exact ok_ret ⟨trivial, hB_s_15, hF_s_15⟩
                  · rw [fa_eq] at c_16
                    refine ok_ix ⟨by omega, by omega⟩ ?_
                    have g_28 := gX_49 hB_s_11 (x1.toNatClampNeg)
                    refine ok_lt fun v_24 e_v_24 => ?_
                    have b_v_24 : 0 ≤ v_24.toInt ∧ v_24.toInt ≤ 511 := by rw [e_v_24]; exact gX_49 hB_s_11 _
                    refine ok_calv (ih (x1 := v_24) (x2 := (x2 + 1)) (σ := s_11) hB_s_11 hPI_s_11 (by omega) (by rw [ht_13]; omega) (by rw [ht_13]; omega)) (fun v_25 s_25 h_29 => ?_)
                    obtain ⟨b_v_25, hB_s_25, hG_s_25⟩ := h_29
                    (try dsimp only at b_v_25 hB_s_25 hG_s_25)
                    have hF_s_25 : FR [82, 84, 88] [] σ s_25 := FR.cal hF_s_11 hG_s_25 rfl rfl
                    have hPI_s_25 : PI s_25 := PI.fr hG_s_25 (by decide) hPI_s_11
                    refine ok_jn ?_
                    refine ok_jn ?_
                    have g_31 := gX_84 hB_s_25 0
                    refine ok_ite (fun c_30 => ?_) (fun c_30 => ?_)
                    · rw [fa_eq] at c_30
                      refine ok_calp (s_X11_dividesByZero (x1 := v_4) (x2 := v_25) (by omega)) (fun v_21 h_32 => ?_)
                      have b_v_21 := h_32
                      (try dsimp only at b_v_21)
                      refine ok_ite (fun c_33 => ?_) (fun c_33 => ?_)
                      · rw [fa_eq] at c_33
                        refine ok_bz (by rw [fa_eq, fa_eq]; omega) ?_
                        refine ok_lt fun s_15 e_s_15 => ?_
                        have hB_s_15 : BX s_15 := by rw [e_s_15]; exact pX_84 hB_s_25 (by omega)
                        have hF_s_15 : FR [82, 84, 88] [] σ s_15 := by rw [e_s_15]; exact FR.st hF_s_25 (by decide)
                        have w_s_15_84 : (s_15.1 84 0).toInt = (0 : Int32).toInt := by rw [e_s_15, sti_s]
                        have hPI_s_15 : PI s_15 := by rw [e_s_15]; exact PI.st1 (by decide) hPI_s_25
                        have g_35 := gX_84 hB_s_15 0
                        refine ok_ite (fun c_34 => ?_) (fun c_34 => ?_)
                        · rw [fa_eq] at c_34
                          refine ok_calp (s_X11_outcome (x1 := v_4) (x2 := v_11) (x3 := v_25) (by omega)) (fun v_18 h_36 => ?_)
                          have b_v_18 := h_36
                          (try dsimp only at b_v_18)
                          exact ok_ret ⟨trivial, hB_s_15, hF_s_15⟩
                        · rw [fa_eq] at c_34
                          exfalso; omega
                      · rw [fa_eq] at c_33
                        refine ok_bz (by rw [fa_eq, fa_eq]; omega) ?_
                        refine ok_lt fun s_15 e_s_15 => ?_
                        have hB_s_15 : BX s_15 := by rw [e_s_15]; exact pX_84 hB_s_25 (by omega)
                        have hF_s_15 : FR [82, 84, 88] [] σ s_15 := by rw [e_s_15]; exact FR.st hF_s_25 (by decide)
                        have w_s_15_84 : (s_15.1 84 0).toInt = (1 : Int32).toInt := by rw [e_s_15, sti_s]
                        have hPI_s_15 : PI s_15 := by rw [e_s_15]; exact PI.st1 (by decide) hPI_s_25
                        have g_38 := gX_84 hB_s_15 0
                        refine ok_ite (fun c_37 => ?_) (fun c_37 => ?_)
                        · rw [fa_eq] at c_37
                          exfalso; omega
                        · rw [fa_eq] at c_37
                          exact ok_ret ⟨trivial, hB_s_15, hF_s_15⟩
                    · rw [fa_eq] at c_30
                      refine ok_bz (by rw [fa_eq, fa_eq]; omega) ?_
                      refine ok_lt fun s_15 e_s_15 => ?_
                      have hB_s_15 : BX s_15 := by rw [e_s_15]; exact pX_84 hB_s_25 (by omega)
                      have hF_s_15 : FR [82, 84, 88] [] σ s_15 := by rw [e_s_15]; exact FR.st hF_s_25 (by decide)
                      have w_s_15_84 : (s_15.1 84 0).toInt = (1 : Int32).toInt := by rw [e_s_15, sti_s]
                      have hPI_s_15 : PI s_15 := by rw [e_s_15]; exact PI.st1 (by decide) hPI_s_25
                      have g_40 := gX_84 hB_s_15 0
                      refine ok_ite (fun c_39 => ?_) (fun c_39 => ?_)
                      · rw [fa_eq] at c_39
                        exfalso; omega
                      · rw [fa_eq] at c_39
                        exact ok_ret ⟨trivial, hB_s_15, hF_s_15⟩
      · rw [fa_eq] at c_3
        exact ok_ret ⟨trivial, hB, hF⟩
theorem s_X5_value {x1 : Int32} {x2 : Int32} {σ : Sto} (hB : BX σ) (hPI : PI σ) (p_x1 : (-1) ≤ x1.toInt ∧ x1.toInt ≤ 511) (p_x2 : 0 ≤ x2.toInt ∧ x2.toInt ≤ 61) (hmu : (63 - x2.toInt).toNat ≤ 250) : OK (f_X5_value 250 x1 x2 σ) (fun r => True ∧ BX r.2 ∧ FR [82, 84, 88] [] σ r.2) := sd_X5_value 250 hB hPI p_x1 p_x2 hmu

set_option maxHeartbeats 4000000 in
theorem s_X2_whereCaught {x1 : Int32} {σ : Sto} (hB : BX σ) (hFE : FE σ) (p_x1 : 0 ≤ x1.toInt ∧ x1.toInt ≤ 39) (hc : (σ.1 26 x1.toNatClampNeg).toInt ≠ -1) : OK (f_X2_whereCaught x1 σ) (fun v => (0 ≤ v.toInt ∧ v.toInt ≤ 800)) := by
  unfold f_X2_whereCaught
  have hF : FR [] [] σ σ := FR.rf
  have k_0 : (0 : Int32).toInt = 0 := by decide +kernel
  have k_1 : (1 : Int32).toInt = 1 := by decide +kernel
  refine ok_ix ⟨by omega, by omega⟩ ?_
  have g_1 := gX_26 hB (x1.toNatClampNeg)
  refine ok_lt fun v_1 e_v_1 => ?_
  have b_v_1 : (-1) ≤ v_1.toInt ∧ v_1.toInt ≤ 39 := by rw [e_v_1]; exact gX_26 hB _
  have z1 : v_1.toInt = (σ.1 26 x1.toNatClampNeg).toInt := by rw [e_v_1]
  refine ok_calp (s_X0_edgeTo (x1 := x1) (x2 := v_1) (σ := σ) hB (by omega) (by omega) (hFE x1.toNatClampNeg (by have := clamp_I (x := x1) (by omega); omega))) (fun v_2 h_2 => ?_)
  have b_v_2 := h_2
  (try dsimp only at b_v_2)
  refine ok_ix ⟨by omega, by omega⟩ ?_
  have g_3 := gX_38 hB (v_2.toNatClampNeg)
  refine ok_lt fun v_3 e_v_3 => ?_
  have b_v_3 : 0 ≤ v_3.toInt ∧ v_3.toInt ≤ 1 := by rw [e_v_3]; exact gX_38 hB _
  refine ok_ite (fun c_4 => ?_) (fun c_4 => ?_)
  · rw [fa_eq] at c_4
    refine ok_ix ⟨by omega, by omega⟩ ?_
    have g_5 := gX_75 hB (v_1.toNatClampNeg)
    refine ok_lt fun v_5 e_v_5 => ?_
    have b_v_5 : 0 ≤ v_5.toInt ∧ v_5.toInt ≤ 799 := by rw [e_v_5]; exact gX_75 hB _
    obtain ⟨t_6, ht_6, g_6⟩ : ∃ t : Int, (v_5 + 1).toInt = t ∧ t = v_5.toInt + (1 : Int32).toInt := ⟨_, rfl, by have h9 := fb_addI (x := v_5) (y := (1 : Int32)) (by omega) (by omega); exact h9⟩
    exact ok_ret (by (try dsimp only); rw [ht_6]; omega)
  · rw [fa_eq] at c_4
    refine ok_ix ⟨by omega, by omega⟩ ?_
    have g_7 := gX_74 hB (v_1.toNatClampNeg)
    refine ok_lt fun v_6 e_v_6 => ?_
    have b_v_6 : 0 ≤ v_6.toInt ∧ v_6.toInt ≤ 799 := by rw [e_v_6]; exact gX_74 hB _
    exact ok_ret (by (try dsimp only); omega)

set_option maxHeartbeats 4000000 in
theorem s_X5_catchIn {x1 : Int32} {x2 : Int32} {σ : Sto} (hB : BX σ) (hFE : FE σ) (p_x1 : 0 ≤ x1.toInt ∧ x1.toInt ≤ 39) : OK (f_X5_catchIn x1 x2 σ) (fun r => ((-1) ≤ r.1.toInt ∧ r.1.toInt ≤ 800) ∧ BX r.2 ∧ FR [79, 84, 85, 86] [] σ r.2) := by
  unfold f_X5_catchIn
  have hF : FR [79, 84, 85, 86] [] σ σ := FR.rf
  have k_m1 : ((-1) : Int32).toInt = -1 := by decide +kernel
  have k_0 : (0 : Int32).toInt = 0 := by decide +kernel
  refine ok_ix ⟨by omega, by omega⟩ ?_
  have g_1 := gX_26 hB (x1.toNatClampNeg)
  refine ok_lt fun v_1 e_v_1 => ?_
  have b_v_1 : (-1) ≤ v_1.toInt ∧ v_1.toInt ≤ 39 := by rw [e_v_1]; exact gX_26 hB _
  refine ok_ite (fun c_2 => ?_) (fun c_2 => ?_)
  · rw [fa_eq] at c_2
    refine ok_cals (s_X5_throwOut (x1 := x2) (σ := σ) hB) (fun s_3 h_3 => ?_)
    obtain ⟨hB_s_3, hG_s_3⟩ := h_3
    (try dsimp only at hB_s_3 hG_s_3)
    have hF_s_3 : FR [79, 84, 85, 86] [] σ s_3 := FR.cal hF hG_s_3 rfl rfl
    have hFE_s_3 : FE s_3 := FE.fr hG_s_3 (by decide) hFE
    exact ok_ret ⟨(by (try dsimp only); omega), hB_s_3, hF_s_3⟩
  · rw [fa_eq] at c_2
    refine ok_lt fun s_4 e_s_4 => ?_
    have hB_s_4 : BX s_4 := by rw [e_s_4]; exact pX_84 hB (by omega)
    have hF_s_4 : FR [79, 84, 85, 86] [] σ s_4 := by rw [e_s_4]; exact FR.st hF (by decide)
    have hFE_s_4 : FE s_4 := by rw [e_s_4]; exact FE.st1 (by decide) hFE
    refine ok_ix ⟨by omega, by omega⟩ ?_
    refine ok_lt fun s_5 e_s_5 => ?_
    have hB_s_5 : BX s_5 := by rw [e_s_5]; exact pX_79 hB_s_4 (tI_rng _)
    have hF_s_5 : FR [79, 84, 85, 86] [] σ s_5 := by rw [e_s_5]; exact FR.st hF_s_4 (by decide)
    have hFE_s_5 : FE s_5 := by rw [e_s_5]; exact FE.st1 (by decide) hFE_s_4
    refine ok_calp (s_X2_whereCaught (x1 := x1) (σ := s_5) hB_s_5 hFE_s_5 (by omega) (by rw [hF_s_5.1 26 (by decide), ← e_v_1]; omega)) (fun v_6 h_4 => ?_)
    have b_v_6 := h_4
    (try dsimp only at b_v_6)
    exact ok_ret ⟨(by (try dsimp only); omega), hB_s_5, hF_s_5⟩

set_option maxHeartbeats 4000000 in
theorem s_X5_perform {x1 : Int32} {x2 : Int32} {x3 : Int32} {σ : Sto} (hB : BX σ) (hPI : PI σ) (hSI : SI σ) (hFE : FE σ) (p_x1 : 0 ≤ x1.toInt ∧ x1.toInt ≤ 319) (p_x2 : 0 ≤ x2.toInt ∧ x2.toInt ≤ 39) (p_x3 : 0 ≤ x3.toInt ∧ x3.toInt ≤ 799) : OK (f_X5_perform x1 x2 x3 σ) (fun r => ((-1) ≤ r.1.toInt ∧ r.1.toInt ≤ 800) ∧ BX r.2 ∧ FR [78, 79, 80, 82, 84, 85, 86, 88, 89, 90, 92] [] σ r.2) := by
  unfold f_X5_perform
  have hF : FR [78, 79, 80, 82, 84, 85, 86, 88, 89, 90, 92] [] σ σ := FR.rf
  have k_m1 : ((-1) : Int32).toInt = -1 := by decide +kernel
  have k_0 : (0 : Int32).toInt = 0 := by decide +kernel
  have k_1 : (1 : Int32).toInt = 1 := by decide +kernel
  have k_2 : (2 : Int32).toInt = 2 := by decide +kernel
  have k_3 : (3 : Int32).toInt = 3 := by decide +kernel
  have k_5 : (5 : Int32).toInt = 5 := by decide +kernel
  have k_6 : (6 : Int32).toInt = 6 := by decide +kernel
  have k_99 : (99 : Int32).toInt = 99 := by decide +kernel
  refine ok_ix ⟨by omega, by omega⟩ ?_
  have g_1 := gX_53 hB (x1.toNatClampNeg)
  refine ok_lt fun v_1 e_v_1 => ?_
  have b_v_1 : 0 ≤ v_1.toInt ∧ v_1.toInt ≤ 6 := by rw [e_v_1]; exact gX_53 hB _
  refine ok_ite (fun c_2 => ?_) (fun c_2 => ?_)
  · rw [fa_eq] at c_2
    exact ok_ret ⟨(by (try dsimp only); omega), hB, hF⟩
  · rw [fa_eq] at c_2
    refine ok_ix ⟨by omega, by omega⟩ ?_
    have g_3 := gX_55 hB (x1.toNatClampNeg)
    refine ok_lt fun v_3 e_v_3 => ?_
    have b_v_3 : (-1) ≤ v_3.toInt ∧ v_3.toInt ≤ 511 := by rw [e_v_3]; exact gX_55 hB _
    refine ok_calv (s_X5_value (x1 := v_3) (x2 := (0 : Int32)) (σ := σ) hB hPI (by omega) (by omega) (by omega)) (fun v_4 s_4 h_4 => ?_)
    obtain ⟨b_v_4, hB_s_4, hG_s_4⟩ := h_4
    (try dsimp only at b_v_4 hB_s_4 hG_s_4)
    have hF_s_4 : FR [78, 79, 80, 82, 84, 85, 86, 88, 89, 90, 92] [] σ s_4 := FR.cal hF hG_s_4 rfl rfl
    have hPI_s_4 : PI s_4 := PI.fr hG_s_4 (by decide) hPI
    have hSI_s_4 : SI s_4 := SI.fr hG_s_4 (by decide) hSI
    have hFE_s_4 : FE s_4 := FE.fr hG_s_4 (by decide) hFE
    refine ok_jn ?_
    have g_6 := gX_84 hB_s_4 0
    refine ok_ite (fun c_5 => ?_) (fun c_5 => ?_)
    · rw [fa_eq] at c_5
      refine ok_ite (fun c_7 => ?_) (fun c_7 => ?_)
      · rw [fa_eq] at c_7
        refine ok_ite (fun c_8 => ?_) (fun c_8 => ?_)
        · rw [fa_eq] at c_8
          refine ok_calv (s_X5_catchIn (x1 := x2) (x2 := v_4) (σ := s_4) hB_s_4 hFE_s_4 (by omega)) (fun v_7 s_7 h_9 => ?_)
          obtain ⟨b_v_7, hB_s_7, hG_s_7⟩ := h_9
          (try dsimp only at b_v_7 hB_s_7 hG_s_7)
          have hF_s_7 : FR [78, 79, 80, 82, 84, 85, 86, 88, 89, 90, 92] [] σ s_7 := FR.cal hF_s_4 hG_s_7 rfl rfl
          have hPI_s_7 : PI s_7 := PI.fr hG_s_7 (by decide) hPI_s_4
          have hSI_s_7 : SI s_7 := SI.fr hG_s_7 (by decide) hSI_s_4
          have hFE_s_7 : FE s_7 := FE.fr hG_s_7 (by decide) hFE_s_4
          exact ok_ret ⟨(by (try dsimp only); omega), hB_s_7, hF_s_7⟩
        · rw [fa_eq] at c_8
          exfalso; omega
      · rw [fa_eq] at c_7
        refine ok_ix ⟨by omega, by omega⟩ ?_
        have g_10 := gX_54 hB_s_4 (x1.toNatClampNeg)
        refine ok_lt fun v_11 e_v_11 => ?_
        have b_v_11 : (-1) ≤ v_11.toInt ∧ v_11.toInt ≤ 160 := by rw [e_v_11]; exact gX_54 hB_s_4 _
        have z1 : v_11.toInt = (σ.1 54 x1.toNatClampNeg).toInt := by rw [e_v_11, hF_s_4.1 54 (by decide)]
        have y1 : v_1.toInt = 0 → 0 ≤ v_11.toInt ∧ v_11.toInt ≤ 5 := by rw [e_v_1, z1]; exact (hSI _).1
        have y2 : v_1.toInt = 1 → 0 ≤ v_11.toInt ∧ v_11.toInt ≤ 5 := by rw [e_v_1, z1]; exact (hSI _).2.1
        have y3 : v_1.toInt = 2 → 0 ≤ v_11.toInt := by rw [e_v_1, z1]; exact (hSI _).2.2.1
        refine ok_jn ?_
        refine ok_ite (fun c_11 => ?_) (fun c_11 => ?_)
        · have c_11 := c_11
          refine ok_ix ⟨by omega, by omega⟩ ?_
          refine ok_lt fun s_14 e_s_14 => ?_
          have hB_s_14 : BX s_14 := by rw [e_s_14]; exact pX_78 hB_s_4 (tI_rng _)
          have hF_s_14 : FR [78, 79, 80, 82, 84, 85, 86, 88, 89, 90, 92] [] σ s_14 := by rw [e_s_14]; exact FR.st hF_s_4 (by decide)
          have w_s_14_84 : (s_14.1 84 0).toInt = (s_4.1 84 0).toInt := by rw [e_s_14]; rfl
          have hPI_s_14 : PI s_14 := by rw [e_s_14]; exact PI.st1 (by decide) hPI_s_4
          have hSI_s_14 : SI s_14 := by rw [e_s_14]; exact SI.st1 (by decide) hSI_s_4
          have hFE_s_14 : FE s_14 := by rw [e_s_14]; exact FE.st1 (by decide) hFE_s_4
          obtain ⟨t_12, ht_12, g_12⟩ : ∃ t : Int, (x3 + 1).toInt = t ∧ t = x3.toInt + (1 : Int32).toInt := ⟨_, rfl, by have h9 := fb_addI (x := x3) (y := (1 : Int32)) (by omega) (by omega); exact h9⟩
          exact ok_ret ⟨(by (try dsimp only); rw [ht_12]; omega), hB_s_14, hF_s_14⟩
        · have c_11 := c_11
          refine ok_ite (fun c_13 => ?_) (fun c_13 => ?_)
          · have c_13 := c_13
            refine ok_ix ⟨by omega, by omega⟩ ?_
            refine ok_lt fun s_15 e_s_15 => ?_
            have hB_s_15 : BX s_15 := by rw [e_s_15]; exact pX_79 hB_s_4 (tI_rng _)
            have hF_s_15 : FR [78, 79, 80, 82, 84, 85, 86, 88, 89, 90, 92] [] σ s_15 := by rw [e_s_15]; exact FR.st hF_s_4 (by decide)
            have w_s_15_84 : (s_15.1 84 0).toInt = (s_4.1 84 0).toInt := by rw [e_s_15]; rfl
            have hPI_s_15 : PI s_15 := by rw [e_s_15]; exact PI.st1 (by decide) hPI_s_4
            have hSI_s_15 : SI s_15 := by rw [e_s_15]; exact SI.st1 (by decide) hSI_s_4
            have hFE_s_15 : FE s_15 := by rw [e_s_15]; exact FE.st1 (by decide) hFE_s_4
            obtain ⟨t_14, ht_14, g_14⟩ : ∃ t : Int, (x3 + 1).toInt = t ∧ t = x3.toInt + (1 : Int32).toInt := ⟨_, rfl, by have h9 := fb_addI (x := x3) (y := (1 : Int32)) (by omega) (by omega); exact h9⟩
            exact ok_ret ⟨(by (try dsimp only); rw [ht_14]; omega), hB_s_15, hF_s_15⟩
          · have c_13 := c_13
            refine ok_ite (fun c_15 => ?_) (fun c_15 => ?_)
            · have c_15 := c_15
              refine ok_ix ⟨by omega, by omega⟩ ?_
              refine ok_lt fun s_16 e_s_16 => ?_
              have hB_s_16 : BX s_16 := by rw [e_s_16]; exact pX_80 hB_s_4 (tI_rng _)
              have hF_s_16 : FR [78, 79, 80, 82, 84, 85, 86, 88, 89, 90, 92] [] σ s_16 := by rw [e_s_16]; exact FR.st hF_s_4 (by decide)
              have w_s_16_84 : (s_16.1 84 0).toInt = (s_4.1 84 0).toInt := by rw [e_s_16]; rfl
              have hPI_s_16 : PI s_16 := by rw [e_s_16]; exact PI.st1 (by decide) hPI_s_4
              have hSI_s_16 : SI s_16 := by rw [e_s_16]; exact SI.st1 (by decide) hSI_s_4
              have hFE_s_16 : FE s_16 := by rw [e_s_16]; exact FE.st1 (by decide) hFE_s_4
              obtain ⟨t_16, ht_16, g_16⟩ : ∃ t : Int, (x3 + 1).toInt = t ∧ t = x3.toInt + (1 : Int32).toInt := ⟨_, rfl, by have h9 := fb_addI (x := x3) (y := (1 : Int32)) (by omega) (by omega); exact h9⟩
              exact ok_ret ⟨(by (try dsimp only); rw [ht_16]; omega), hB_s_16, hF_s_16⟩
            · have c_15 := c_15
              refine ok_ite (fun c_17 => ?_) (fun c_17 => ?_)
              · have c_17 := c_17
                refine ok_cals (s_X5_tellOut (x1 := v_4) (σ := s_4) hB_s_4) (fun s_17 h_18 => ?_)
                obtain ⟨hB_s_17, hG_s_17⟩ := h_18
                (try dsimp only at hB_s_17 hG_s_17)
                have hF_s_17 : FR [78, 79, 80, 82, 84, 85, 86, 88, 89, 90, 92] [] σ s_17 := FR.cal hF_s_4 hG_s_17 rfl rfl
                have w_s_17_84 : (s_17.1 84 0).toInt = (s_4.1 84 0).toInt := by rw [hG_s_17.1 84 (by decide)]
                have hPI_s_17 : PI s_17 := PI.fr hG_s_17 (by decide) hPI_s_4
                have hSI_s_17 : SI s_17 := SI.fr hG_s_17 (by decide) hSI_s_4
                have hFE_s_17 : FE s_17 := FE.fr hG_s_17 (by decide) hFE_s_4
                obtain ⟨t_19, ht_19, g_19⟩ : ∃ t : Int, (x3 + 1).toInt = t ∧ t = x3.toInt + (1 : Int32).toInt := ⟨_, rfl, by have h9 := fb_addI (x := x3) (y := (1 : Int32)) (by omega) (by omega); exact h9⟩
                exact ok_ret ⟨(by (try dsimp only); rw [ht_19]; omega), hB_s_17, hF_s_17⟩
              · have c_17 := c_17
                obtain ⟨t_20, ht_20, g_20⟩ : ∃ t : Int, (x3 + 1).toInt = t ∧ t = x3.toInt + (1 : Int32).toInt := ⟨_, rfl, by have h9 := fb_addI (x := x3) (y := (1 : Int32)) (by omega) (by omega); exact h9⟩
                exact ok_ret ⟨(by (try dsimp only); rw [ht_20]; omega), hB_s_4, hF_s_4⟩
    · rw [fa_eq] at c_5
      refine ok_ite (fun c_21 => ?_) (fun c_21 => ?_)
      · rw [fa_eq] at c_21
        exfalso; omega
      · rw [fa_eq] at c_21
        refine ok_calv (s_X5_catchIn (x1 := x2) (x2 := (99 : Int32)) (σ := s_4) hB_s_4 hFE_s_4 (by omega)) (fun v_8 s_8 h_22 => ?_)
        obtain ⟨b_v_8, hB_s_8, hG_s_8⟩ := h_22
        (try dsimp only at b_v_8 hB_s_8 hG_s_8)
        have hF_s_8 : FR [78, 79, 80, 82, 84, 85, 86, 88, 89, 90, 92] [] σ s_8 := FR.cal hF_s_4 hG_s_8 rfl rfl
        have hPI_s_8 : PI s_8 := PI.fr hG_s_8 (by decide) hPI_s_4
        have hSI_s_8 : SI s_8 := SI.fr hG_s_8 (by decide) hSI_s_4
        have hFE_s_8 : FE s_8 := FE.fr hG_s_8 (by decide) hFE_s_4
        exact ok_ret ⟨(by (try dsimp only); omega), hB_s_8, hF_s_8⟩

set_option maxHeartbeats 4000000 in
theorem s_X5_follow {x1 : Int32} {σ : Sto} (hB : BX σ) (hPI : PI σ) (hSI : SI σ) (hLI : LI σ) (hFE : FE σ) (p_x1 : 0 ≤ x1.toInt ∧ x1.toInt ≤ 799) : OK (f_X5_follow x1 σ) (fun r => ((-1) ≤ r.1.toInt ∧ r.1.toInt ≤ 800) ∧ BX r.2 ∧ FR [78, 79, 80, 82, 84, 85, 86, 88, 89, 90, 92] [] σ r.2) := by
  unfold f_X5_follow
  have hF : FR [78, 79, 80, 82, 84, 85, 86, 88, 89, 90, 92] [] σ σ := FR.rf
  have k_0 : (0 : Int32).toInt = 0 := by decide +kernel
  have k_1 : (1 : Int32).toInt = 1 := by decide +kernel
  have k_3 : (3 : Int32).toInt = 3 := by decide +kernel
  have k_4 : (4 : Int32).toInt = 4 := by decide +kernel
  have k_6 : (6 : Int32).toInt = 6 := by decide +kernel
  have k_7 : (7 : Int32).toInt = 7 := by decide +kernel
  have k_8 : (8 : Int32).toInt = 8 := by decide +kernel
  refine ok_ix ⟨by omega, by omega⟩ ?_
  have g_1 := gX_70 hB (x1.toNatClampNeg)
  refine ok_lt fun v_1 e_v_1 => ?_
  have b_v_1 : 0 ≤ v_1.toInt ∧ v_1.toInt ≤ 39 := by rw [e_v_1]; exact gX_70 hB _
  refine ok_ix ⟨by omega, by omega⟩ ?_
  have g_2 := gX_69 hB (x1.toNatClampNeg)
  refine ok_lt fun v_2 e_v_2 => ?_
  have b_v_2 : 0 ≤ v_2.toInt ∧ v_2.toInt ≤ 12 := by rw [e_v_2]; exact gX_69 hB _
  refine ok_ite (fun c_3 => ?_) (fun c_3 => ?_)
  · have c_3 := c_3
    refine ok_ix ⟨by omega, by omega⟩ ?_
    have g_4 := gX_72 hB (x1.toNatClampNeg)
    refine ok_lt fun v_4 e_v_4 => ?_
    have b_v_4 : (-1) ≤ v_4.toInt ∧ v_4.toInt ≤ 799 := by rw [e_v_4]; exact gX_72 hB _
    have q_v_4 : v_4.toInt = (σ.1 72 x1.toNatClampNeg).toInt := by rw [e_v_4]
    have y1 : 0 ≤ v_4.toInt ∧ v_4.toInt ≤ 319 := by rw [e_v_4]; exact hLI _ (by rw [← e_v_2]; omega)
    refine ok_calv (s_X5_perform (x1 := v_4) (x2 := v_1) (x3 := x1) (σ := σ) hB hPI hSI hFE (by omega) (by omega) (by omega)) (fun v_5 s_5 h_5 => ?_)
    obtain ⟨b_v_5, hB_s_5, hG_s_5⟩ := h_5
    (try dsimp only at b_v_5 hB_s_5 hG_s_5)
    have hF_s_5 : FR [78, 79, 80, 82, 84, 85, 86, 88, 89, 90, 92] [] σ s_5 := FR.cal hF hG_s_5 rfl rfl
    have hPI_s_5 : PI s_5 := PI.fr hG_s_5 (by decide) hPI
    have hSI_s_5 : SI s_5 := SI.fr hG_s_5 (by decide) hSI
    have hLI_s_5 : LI s_5 := LI.fr hG_s_5 (by decide) hLI
    have hFE_s_5 : FE s_5 := FE.fr hG_s_5 (by decide) hFE
    exact ok_ret ⟨(by (try dsimp only); omega), hB_s_5, hF_s_5⟩
  · have c_3 := c_3
    refine ok_ite (fun c_6 => ?_) (fun c_6 => ?_)
    · have c_6 := c_6
      refine ok_ix ⟨by omega, by omega⟩ ?_
      have g_7 := gX_57 hB (v_1.toNatClampNeg)
      refine ok_lt fun v_6 e_v_6 => ?_
      have b_v_6 : (-1) ≤ v_6.toInt ∧ v_6.toInt ≤ 511 := by rw [e_v_6]; exact gX_57 hB _
      refine ok_calv (s_X5_value (x1 := v_6) (x2 := (0 : Int32)) (σ := σ) hB hPI (by omega) (by omega) (by omega)) (fun v_7 s_7 h_8 => ?_)
      obtain ⟨b_v_7, hB_s_7, hG_s_7⟩ := h_8
      (try dsimp only at b_v_7 hB_s_7 hG_s_7)
      have hF_s_7 : FR [78, 79, 80, 82, 84, 85, 86, 88, 89, 90, 92] [] σ s_7 := FR.cal hF hG_s_7 rfl rfl
      have hPI_s_7 : PI s_7 := PI.fr hG_s_7 (by decide) hPI
      have hSI_s_7 : SI s_7 := SI.fr hG_s_7 (by decide) hSI
      have hLI_s_7 : LI s_7 := LI.fr hG_s_7 (by decide) hLI
      have hFE_s_7 : FE s_7 := FE.fr hG_s_7 (by decide) hFE
      refine ok_ite (fun c_9 => ?_) (fun c_9 => ?_)
      · rw [fa_eq] at c_9
        refine ok_ix ⟨by omega, by omega⟩ ?_
        have g_10 := gX_72 hB_s_7 (x1.toNatClampNeg)
        refine ok_lt fun v_9 e_v_9 => ?_
        have b_v_9 : (-1) ≤ v_9.toInt ∧ v_9.toInt ≤ 799 := by rw [e_v_9]; exact gX_72 hB_s_7 _
        have q_v_9 : v_9.toInt = (σ.1 72 (x1.toNatClampNeg)).toInt := by rw [e_v_9, hF_s_7.1 72 (by decide)]
        obtain ⟨t_11, ht_11, g_11⟩ : ∃ t : Int, (v_9 + 1).toInt = t ∧ t = v_9.toInt + (1 : Int32).toInt := ⟨_, rfl, by have h9 := fb_addI (x := v_9) (y := (1 : Int32)) (by omega) (by omega); exact h9⟩
        exact ok_ret ⟨(by (try dsimp only); rw [ht_11]; omega), hB_s_7, hF_s_7⟩
      · rw [fa_eq] at c_9
        obtain ⟨t_12, ht_12, g_12⟩ : ∃ t : Int, (x1 + 1).toInt = t ∧ t = x1.toInt + (1 : Int32).toInt := ⟨_, rfl, by have h9 := fb_addI (x := x1) (y := (1 : Int32)) (by omega) (by omega); exact h9⟩
        exact ok_ret ⟨(by (try dsimp only); rw [ht_12]; omega), hB_s_7, hF_s_7⟩
    · have c_6 := c_6
      refine ok_ite (fun c_13 => ?_) (fun c_13 => ?_)
      · have c_13 := c_13
        refine ok_ix ⟨by omega, by omega⟩ ?_
        have g_14 := gX_72 hB (x1.toNatClampNeg)
        refine ok_lt fun v_10 e_v_10 => ?_
        have b_v_10 : (-1) ≤ v_10.toInt ∧ v_10.toInt ≤ 799 := by rw [e_v_10]; exact gX_72 hB _
        have q_v_10 : v_10.toInt = (σ.1 72 x1.toNatClampNeg).toInt := by rw [e_v_10]
        obtain ⟨t_15, ht_15, g_15⟩ : ∃ t : Int, (v_10 + 1).toInt = t ∧ t = v_10.toInt + (1 : Int32).toInt := ⟨_, rfl, by have h9 := fb_addI (x := v_10) (y := (1 : Int32)) (by omega) (by omega); exact h9⟩
        exact ok_ret ⟨(by (try dsimp only); rw [ht_15]; omega), hB, hF⟩
      · have c_13 := c_13
        refine ok_ite (fun c_16 => ?_) (fun c_16 => ?_)
        · have c_16 := c_16
          refine ok_ix ⟨by omega, by omega⟩ ?_
          have g_17 := gX_75 hB (v_1.toNatClampNeg)
          refine ok_lt fun v_11 e_v_11 => ?_
          have b_v_11 : 0 ≤ v_11.toInt ∧ v_11.toInt ≤ 799 := by rw [e_v_11]; exact gX_75 hB _
          obtain ⟨t_18, ht_18, g_18⟩ : ∃ t : Int, (v_11 + 1).toInt = t ∧ t = v_11.toInt + (1 : Int32).toInt := ⟨_, rfl, by have h9 := fb_addI (x := v_11) (y := (1 : Int32)) (by omega) (by omega); exact h9⟩
          exact ok_ret ⟨(by (try dsimp only); rw [ht_18]; omega), hB, hF⟩
        · have c_16 := c_16
          refine ok_ite (fun c_19 => ?_) (fun c_19 => ?_)
          · have c_19 := c_19
            refine ok_ix ⟨by omega, by omega⟩ ?_
            have g_20 := gX_74 hB (v_1.toNatClampNeg)
            refine ok_lt fun v_12 e_v_12 => ?_
            have b_v_12 : 0 ≤ v_12.toInt ∧ v_12.toInt ≤ 799 := by rw [e_v_12]; exact gX_74 hB _
            exact ok_ret ⟨(by (try dsimp only); omega), hB, hF⟩
          · have c_19 := c_19
            refine ok_ite (fun c_21 => ?_) (fun c_21 => ?_)
            · have c_21 := c_21
              refine ok_ix ⟨by omega, by omega⟩ ?_
              have g_22 := gX_73 hB (v_1.toNatClampNeg)
              refine ok_lt fun v_13 e_v_13 => ?_
              have b_v_13 : 0 ≤ v_13.toInt ∧ v_13.toInt ≤ 799 := by rw [e_v_13]; exact gX_73 hB _
              exact ok_ret ⟨(by (try dsimp only); omega), hB, hF⟩
            · have c_21 := c_21
              obtain ⟨t_23, ht_23, g_23⟩ : ∃ t : Int, (x1 + 1).toInt = t ∧ t = x1.toInt + (1 : Int32).toInt := ⟨_, rfl, by have h9 := fb_addI (x := x1) (y := (1 : Int32)) (by omega) (by omega); exact h9⟩
              exact ok_ret ⟨(by (try dsimp only); rw [ht_23]; omega), hB, hF⟩

set_option maxHeartbeats 4000000 in
theorem s_X5_goThroughLines {σ : Sto} (hB : BX σ) (hPI : PI σ) (hSI : SI σ) (hLI : LI σ) (hFE : FE σ) : OK (f_X5_goThroughLines σ) (fun s => BX s ∧ FR [78, 79, 80, 82, 84, 85, 86, 87, 88, 89, 90, 92] [] σ s) := by
  unfold f_X5_goThroughLines
  have hF : FR [78, 79, 80, 82, 84, 85, 86, 87, 88, 89, 90, 92] [] σ σ := FR.rf
  have k_0 : (0 : Int32).toInt = 0 := by decide +kernel
  have k_1 : (1 : Int32).toInt = 1 := by decide +kernel
  have k_11 : (11 : Int32).toInt = 11 := by decide +kernel
  have k_1000000 : (1000000 : Int32).toInt = 1000000 := by decide +kernel
  refine ok_itr3 (fun (n : Nat) (x1_1 : Int32) (x2_1 : Int32) (s_1 : Sto) => n = (1000001 - x2_1.toInt).toNat ∧ ((-1) ≤ x1_1.toInt ∧ x1_1.toInt ≤ 800) ∧ (0 ≤ x2_1.toInt ∧ x2_1.toInt ≤ 1000000) ∧ (BX s_1) ∧ (FR [78, 79, 80, 82, 84, 85, 86, 87, 88, 89, 90, 92] [] σ s_1) ∧ (PI s_1) ∧ (SI s_1) ∧ (LI s_1) ∧ (FE s_1)) ?_ (n := _) ⟨rfl, (by omega), (by omega), hB, hF, hPI, hSI, hLI, hFE⟩ (show _ < 10000000 by omega)
  intro a_4 n x1_1 x2_1 s_1 hI ih_a_4
  obtain ⟨hn_a_4, b_x1_1, b_x2_1, hB_s_1, hF_s_1, hPI_s_1, hSI_s_1, hLI_s_1, hFE_s_1⟩ := hI
  refine ok_ite (fun c_1 => ?_) (fun c_1 => ?_)
  · rw [fa_le] at c_1
    exact ok_ret ⟨hB_s_1, hF_s_1⟩
  · rw [fa_le] at c_1
    refine ok_ite (fun c_2 => ?_) (fun c_2 => ?_)
    · rw [fa_lt] at c_2
      exact ok_ret ⟨hB_s_1, hF_s_1⟩
    · rw [fa_lt] at c_2
      have g_4 := gX_68 hB_s_1 0
      have g_5 : (s_1.1 68 0).toInt = (σ.1 68 0).toInt := by rw [hF_s_1.1 68 (by decide)]
      have g_6 := gX_68 hB 0
      refine ok_ite (fun c_3 => ?_) (fun c_3 => ?_)
      · rw [fa_le] at c_3
        exact ok_ret ⟨hB_s_1, hF_s_1⟩
      · rw [fa_le] at c_3
        refine ok_ix ⟨by omega, by omega⟩ ?_
        have g_7 := gX_69 hB_s_1 (x1_1.toNatClampNeg)
        refine ok_lt fun v_5 e_v_5 => ?_
        have b_v_5 : 0 ≤ v_5.toInt ∧ v_5.toInt ≤ 12 := by rw [e_v_5]; exact gX_69 hB_s_1 _
        refine ok_jn ?_
        refine ok_ite (fun c_8 => ?_) (fun c_8 => ?_)
        · rw [fa_eq] at c_8
          refine ok_calv (s_X5_enter  (σ := s_1) hB_s_1) (fun v_10 s_10 h_9 => ?_)
          obtain ⟨b_v_10, hB_s_10, hG_s_10⟩ := h_9
          (try dsimp only at b_v_10 hB_s_10 hG_s_10)
          have hF_s_10 : FR [78, 79, 80, 82, 84, 85, 86, 87, 88, 89, 90, 92] [] σ s_10 := FR.cal hF_s_1 hG_s_10 rfl rfl
          have hPI_s_10 : PI s_10 := PI.fr hG_s_10 (by decide) hPI_s_1
          have hSI_s_10 : SI s_10 := SI.fr hG_s_10 (by decide) hSI_s_1
          have hLI_s_10 : LI s_10 := LI.fr hG_s_10 (by decide) hLI_s_1
          have hFE_s_10 : FE s_10 := FE.fr hG_s_10 (by decide) hFE_s_1
          refine ok_ite (fun c_10 => ?_) (fun c_10 => ?_)
          · rw [fa_eq] at c_10
            exact ok_ret ⟨hB_s_10, hF_s_10⟩
          · rw [fa_eq] at c_10
            refine ok_calv (s_X5_follow (x1 := x1_1) (σ := s_10) hB_s_10 hPI_s_10 hSI_s_10 hLI_s_10 hFE_s_10 (by omega)) (fun v_7 s_7 h_11 => ?_)
            obtain ⟨b_v_7, hB_s_7, hG_s_7⟩ := h_11
            (try dsimp only at b_v_7 hB_s_7 hG_s_7)
            have hF_s_7 : FR [78, 79, 80, 82, 84, 85, 86, 87, 88, 89, 90, 92] [] σ s_7 := FR.cal hF_s_10 hG_s_7 rfl rfl
            have hPI_s_7 : PI s_7 := PI.fr hG_s_7 (by decide) hPI_s_10
            have hSI_s_7 : SI s_7 := SI.fr hG_s_7 (by decide) hSI_s_10
            have hLI_s_7 : LI s_7 := LI.fr hG_s_7 (by decide) hLI_s_10
            have hFE_s_7 : FE s_7 := FE.fr hG_s_7 (by decide) hFE_s_10
            obtain ⟨t_12, ht_12, g_12⟩ : ∃ t : Int, (x2_1 + 1).toInt = t ∧ t = x2_1.toInt + (1 : Int32).toInt := ⟨_, rfl, by have h9 := fb_addI (x := x2_1) (y := (1 : Int32)) (by omega) (by omega); exact h9⟩
            refine ok_lt fun x2_8 e_x2_8 => ?_
            have q_x2_8 : x2_8.toInt = t_12 := by rw [e_x2_8]; exact ht_12
            exact ih_a_4 _ v_7 x2_8 s_7 (by rw [hn_a_4]; omega) ⟨rfl, (by omega), (by omega), hB_s_7, hF_s_7, hPI_s_7, hSI_s_7, hLI_s_7, hFE_s_7⟩
        · rw [fa_eq] at c_8
          refine ok_calv (s_X5_follow (x1 := x1_1) (σ := s_1) hB_s_1 hPI_s_1 hSI_s_1 hLI_s_1 hFE_s_1 (by omega)) (fun v_7 s_7 h_13 => ?_)
          obtain ⟨b_v_7, hB_s_7, hG_s_7⟩ := h_13
          (try dsimp only at b_v_7 hB_s_7 hG_s_7)
          have hF_s_7 : FR [78, 79, 80, 82, 84, 85, 86, 87, 88, 89, 90, 92] [] σ s_7 := FR.cal hF_s_1 hG_s_7 rfl rfl
          have hPI_s_7 : PI s_7 := PI.fr hG_s_7 (by decide) hPI_s_1
          have hSI_s_7 : SI s_7 := SI.fr hG_s_7 (by decide) hSI_s_1
          have hLI_s_7 : LI s_7 := LI.fr hG_s_7 (by decide) hLI_s_1
          have hFE_s_7 : FE s_7 := FE.fr hG_s_7 (by decide) hFE_s_1
          obtain ⟨t_14, ht_14, g_14⟩ : ∃ t : Int, (x2_1 + 1).toInt = t ∧ t = x2_1.toInt + (1 : Int32).toInt := ⟨_, rfl, by have h9 := fb_addI (x := x2_1) (y := (1 : Int32)) (by omega) (by omega); exact h9⟩
          refine ok_lt fun x2_8 e_x2_8 => ?_
          have q_x2_8 : x2_8.toInt = t_14 := by rw [e_x2_8]; exact ht_14
          exact ih_a_4 _ v_7 x2_8 s_7 (by rw [hn_a_4]; omega) ⟨rfl, (by omega), (by omega), hB_s_7, hF_s_7, hPI_s_7, hSI_s_7, hLI_s_7, hFE_s_7⟩

set_option maxHeartbeats 4000000 in
theorem s_X11_goThrough {x1 : Int32} {σ : Sto} (hB : BX σ) (hPI : PI σ) (hSI : SI σ) (hLI : LI σ) (hLV : LV σ) (hFE : FE σ) (h4 : 1 ≤ (σ.1 4 0).toInt) : OK (f_X11_goThrough x1 σ) (fun s => BX s ∧ FR [78, 79, 80, 81, 82, 84, 85, 86, 87, 88, 89, 90, 92] [] σ s) := by
  unfold f_X11_goThrough
  have hF : FR [78, 79, 80, 81, 82, 84, 85, 86, 87, 88, 89, 90, 92] [] σ σ := FR.rf
  have k_0 : (0 : Int32).toInt = 0 := by decide +kernel
  refine ok_ite (fun c_1 => ?_) (fun c_1 => ?_)
  · rw [fa_eq] at c_1
    refine ok_cals (s_X5_goThroughCode  (σ := σ) hB hLV (by omega)) (fun s_2 h_2 => ?_)
    obtain ⟨hB_s_2, hG_s_2⟩ := h_2
    (try dsimp only at hB_s_2 hG_s_2)
    have hF_s_2 : FR [78, 79, 80, 81, 82, 84, 85, 86, 87, 88, 89, 90, 92] [] σ s_2 := FR.cal hF hG_s_2 rfl rfl
    have hPI_s_2 : PI s_2 := PI.fr hG_s_2 (by decide) hPI
    have hSI_s_2 : SI s_2 := SI.fr hG_s_2 (by decide) hSI
    have hLI_s_2 : LI s_2 := LI.fr hG_s_2 (by decide) hLI
    have hLV_s_2 : LV s_2 := LV.fr hG_s_2 (by decide) hLV
    have hFE_s_2 : FE s_2 := FE.fr hG_s_2 (by decide) hFE
    exact ok_ret ⟨hB_s_2, hF_s_2⟩
  · rw [fa_eq] at c_1
    refine ok_cals (s_X5_goThroughLines  (σ := σ) hB hPI hSI hLI hFE) (fun s_3 h_3 => ?_)
    obtain ⟨hB_s_3, hG_s_3⟩ := h_3
    (try dsimp only at hB_s_3 hG_s_3)
    have hF_s_3 : FR [78, 79, 80, 81, 82, 84, 85, 86, 87, 88, 89, 90, 92] [] σ s_3 := FR.cal hF hG_s_3 rfl rfl
    have hPI_s_3 : PI s_3 := PI.fr hG_s_3 (by decide) hPI
    have hSI_s_3 : SI s_3 := SI.fr hG_s_3 (by decide) hSI
    have hLI_s_3 : LI s_3 := LI.fr hG_s_3 (by decide) hLI
    have hLV_s_3 : LV s_3 := LV.fr hG_s_3 (by decide) hLV
    have hFE_s_3 : FE s_3 := FE.fr hG_s_3 (by decide) hFE
    exact ok_ret ⟨hB_s_3, hF_s_3⟩

set_option maxHeartbeats 4000000 in
theorem s_X11_run {x1 : Int32} {x2 : Int32} {x3 : Int32} {x4 : Int32} {x5 : Int32} {x6 : Int32} {σ : Sto} (hB : BX σ) (hPI : PI σ) (hSI : SI σ) (hLI : LI σ) (hQV : QV σ) (hFE : FE σ) : OK (f_X11_run x1 x2 x3 x4 x5 x6 σ) (fun r => True ∧ BX r.2 ∧ FR [78, 79, 80, 81, 82, 83, 84, 85, 86, 87, 88, 89, 90, 91, 92] [] σ r.2) := by
  unfold f_X11_run
  have hF : FR [78, 79, 80, 81, 82, 83, 84, 85, 86, 87, 88, 89, 90, 91, 92] [] σ σ := FR.rf
  have k_m1000000 : ((-1000000) : Int32).toInt = -1000000 := by decide +kernel
  have k_m1 : ((-1) : Int32).toInt = -1 := by decide +kernel
  have k_0 : (0 : Int32).toInt = 0 := by decide +kernel
  have k_1 : (1 : Int32).toInt = 1 := by decide +kernel
  have k_2 : (2 : Int32).toInt = 2 := by decide +kernel
  have k_3 : (3 : Int32).toInt = 3 := by decide +kernel
  have k_4 : (4 : Int32).toInt = 4 := by decide +kernel
  have k_5 : (5 : Int32).toInt = 5 := by decide +kernel
  have k_11 : (11 : Int32).toInt = 11 := by decide +kernel
  refine ok_calp (s_X11_canRun (x1 := x1) (x2 := x5) (σ := σ) hB) (fun v_1 h_1 => ?_)
  obtain ⟨b_v_1, x_v_1⟩ := h_1
  (try dsimp only at b_v_1 x_v_1)
  refine ok_ite (fun c_2 => ?_) (fun c_2 => ?_)
  · rw [fa_eq] at c_2
    exact ok_ret ⟨trivial, hB, hF⟩
  · rw [fa_eq] at c_2
    have hq := hQV (x_v_1 (by omega))
    have hq1 := hq.1
    have hLV_0 : LV σ := hq.2
    refine ok_ite (fun c_3 => ?_) (fun c_3 => ?_)
    · rw [fa_lt] at c_3
      exact ok_ret ⟨trivial, hB, hF⟩
    · rw [fa_lt] at c_3
      refine ok_ite (fun c_4 => ?_) (fun c_4 => ?_)
      · rw [fa_le] at c_4
        refine ok_cals (s_X5_begin (x1 := x2) (x2 := x3) (x3 := x4) (x4 := x5) (x5 := ((-1) : Int32)) (σ := σ) hB (by omega)) (fun s_5 h_5 => ?_)
        obtain ⟨hB_s_5, hG_s_5⟩ := h_5
        (try dsimp only at hB_s_5 hG_s_5)
        have hF_s_5 : FR [78, 79, 80, 81, 82, 83, 84, 85, 86, 87, 88, 89, 90, 91, 92] [] σ s_5 := FR.cal hF hG_s_5 rfl rfl
        have f_s_5_4 : (s_5.1 4 0).toInt = (σ.1 4 0).toInt := by rw [hF_s_5.1 4 (by decide)]
        have hPI_s_5 : PI s_5 := PI.fr hG_s_5 (by decide) hPI
        have hSI_s_5 : SI s_5 := SI.fr hG_s_5 (by decide) hSI
        have hLI_s_5 : LI s_5 := LI.fr hG_s_5 (by decide) hLI
        have hQV_s_5 : QV s_5 := QV.fr hG_s_5 (by decide) hQV
        have hFE_s_5 : FE s_5 := FE.fr hG_s_5 (by decide) hFE
        have hLV_s_5 : LV s_5 := LV.fr hG_s_5 (by decide) hLV_0
        refine ok_cals (s_X11_goThrough (x1 := x1) (σ := s_5) hB_s_5 hPI_s_5 hSI_s_5 hLI_s_5 hLV_s_5 hFE_s_5 (by omega)) (fun s_6 h_6 => ?_)
        obtain ⟨hB_s_6, hG_s_6⟩ := h_6
        (try dsimp only at hB_s_6 hG_s_6)
        have hF_s_6 : FR [78, 79, 80, 81, 82, 83, 84, 85, 86, 87, 88, 89, 90, 91, 92] [] σ s_6 := FR.cal hF_s_5 hG_s_6 rfl rfl
        have f_s_6_4 : (s_6.1 4 0).toInt = (σ.1 4 0).toInt := by rw [hF_s_6.1 4 (by decide)]
        have hPI_s_6 : PI s_6 := PI.fr hG_s_6 (by decide) hPI_s_5
        have hSI_s_6 : SI s_6 := SI.fr hG_s_6 (by decide) hSI_s_5
        have hLI_s_6 : LI s_6 := LI.fr hG_s_6 (by decide) hLI_s_5
        have hQV_s_6 : QV s_6 := QV.fr hG_s_6 (by decide) hQV_s_5
        have hFE_s_6 : FE s_6 := FE.fr hG_s_6 (by decide) hFE_s_5
        have hLV_s_6 : LV s_6 := LV.fr hG_s_6 (by decide) hLV_s_5
        refine ok_ite (fun c_7 => ?_) (fun c_7 => ?_)
        · have c_7 := c_7
          exact ok_ret ⟨trivial, hB_s_6, hF_s_6⟩
        · have c_7 := c_7
          refine ok_ite (fun c_8 => ?_) (fun c_8 => ?_)
          · have c_8 := c_8
            have g_9 := gX_86 hB_s_6 0
            exact ok_ret ⟨trivial, hB_s_6, hF_s_6⟩
          · have c_8 := c_8
            refine ok_ite (fun c_10 => ?_) (fun c_10 => ?_)
            · have c_10 := c_10
              have g_12 := gX_86 hB_s_6 0
              refine ok_ite (fun c_11 => ?_) (fun c_11 => ?_)
              · rw [fa_eq] at c_11
                exact ok_ret ⟨trivial, hB_s_6, hF_s_6⟩
              · rw [fa_eq] at c_11
                exact ok_ret ⟨trivial, hB_s_6, hF_s_6⟩
            · have c_10 := c_10
              refine ok_ite (fun c_13 => ?_) (fun c_13 => ?_)
              · have c_13 := c_13
                exact ok_ret ⟨trivial, hB_s_6, hF_s_6⟩
              · have c_13 := c_13
                refine ok_ite (fun c_14 => ?_) (fun c_14 => ?_)
                · have c_14 := c_14
                  exact ok_ret ⟨trivial, hB_s_6, hF_s_6⟩
                · have c_14 := c_14
                  refine ok_ite (fun c_15 => ?_) (fun c_15 => ?_)
                  · have c_15 := c_15
                    exact ok_ret ⟨trivial, hB_s_6, hF_s_6⟩
                  · have c_15 := c_15
                    obtain ⟨t_16, ht_16, g_16⟩ : ∃ t : Int, (x6 - 5).toInt = t ∧ t = x6.toInt - (5 : Int32).toInt := ⟨_, rfl, by have h9 := fb_subI (x := x6) (y := (5 : Int32)) (by omega) (by omega); exact h9⟩
                    refine ok_ix ⟨by rw [ht_16]; omega, by rw [ht_16]; omega⟩ ?_
                    refine ok_lt fun v_9 e_v_9 => ?_
                    exact ok_ret ⟨trivial, hB_s_6, hF_s_6⟩
      · rw [fa_le] at c_4
        exact ok_ret ⟨trivial, hB, hF⟩

set_option maxHeartbeats 4000000 in
theorem s_X11_output {x1 : Int32} {x2 : Int32} {x3 : Int32} {x4 : Int32} {x5 : Int32} {x6 : Int32} {σ : Sto} (hB : BX σ) (hPI : PI σ) (hSI : SI σ) (hLI : LI σ) (hQV : QV σ) (hFE : FE σ) : OK (f_X11_output x1 x2 x3 x4 x5 x6 σ) (fun r => True ∧ BX r.2 ∧ FR [78, 79, 80, 81, 82, 83, 84, 85, 86, 87, 88, 89, 90, 91, 92] [] σ r.2) := by
  unfold f_X11_output
  have hF : FR [78, 79, 80, 81, 82, 83, 84, 85, 86, 87, 88, 89, 90, 91, 92] [] σ σ := FR.rf
  have k_m1000000 : ((-1000000) : Int32).toInt = -1000000 := by decide +kernel
  have k_0 : (0 : Int32).toInt = 0 := by decide +kernel
  refine ok_calp (s_X11_canRun (x1 := x1) (x2 := x5) (σ := σ) hB) (fun v_1 h_1 => ?_)
  obtain ⟨b_v_1, x_v_1⟩ := h_1
  (try dsimp only at b_v_1 x_v_1)
  refine ok_ite (fun c_2 => ?_) (fun c_2 => ?_)
  · rw [fa_eq] at c_2
    exact ok_ret ⟨trivial, hB, hF⟩
  · rw [fa_eq] at c_2
    have hq := hQV (x_v_1 (by omega))
    have hq1 := hq.1
    have hLV_0 : LV σ := hq.2
    refine ok_ite (fun c_3 => ?_) (fun c_3 => ?_)
    · rw [fa_le] at c_3
      refine ok_cals (s_X5_begin (x1 := x2) (x2 := x3) (x3 := x4) (x4 := x5) (x5 := x6) (σ := σ) hB (by omega)) (fun s_4 h_4 => ?_)
      obtain ⟨hB_s_4, hG_s_4⟩ := h_4
      (try dsimp only at hB_s_4 hG_s_4)
      have hF_s_4 : FR [78, 79, 80, 81, 82, 83, 84, 85, 86, 87, 88, 89, 90, 91, 92] [] σ s_4 := FR.cal hF hG_s_4 rfl rfl
      have f_s_4_4 : (s_4.1 4 0).toInt = (σ.1 4 0).toInt := by rw [hF_s_4.1 4 (by decide)]
      have hPI_s_4 : PI s_4 := PI.fr hG_s_4 (by decide) hPI
      have hSI_s_4 : SI s_4 := SI.fr hG_s_4 (by decide) hSI
      have hLI_s_4 : LI s_4 := LI.fr hG_s_4 (by decide) hLI
      have hQV_s_4 : QV s_4 := QV.fr hG_s_4 (by decide) hQV
      have hFE_s_4 : FE s_4 := FE.fr hG_s_4 (by decide) hFE
      have hLV_s_4 : LV s_4 := LV.fr hG_s_4 (by decide) hLV_0
      refine ok_cals (s_X11_goThrough (x1 := x1) (σ := s_4) hB_s_4 hPI_s_4 hSI_s_4 hLI_s_4 hLV_s_4 hFE_s_4 (by omega)) (fun s_5 h_5 => ?_)
      obtain ⟨hB_s_5, hG_s_5⟩ := h_5
      (try dsimp only at hB_s_5 hG_s_5)
      have hF_s_5 : FR [78, 79, 80, 81, 82, 83, 84, 85, 86, 87, 88, 89, 90, 91, 92] [] σ s_5 := FR.cal hF_s_4 hG_s_5 rfl rfl
      have f_s_5_4 : (s_5.1 4 0).toInt = (σ.1 4 0).toInt := by rw [hF_s_5.1 4 (by decide)]
      have hPI_s_5 : PI s_5 := PI.fr hG_s_5 (by decide) hPI_s_4
      have hSI_s_5 : SI s_5 := SI.fr hG_s_5 (by decide) hSI_s_4
      have hLI_s_5 : LI s_5 := LI.fr hG_s_5 (by decide) hLI_s_4
      have hQV_s_5 : QV s_5 := QV.fr hG_s_5 (by decide) hQV_s_4
      have hFE_s_5 : FE s_5 := FE.fr hG_s_5 (by decide) hFE_s_4
      have hLV_s_5 : LV s_5 := LV.fr hG_s_5 (by decide) hLV_s_4
      refine ok_ite (fun c_6 => ?_) (fun c_6 => ?_)
      · rw [fa_le] at c_6
        exact ok_ret ⟨trivial, hB_s_5, hF_s_5⟩
      · rw [fa_le] at c_6
        exact ok_ret ⟨trivial, hB_s_5, hF_s_5⟩
    · rw [fa_le] at c_3
      exact ok_ret ⟨trivial, hB, hF⟩

set_option maxHeartbeats 4000000 in
theorem s_X0_leadingTo {x1 : Int32} {σ : Sto} (hB : BX σ) : OK (f_X0_leadingTo x1 σ) (fun v => True) := by
  unfold f_X0_leadingTo
  have hF : FR [] [] σ σ := FR.rf
  have k_0 : (0 : Int32).toInt = 0 := by decide +kernel
  have k_1 : (1 : Int32).toInt = 1 := by decide +kernel
  refine ok_itr3 (fun (n : Nat) (x2_1 : Int64) (x4_1 : Int64) (x6_1 : Int32) => n = (42 - x6_1.toInt).toNat ∧ (0 ≤ x6_1.toInt ∧ x6_1.toInt ≤ 41)) ?_ (n := _) ⟨rfl, (by omega)⟩ (show _ < 10000000 by omega)
  intro a_8 n x2_1 x4_1 x6_1 hI ih_a_8
  obtain ⟨hn_a_8, b_x6_1⟩ := hI
  have g_2 := gX_20 hB 0
  refine ok_ite (fun c_1 => ?_) (fun c_1 => ?_)
  · rw [fa_lt] at c_1
    exact ok_ret trivial
  · rw [fa_lt] at c_1
    obtain ⟨t_4, ht_4, g_4⟩ : ∃ t : Int, (lg_cmp x4_1 (x2_1 ||| ((1 : Int64) <<< (x1.toInt64 &&& 63)))).toInt = t ∧ -2147483648 ≤ t ∧ t ≤ 2147483647 := ⟨_, rfl, tI_rng _⟩
    refine ok_ite (fun c_3 => ?_) (fun c_3 => ?_)
    · rw [lg_cmp_eq] at c_3
      exact ok_ret trivial
    · rw [lg_cmp_eq] at c_3
      refine ok_lt fun x4_4 e_x4_4 => ?_
      refine ok_itr2 (fun (n : Nat) (x2_5 : Int64) (x7_5 : Int32) => n = (41 - x7_5.toInt).toNat ∧ (0 ≤ x7_5.toInt ∧ x7_5.toInt ≤ 40)) ?_ (n := _) ⟨rfl, (by omega)⟩ (show _ < 10000000 by omega)
      intro a_38 n x2_5 x7_5 hI ih_a_38
      obtain ⟨hn_a_38, b_x7_5⟩ := hI
      refine ok_ite (fun c_5 => ?_) (fun c_5 => ?_)
      · rw [fa_le] at c_5
        obtain ⟨t_6, ht_6, g_6⟩ : ∃ t : Int, (x6_1 + 1).toInt = t ∧ t = x6_1.toInt + (1 : Int32).toInt := ⟨_, rfl, by have h9 := fb_addI (x := x6_1) (y := (1 : Int32)) (by omega) (by omega); exact h9⟩
        refine ok_lt fun x6_7 e_x6_7 => ?_
        have q_x6_7 : x6_7.toInt = t_6 := by rw [e_x6_7]; exact ht_6
        exact ih_a_8 _ x2_5 x4_4 x6_7 (by rw [hn_a_8]; omega) ⟨rfl, (by omega)⟩
      · rw [fa_le] at c_5
        refine ok_ix ⟨by omega, by omega⟩ ?_
        refine ok_lt fun v_8 e_v_8 => ?_
        refine ok_jn ?_
        obtain ⟨t_8, ht_8, g_8⟩ : ∃ t : Int, (lg_cmp (v_8 &&& x4_4) (0 : Int64)).toInt = t ∧ -2147483648 ≤ t ∧ t ≤ 2147483647 := ⟨_, rfl, tI_rng _⟩
        refine ok_ite (fun c_7 => ?_) (fun c_7 => ?_)
        · rw [lg_cmp_eq] at c_7
          obtain ⟨t_9, ht_9, g_9⟩ : ∃ t : Int, (x7_5 + 1).toInt = t ∧ t = x7_5.toInt + (1 : Int32).toInt := ⟨_, rfl, by have h9 := fb_addI (x := x7_5) (y := (1 : Int32)) (by omega) (by omega); exact h9⟩
          refine ok_lt fun x7_10 e_x7_10 => ?_
          have q_x7_10 : x7_10.toInt = t_9 := by rw [e_x7_10]; exact ht_9
          exact ih_a_38 _ x2_5 x7_10 (by rw [hn_a_38]; omega) ⟨rfl, (by omega)⟩
        · rw [lg_cmp_eq] at c_7
          refine ok_lt fun x2_12 e_x2_12 => ?_
          obtain ⟨t_10, ht_10, g_10⟩ : ∃ t : Int, (x7_5 + 1).toInt = t ∧ t = x7_5.toInt + (1 : Int32).toInt := ⟨_, rfl, by have h9 := fb_addI (x := x7_5) (y := (1 : Int32)) (by omega) (by omega); exact h9⟩
          refine ok_lt fun x7_10 e_x7_10 => ?_
          have q_x7_10 : x7_10.toInt = t_10 := by rw [e_x7_10]; exact ht_10
          exact ih_a_38 _ x2_12 x7_10 (by rw [hn_a_38]; omega) ⟨rfl, (by omega)⟩

set_option maxHeartbeats 4000000 in
theorem s_X11_comesTo {x1 : Int32} {σ : Sto} (hB : BX σ) : OK (f_X11_comesTo x1 σ) (fun v => True) := by
  unfold f_X11_comesTo
  have hF : FR [] [] σ σ := FR.rf
  have k_0 : (0 : Int32).toInt = 0 := by decide +kernel
  refine ok_calp (s_X11_isBlock (x1 := x1) (σ := σ) hB) (fun v_1 h_1 => ?_)
  obtain ⟨b_v_1, x_v_1⟩ := h_1
  (try dsimp only at b_v_1 x_v_1)
  refine ok_ite (fun c_2 => ?_) (fun c_2 => ?_)
  · rw [fa_eq] at c_2
    exact ok_ret trivial
  · rw [fa_eq] at c_2
    refine ok_calp (s_X0_leadingTo (x1 := x1) (σ := σ) hB) (fun v_3 h_3 => ?_)
    exact ok_ret trivial

set_option maxHeartbeats 4000000 in
theorem s_X0_way {x1 : Int32} {x2 : Int32} {σ : Sto} (hB : BX σ) : OK (f_X0_way x1 x2 σ) (fun v => ((-1) ≤ v.toInt ∧ v.toInt ≤ 40)) := by
  unfold f_X0_way
  have hF : FR [] [] σ σ := FR.rf
  have k_m1 : ((-1) : Int32).toInt = -1 := by decide +kernel
  have k_0 : (0 : Int32).toInt = 0 := by decide +kernel
  have k_1 : (1 : Int32).toInt = 1 := by decide +kernel
  refine ok_lt fun x3_1 e_x3_1 => ?_
  refine ok_itr2 (fun (n : Nat) (x3_2 : Int64) (x5_2 : Int32) => n = (42 - x5_2.toInt).toNat ∧ (0 ≤ x5_2.toInt ∧ x5_2.toInt ≤ 41)) ?_ (n := _) ⟨rfl, (by omega)⟩ (show _ < 10000000 by omega)
  intro a_7 n x3_2 x5_2 hI ih_a_7
  obtain ⟨hn_a_7, b_x5_2⟩ := hI
  have g_2 := gX_20 hB 0
  refine ok_ite (fun c_1 => ?_) (fun c_1 => ?_)
  · rw [fa_lt] at c_1
    exact ok_ret (by (try dsimp only); omega)
  · rw [fa_lt] at c_1
    refine ok_calp (s_X11_isIn (x1 := x3_2) (x2 := x2) ) (fun v_4 h_3 => ?_)
    obtain ⟨b_v_4, x_v_4⟩ := h_3
    (try dsimp only at b_v_4 x_v_4)
    refine ok_ite (fun c_4 => ?_) (fun c_4 => ?_)
    · rw [fa_eq] at c_4
      refine ok_itr2 (fun (n : Nat) (x6_6 : Int64) (x8_6 : Int32) => n = (41 - x8_6.toInt).toNat ∧ (0 ≤ x8_6.toInt ∧ x8_6.toInt ≤ 40)) ?_ (n := _) ⟨rfl, (by omega)⟩ (show _ < 10000000 by omega)
      intro a_33 n x6_6 x8_6 hI ih_a_33
      obtain ⟨hn_a_33, b_x8_6⟩ := hI
      refine ok_ite (fun c_5 => ?_) (fun c_5 => ?_)
      · rw [fa_le] at c_5
        obtain ⟨t_6, ht_6, g_6⟩ : ∃ t : Int, (x5_2 + 1).toInt = t ∧ t = x5_2.toInt + (1 : Int32).toInt := ⟨_, rfl, by have h9 := fb_addI (x := x5_2) (y := (1 : Int32)) (by omega) (by omega); exact h9⟩
        refine ok_lt fun x5_8 e_x5_8 => ?_
        have q_x5_8 : x5_8.toInt = t_6 := by rw [e_x5_8]; exact ht_6
        exact ih_a_7 _ x6_6 x5_8 (by rw [hn_a_7]; omega) ⟨rfl, (by omega)⟩
      · rw [fa_le] at c_5
        refine ok_calp (s_X11_isIn (x1 := x3_2) (x2 := x8_6) ) (fun v_9 h_7 => ?_)
        obtain ⟨b_v_9, x_v_9⟩ := h_7
        (try dsimp only at b_v_9 x_v_9)
        refine ok_jn ?_
        refine ok_ite (fun c_8 => ?_) (fun c_8 => ?_)
        · rw [fa_eq] at c_8
          obtain ⟨t_9, ht_9, g_9⟩ : ∃ t : Int, (x8_6 + 1).toInt = t ∧ t = x8_6.toInt + (1 : Int32).toInt := ⟨_, rfl, by have h9 := fb_addI (x := x8_6) (y := (1 : Int32)) (by omega) (by omega); exact h9⟩
          refine ok_lt fun x8_11 e_x8_11 => ?_
          have q_x8_11 : x8_11.toInt = t_9 := by rw [e_x8_11]; exact ht_9
          exact ih_a_33 _ x6_6 x8_11 (by rw [hn_a_33]; omega) ⟨rfl, (by omega)⟩
        · rw [fa_eq] at c_8
          refine ok_ix ⟨by omega, by omega⟩ ?_
          refine ok_lt fun v_13 e_v_13 => ?_
          refine ok_lt fun x6_14 e_x6_14 => ?_
          obtain ⟨t_10, ht_10, g_10⟩ : ∃ t : Int, (x8_6 + 1).toInt = t ∧ t = x8_6.toInt + (1 : Int32).toInt := ⟨_, rfl, by have h9 := fb_addI (x := x8_6) (y := (1 : Int32)) (by omega) (by omega); exact h9⟩
          refine ok_lt fun x8_11 e_x8_11 => ?_
          have q_x8_11 : x8_11.toInt = t_10 := by rw [e_x8_11]; exact ht_10
          exact ih_a_33 _ x6_14 x8_11 (by rw [hn_a_33]; omega) ⟨rfl, (by omega)⟩
    · rw [fa_eq] at c_4
      exact ok_ret (by (try dsimp only); omega)

set_option maxHeartbeats 4000000 in
theorem s_X11_far {x1 : Int32} {x2 : Int32} {σ : Sto} (hB : BX σ) : OK (f_X11_far x1 x2 σ) (fun v => ((-1) ≤ v.toInt ∧ v.toInt ≤ 40)) := by
  unfold f_X11_far
  have hF : FR [] [] σ σ := FR.rf
  have k_m1 : ((-1) : Int32).toInt = -1 := by decide +kernel
  have k_0 : (0 : Int32).toInt = 0 := by decide +kernel
  refine ok_calp (s_X11_isBlock (x1 := x1) (σ := σ) hB) (fun v_1 h_1 => ?_)
  obtain ⟨b_v_1, x_v_1⟩ := h_1
  (try dsimp only at b_v_1 x_v_1)
  refine ok_jn ?_
  refine ok_ite (fun c_2 => ?_) (fun c_2 => ?_)
  · rw [fa_eq] at c_2
    exact ok_ret (by (try dsimp only); omega)
  · rw [fa_eq] at c_2
    refine ok_calp (s_X11_isBlock (x1 := x2) (σ := σ) hB) (fun v_4 h_3 => ?_)
    obtain ⟨b_v_4, x_v_4⟩ := h_3
    (try dsimp only at b_v_4 x_v_4)
    refine ok_ite (fun c_4 => ?_) (fun c_4 => ?_)
    · rw [fa_eq] at c_4
      exact ok_ret (by (try dsimp only); omega)
    · rw [fa_eq] at c_4
      refine ok_calp (s_X0_way (x1 := x1) (x2 := x2) (σ := σ) hB) (fun v_6 h_5 => ?_)
      have b_v_6 := h_5
      (try dsimp only at b_v_6)
      exact ok_ret (by (try dsimp only); omega)

set_option maxHeartbeats 4000000 in
theorem s_X8_mostLoops {σ : Sto} (hB : BX σ) : OK (f_X8_mostLoops σ) (fun v => (0 ≤ v.toInt)) := by
  unfold f_X8_mostLoops
  have hF : FR [] [] σ σ := FR.rf
  have k_0 : (0 : Int32).toInt = 0 := by decide +kernel
  have k_1 : (1 : Int32).toInt = 1 := by decide +kernel
  refine ok_itr2 (fun (n : Nat) (x1_1 : Int32) (x2_1 : Int32) => n = (41 - x2_1.toInt).toNat ∧ (0 ≤ x1_1.toInt) ∧ (0 ≤ x2_1.toInt ∧ x2_1.toInt ≤ 40)) ?_ (n := _) ⟨rfl, (by omega), (by omega)⟩ (show _ < 10000000 by omega)
  intro a_4 n x1_1 x2_1 hI ih_a_4
  obtain ⟨hn_a_4, b_x1_1, b_x2_1⟩ := hI
  have g_2 := gX_20 hB 0
  refine ok_ite (fun c_1 => ?_) (fun c_1 => ?_)
  · rw [fa_le] at c_1
    exact ok_ret (by (try dsimp only); omega)
  · rw [fa_le] at c_1
    refine ok_calp (s_X8_loopsRound (x1 := x2_1) (σ := σ) hB) (fun v_3 h_3 => ?_)
    have b_v_3 := h_3
    (try dsimp only at b_v_3)
    obtain ⟨t_4, ht_4, g_4⟩ : ∃ t : Int, (if x1_1 < v_3 then v_3 else x1_1).toInt = t ∧ -2147483648 ≤ t ∧ t ≤ 2147483647 := ⟨_, rfl, tI_rng _⟩
    refine ok_lt fun v_4 e_v_4 => ?_
    have b_v_4 := mx_spec e_v_4
    obtain ⟨t_5, ht_5, g_5⟩ : ∃ t : Int, (x2_1 + 1).toInt = t ∧ t = x2_1.toInt + (1 : Int32).toInt := ⟨_, rfl, by have h9 := fb_addI (x := x2_1) (y := (1 : Int32)) (by omega) (by omega); exact h9⟩
    refine ok_lt fun x2_5 e_x2_5 => ?_
    have q_x2_5 : x2_5.toInt = t_5 := by rw [e_x2_5]; exact ht_5
    exact ih_a_4 _ v_4 x2_5 (by rw [hn_a_4]; omega) ⟨rfl, (by omega), (by omega)⟩

set_option maxHeartbeats 4000000 in
theorem s_X2_deepest {σ : Sto} (hB : BX σ) : OK (f_X2_deepest σ) (fun v => (0 ≤ v.toInt)) := by
  unfold f_X2_deepest
  have hF : FR [] [] σ σ := FR.rf
  have k_0 : (0 : Int32).toInt = 0 := by decide +kernel
  have k_1 : (1 : Int32).toInt = 1 := by decide +kernel
  refine ok_itr2 (fun (n : Nat) (x1_1 : Int32) (x2_1 : Int32) => n = (801 - x2_1.toInt).toNat ∧ (0 ≤ x1_1.toInt) ∧ (0 ≤ x2_1.toInt ∧ x2_1.toInt ≤ 800)) ?_ (n := _) ⟨rfl, (by omega), (by omega)⟩ (show _ < 10000000 by omega)
  intro a_4 n x1_1 x2_1 hI ih_a_4
  obtain ⟨hn_a_4, b_x1_1, b_x2_1⟩ := hI
  have g_2 := gX_68 hB 0
  refine ok_ite (fun c_1 => ?_) (fun c_1 => ?_)
  · rw [fa_le] at c_1
    exact ok_ret (by (try dsimp only); omega)
  · rw [fa_le] at c_1
    refine ok_ix ⟨by omega, by omega⟩ ?_
    refine ok_lt fun v_3 e_v_3 => ?_
    obtain ⟨t_3, ht_3, g_3⟩ : ∃ t : Int, (if x1_1 < v_3 then v_3 else x1_1).toInt = t ∧ -2147483648 ≤ t ∧ t ≤ 2147483647 := ⟨_, rfl, tI_rng _⟩
    refine ok_lt fun v_4 e_v_4 => ?_
    have b_v_4 := mx_spec e_v_4
    obtain ⟨t_4, ht_4, g_4⟩ : ∃ t : Int, (x2_1 + 1).toInt = t ∧ t = x2_1.toInt + (1 : Int32).toInt := ⟨_, rfl, by have h9 := fb_addI (x := x2_1) (y := (1 : Int32)) (by omega) (by omega); exact h9⟩
    refine ok_lt fun x2_5 e_x2_5 => ?_
    have q_x2_5 : x2_5.toInt = t_4 := by rw [e_x2_5]; exact ht_4
    exact ih_a_4 _ v_4 x2_5 (by rw [hn_a_4]; omega) ⟨rfl, (by omega), (by omega)⟩

set_option maxHeartbeats 4000000 in
theorem s_X2_ofKind {x1 : Int32} {σ : Sto} (hB : BX σ) (p_x1 : 6 ≤ x1.toInt ∧ x1.toInt ≤ 7) : OK (f_X2_ofKind x1 σ) (fun v => True) := by
  unfold f_X2_ofKind
  have hF : FR [] [] σ σ := FR.rf
  have k_0 : (0 : Int32).toInt = 0 := by decide +kernel
  have k_1 : (1 : Int32).toInt = 1 := by decide +kernel
  refine ok_itr2 (fun (n : Nat) (x2_1 : Int32) (x3_1 : Int32) => n = (801 - x3_1.toInt).toNat ∧ (0 ≤ x3_1.toInt ∧ x3_1.toInt ≤ 800)) ?_ (n := _) ⟨rfl, (by omega)⟩ (show _ < 10000000 by omega)
  intro a_4 n x2_1 x3_1 hI ih_a_4
  obtain ⟨hn_a_4, b_x3_1⟩ := hI
  have g_2 := gX_68 hB 0
  refine ok_ite (fun c_1 => ?_) (fun c_1 => ?_)
  · rw [fa_le] at c_1
    exact ok_ret trivial
  · rw [fa_le] at c_1
    refine ok_ix ⟨by omega, by omega⟩ ?_
    have g_3 := gX_69 hB (x3_1.toNatClampNeg)
    refine ok_lt fun v_3 e_v_3 => ?_
    have b_v_3 : 0 ≤ v_3.toInt ∧ v_3.toInt ≤ 12 := by rw [e_v_3]; exact gX_69 hB _
    refine ok_jn ?_
    refine ok_ite (fun c_4 => ?_) (fun c_4 => ?_)
    · rw [fa_eq] at c_4
      obtain ⟨t_5, ht_5, g_5⟩ : ∃ t : Int, (x2_1 + 1).toInt = t ∧ -2147483648 ≤ t ∧ t ≤ 2147483647 := ⟨_, rfl, tI_rng _⟩
      refine ok_lt fun x2_7 e_x2_7 => ?_
      have q_x2_7 : x2_7.toInt = t_5 := by rw [e_x2_7]; exact ht_5
      obtain ⟨t_6, ht_6, g_6⟩ : ∃ t : Int, (x3_1 + 1).toInt = t ∧ t = x3_1.toInt + (1 : Int32).toInt := ⟨_, rfl, by have h9 := fb_addI (x := x3_1) (y := (1 : Int32)) (by omega) (by omega); exact h9⟩
      refine ok_lt fun x3_5 e_x3_5 => ?_
      have q_x3_5 : x3_5.toInt = t_6 := by rw [e_x3_5]; exact ht_6
      exact ih_a_4 _ x2_7 x3_5 (by rw [hn_a_4]; omega) ⟨rfl, (by omega)⟩
    · rw [fa_eq] at c_4
      obtain ⟨t_7, ht_7, g_7⟩ : ∃ t : Int, (x3_1 + 1).toInt = t ∧ t = x3_1.toInt + (1 : Int32).toInt := ⟨_, rfl, by have h9 := fb_addI (x := x3_1) (y := (1 : Int32)) (by omega) (by omega); exact h9⟩
      refine ok_lt fun x3_5 e_x3_5 => ?_
      have q_x3_5 : x3_5.toInt = t_7 := by rw [e_x3_5]; exact ht_7
      exact ih_a_4 _ x2_1 x3_5 (by rw [hn_a_4]; omega) ⟨rfl, (by omega)⟩

set_option maxHeartbeats 4000000 in
theorem s_X1_mostParts {σ : Sto} (hB : BX σ) : OK (f_X1_mostParts σ) (fun v => (0 ≤ v.toInt)) := by
  unfold f_X1_mostParts
  have hF : FR [] [] σ σ := FR.rf
  have k_m1 : ((-1) : Int32).toInt = -1 := by decide +kernel
  have k_0 : (0 : Int32).toInt = 0 := by decide +kernel
  have k_1 : (1 : Int32).toInt = 1 := by decide +kernel
  refine ok_itr2 (fun (n : Nat) (x1_1 : Int32) (x2_1 : Int32) => n = (321 - x2_1.toInt).toNat ∧ (0 ≤ x1_1.toInt) ∧ (0 ≤ x2_1.toInt ∧ x2_1.toInt ≤ 320)) ?_ (n := _) ⟨rfl, (by omega), (by omega)⟩ (show _ < 10000000 by omega)
  intro a_4 n x1_1 x2_1 hI ih_a_4
  obtain ⟨hn_a_4, b_x1_1, b_x2_1⟩ := hI
  have g_2 := gX_52 hB 0
  refine ok_ite (fun c_1 => ?_) (fun c_1 => ?_)
  · rw [fa_le] at c_1
    exact ok_ret (by (try dsimp only); omega)
  · rw [fa_le] at c_1
    refine ok_ix ⟨by omega, by omega⟩ ?_
    have g_3 := gX_55 hB (x2_1.toNatClampNeg)
    refine ok_lt fun v_3 e_v_3 => ?_
    have b_v_3 : (-1) ≤ v_3.toInt ∧ v_3.toInt ≤ 511 := by rw [e_v_3]; exact gX_55 hB _
    have q_v_3 : v_3.toInt = (σ.1 55 x2_1.toNatClampNeg).toInt := by rw [e_v_3]
    refine ok_jn ?_
    refine ok_ite (fun c_4 => ?_) (fun c_4 => ?_)
    · rw [fa_eq] at c_4
      obtain ⟨t_5, ht_5, g_5⟩ : ∃ t : Int, (x2_1 + 1).toInt = t ∧ t = x2_1.toInt + (1 : Int32).toInt := ⟨_, rfl, by have h9 := fb_addI (x := x2_1) (y := (1 : Int32)) (by omega) (by omega); exact h9⟩
      refine ok_lt fun x2_5 e_x2_5 => ?_
      have q_x2_5 : x2_5.toInt = t_5 := by rw [e_x2_5]; exact ht_5
      exact ih_a_4 _ x1_1 x2_5 (by rw [hn_a_4]; omega) ⟨rfl, (by omega), (by omega)⟩
    · rw [fa_eq] at c_4
      refine ok_ix ⟨by omega, by omega⟩ ?_
      refine ok_lt fun v_7 e_v_7 => ?_
      have b_v_7 : (-1) ≤ v_7.toInt ∧ v_7.toInt ≤ 511 := by rw [e_v_7]; exact gX_55 hB _
      have q_v_7 : v_7.toInt = (σ.1 55 x2_1.toNatClampNeg).toInt := by rw [e_v_7]
      refine ok_ix ⟨by omega, by omega⟩ ?_
      refine ok_lt fun v_8 e_v_8 => ?_
      obtain ⟨t_6, ht_6, g_6⟩ : ∃ t : Int, (if x1_1 < v_8 then v_8 else x1_1).toInt = t ∧ -2147483648 ≤ t ∧ t ≤ 2147483647 := ⟨_, rfl, tI_rng _⟩
      refine ok_lt fun v_9 e_v_9 => ?_
      have b_v_9 := mx_spec e_v_9
      obtain ⟨t_7, ht_7, g_7⟩ : ∃ t : Int, (x2_1 + 1).toInt = t ∧ t = x2_1.toInt + (1 : Int32).toInt := ⟨_, rfl, by have h9 := fb_addI (x := x2_1) (y := (1 : Int32)) (by omega) (by omega); exact h9⟩
      refine ok_lt fun x2_5 e_x2_5 => ?_
      have q_x2_5 : x2_5.toInt = t_7 := by rw [e_x2_5]; exact ht_7
      exact ih_a_4 _ v_9 x2_5 (by rw [hn_a_4]; omega) ⟨rfl, (by omega), (by omega)⟩

set_option maxHeartbeats 4000000 in
theorem s_X3_highest {σ : Sto} (hB : BX σ) : OK (f_X3_highest σ) (fun v => (0 ≤ v.toInt ∧ v.toInt ≤ 8)) := by
  unfold f_X3_highest
  have hF : FR [] [] σ σ := FR.rf
  have k_m1 : ((-1) : Int32).toInt = -1 := by decide +kernel
  have k_0 : (0 : Int32).toInt = 0 := by decide +kernel
  have k_1 : (1 : Int32).toInt = 1 := by decide +kernel
  refine ok_itr2 (fun (n : Nat) (x1_1 : Int32) (x2_1 : Int32) => n = (41 - x2_1.toInt).toNat ∧ (0 ≤ x1_1.toInt ∧ x1_1.toInt ≤ 8) ∧ (0 ≤ x2_1.toInt ∧ x2_1.toInt ≤ 40)) ?_ (n := _) ⟨rfl, (by omega), (by omega)⟩ (show _ < 10000000 by omega)
  intro a_4 n x1_1 x2_1 hI ih_a_4
  obtain ⟨hn_a_4, b_x1_1, b_x2_1⟩ := hI
  have g_2 := gX_4 hB 0
  refine ok_ite (fun c_1 => ?_) (fun c_1 => ?_)
  · rw [fa_le] at c_1
    exact ok_ret (by (try dsimp only); omega)
  · rw [fa_le] at c_1
    refine ok_ix ⟨by omega, by omega⟩ ?_
    have g_3 := gX_8 hB (x2_1.toNatClampNeg)
    refine ok_lt fun v_3 e_v_3 => ?_
    have b_v_3 : (-1) ≤ v_3.toInt ∧ v_3.toInt ≤ 6 := by rw [e_v_3]; exact gX_8 hB _
    have q_v_3 : v_3.toInt = (σ.1 8 x2_1.toNatClampNeg).toInt := by rw [e_v_3]
    refine ok_jn ?_
    refine ok_ite (fun c_4 => ?_) (fun c_4 => ?_)
    · rw [fa_eq] at c_4
      obtain ⟨t_5, ht_5, g_5⟩ : ∃ t : Int, (x2_1 + 1).toInt = t ∧ t = x2_1.toInt + (1 : Int32).toInt := ⟨_, rfl, by have h9 := fb_addI (x := x2_1) (y := (1 : Int32)) (by omega) (by omega); exact h9⟩
      refine ok_lt fun x2_5 e_x2_5 => ?_
      have q_x2_5 : x2_5.toInt = t_5 := by rw [e_x2_5]; exact ht_5
      exact ih_a_4 _ x1_1 x2_5 (by rw [hn_a_4]; omega) ⟨rfl, (by omega), (by omega)⟩
    · rw [fa_eq] at c_4
      refine ok_ix ⟨by omega, by omega⟩ ?_
      refine ok_lt fun v_7 e_v_7 => ?_
      have b_v_7 : (-1) ≤ v_7.toInt ∧ v_7.toInt ≤ 6 := by rw [e_v_7]; exact gX_8 hB _
      have q_v_7 : v_7.toInt = (σ.1 8 x2_1.toNatClampNeg).toInt := by rw [e_v_7]
      refine ok_calp (s_X3_depthBehind (x1 := x2_1) (σ := σ) hB (by omega)) (fun v_8 h_6 => ?_)
      obtain ⟨b_v_8, x_v_8⟩ := h_6
      (try dsimp only at b_v_8 x_v_8)
      obtain ⟨t_7, ht_7, g_7⟩ : ∃ t : Int, (if v_7 < v_8 then v_8 else v_7).toInt = t ∧ -2147483648 ≤ t ∧ t ≤ 2147483647 := ⟨_, rfl, tI_rng _⟩
      refine ok_lt fun v_9 e_v_9 => ?_
      have b_v_9 := mx_spec e_v_9
      obtain ⟨t_8, ht_8, g_8⟩ : ∃ t : Int, (if x1_1 < v_9 then v_9 else x1_1).toInt = t ∧ -2147483648 ≤ t ∧ t ≤ 2147483647 := ⟨_, rfl, tI_rng _⟩
      refine ok_lt fun v_10 e_v_10 => ?_
      have b_v_10 := mx_spec e_v_10
      obtain ⟨t_9, ht_9, g_9⟩ : ∃ t : Int, (x2_1 + 1).toInt = t ∧ t = x2_1.toInt + (1 : Int32).toInt := ⟨_, rfl, by have h9 := fb_addI (x := x2_1) (y := (1 : Int32)) (by omega) (by omega); exact h9⟩
      refine ok_lt fun x2_5 e_x2_5 => ?_
      have q_x2_5 : x2_5.toInt = t_9 := by rw [e_x2_5]; exact ht_9
      exact ih_a_4 _ v_10 x2_5 (by rw [hn_a_4]; omega) ⟨rfl, (by omega), (by omega)⟩

set_option maxHeartbeats 4000000 in
theorem s_X1_fullest {σ : Sto} (hB : BX σ) : OK (f_X1_fullest σ) (fun v => (0 ≤ v.toInt ∧ v.toInt ≤ 39)) := by
  unfold f_X1_fullest
  have hF : FR [] [] σ σ := FR.rf
  have k_0 : (0 : Int32).toInt = 0 := by decide +kernel
  have k_1 : (1 : Int32).toInt = 1 := by decide +kernel
  refine ok_itr2 (fun (n : Nat) (x1_1 : Int32) (x2_1 : Int32) => n = (41 - x2_1.toInt).toNat ∧ (0 ≤ x1_1.toInt ∧ x1_1.toInt ≤ 39) ∧ (1 ≤ x2_1.toInt ∧ x2_1.toInt ≤ 40)) ?_ (n := _) ⟨rfl, (by omega), (by omega)⟩ (show _ < 10000000 by omega)
  intro a_4 n x1_1 x2_1 hI ih_a_4
  obtain ⟨hn_a_4, b_x1_1, b_x2_1⟩ := hI
  have g_2 := gX_20 hB 0
  refine ok_ite (fun c_1 => ?_) (fun c_1 => ?_)
  · rw [fa_le] at c_1
    exact ok_ret (by (try dsimp only); omega)
  · rw [fa_le] at c_1
    obtain ⟨t_3, ht_3, g_3⟩ : ∃ t : Int, (x2_1 + 1).toInt = t ∧ t = x2_1.toInt + (1 : Int32).toInt := ⟨_, rfl, by have h9 := fb_addI (x := x2_1) (y := (1 : Int32)) (by omega) (by omega); exact h9⟩
    refine ok_ix ⟨by rw [ht_3]; omega, by rw [ht_3]; omega⟩ ?_
    have g_4 := gX_56 hB ((x2_1 + 1).toNatClampNeg)
    refine ok_lt fun v_3 e_v_3 => ?_
    have b_v_3 : 0 ≤ v_3.toInt ∧ v_3.toInt ≤ 320 := by rw [e_v_3]; exact gX_56 hB _
    refine ok_ix ⟨by omega, by omega⟩ ?_
    have g_5 := gX_56 hB (x2_1.toNatClampNeg)
    refine ok_lt fun v_4 e_v_4 => ?_
    have b_v_4 : 0 ≤ v_4.toInt ∧ v_4.toInt ≤ 320 := by rw [e_v_4]; exact gX_56 hB _
    obtain ⟨t_6, ht_6, g_6⟩ : ∃ t : Int, (x1_1 + 1).toInt = t ∧ t = x1_1.toInt + (1 : Int32).toInt := ⟨_, rfl, by have h9 := fb_addI (x := x1_1) (y := (1 : Int32)) (by omega) (by omega); exact h9⟩
    refine ok_ix ⟨by rw [ht_6]; omega, by rw [ht_6]; omega⟩ ?_
    have g_7 := gX_56 hB ((x1_1 + 1).toNatClampNeg)
    refine ok_lt fun v_5 e_v_5 => ?_
    have b_v_5 : 0 ≤ v_5.toInt ∧ v_5.toInt ≤ 320 := by rw [e_v_5]; exact gX_56 hB _
    refine ok_ix ⟨by omega, by omega⟩ ?_
    have g_8 := gX_56 hB (x1_1.toNatClampNeg)
    refine ok_lt fun v_6 e_v_6 => ?_
    have b_v_6 : 0 ≤ v_6.toInt ∧ v_6.toInt ≤ 320 := by rw [e_v_6]; exact gX_56 hB _
    refine ok_jn ?_
    obtain ⟨t_10, ht_10, g_10⟩ : ∃ t : Int, (v_3 - v_4).toInt = t ∧ t = v_3.toInt - v_4.toInt := ⟨_, rfl, by have h9 := fb_subI (x := v_3) (y := v_4) (by omega) (by omega); exact h9⟩
    obtain ⟨t_11, ht_11, g_11⟩ : ∃ t : Int, (v_5 - v_6).toInt = t ∧ t = v_5.toInt - v_6.toInt := ⟨_, rfl, by have h9 := fb_subI (x := v_5) (y := v_6) (by omega) (by omega); exact h9⟩
    refine ok_ite (fun c_9 => ?_) (fun c_9 => ?_)
    · rw [fa_le, ht_10, ht_11] at c_9
      refine ok_lt fun x2_8 e_x2_8 => ?_
      have q_x2_8 : x2_8.toInt = t_3 := by rw [e_x2_8]; exact ht_3
      exact ih_a_4 _ x1_1 x2_8 (by rw [hn_a_4]; omega) ⟨rfl, (by omega), (by omega)⟩
    · rw [fa_le, ht_10, ht_11] at c_9
      refine ok_lt fun x2_8 e_x2_8 => ?_
      have q_x2_8 : x2_8.toInt = t_3 := by rw [e_x2_8]; exact ht_3
      exact ih_a_4 _ x2_1 x2_8 (by rw [hn_a_4]; omega) ⟨rfl, (by omega), (by omega)⟩

set_option maxHeartbeats 4000000 in
theorem s_X10_howMany {σ : Sto} (hB : BX σ) : OK (f_X10_howMany σ) (fun v => True) := by
  unfold f_X10_howMany
  have hF : FR [] [] σ σ := FR.rf
  have k_0 : (0 : Int32).toInt = 0 := by decide +kernel
  have k_1 : (1 : Int32).toInt = 1 := by decide +kernel
  have k_6 : (6 : Int32).toInt = 6 := by decide +kernel
  have g9 := gX_32 hB 0
  refine ok_itr2 (fun (n : Nat) (x1_1 : Int32) (x2_1 : Int32) => n = (7 - x2_1.toInt).toNat ∧ (0 ≤ x2_1.toInt ∧ x2_1.toInt ≤ 6)) ?_ (n := _) ⟨rfl, (by omega)⟩ (show _ < 10000000 by omega)
  intro a_4 n x1_1 x2_1 hI ih_a_4
  obtain ⟨hn_a_4, b_x2_1⟩ := hI
  refine ok_ite (fun c_1 => ?_) (fun c_1 => ?_)
  · rw [fa_le] at c_1
    refine ok_itr2 (fun (n : Nat) (x1_3 : Int32) (x2_3 : Int32) => n = (7 - x2_3.toInt).toNat ∧ (0 ≤ x2_3.toInt ∧ x2_3.toInt ≤ 6)) ?_ (n := _) ⟨rfl, (by omega)⟩ (show _ < 10000000 by omega)
    intro a_30 n x1_3 x2_3 hI ih_a_30
    obtain ⟨hn_a_30, b_x2_3⟩ := hI
    have g_3 := gX_32 hB 0
    refine ok_ite (fun c_2 => ?_) (fun c_2 => ?_)
    · rw [fa_le] at c_2
      refine ok_itr2 (fun (n : Nat) (x1_5 : Int32) (x2_5 : Int32) => n = (161 - x2_5.toInt).toNat ∧ (0 ≤ x2_5.toInt ∧ x2_5.toInt ≤ 160)) ?_ (n := _) ⟨rfl, (by omega)⟩ (show _ < 10000000 by omega)
      intro a_61 n x1_5 x2_5 hI ih_a_61
      obtain ⟨hn_a_61, b_x2_5⟩ := hI
      have g_5 := gX_58 hB 0
      refine ok_ite (fun c_4 => ?_) (fun c_4 => ?_)
      · rw [fa_le] at c_4
        exact ok_ret trivial
      · rw [fa_le] at c_4
        refine ok_ix ⟨by omega, by omega⟩ ?_
        have g_6 := gX_65 hB (x2_5.toNatClampNeg)
        refine ok_lt fun v_7 e_v_7 => ?_
        have b_v_7 : 0 ≤ v_7.toInt ∧ v_7.toInt ≤ 1 := by rw [e_v_7]; exact gX_65 hB _
        refine ok_calp (s_X11_oneIf (x1 := v_7) (by omega)) (fun v_8 h_7 => ?_)
        have b_v_8 := h_7
        (try dsimp only at b_v_8)
        obtain ⟨t_8, ht_8, g_8⟩ : ∃ t : Int, (x1_5 + v_8).toInt = t ∧ -2147483648 ≤ t ∧ t ≤ 2147483647 := ⟨_, rfl, tI_rng _⟩
        refine ok_lt fun x1_9 e_x1_9 => ?_
        have q_x1_9 : x1_9.toInt = t_8 := by rw [e_x1_9]; exact ht_8
        obtain ⟨t_9, ht_9, g_9⟩ : ∃ t : Int, (x2_5 + 1).toInt = t ∧ t = x2_5.toInt + (1 : Int32).toInt := ⟨_, rfl, by have h9 := fb_addI (x := x2_5) (y := (1 : Int32)) (by omega) (by omega); exact h9⟩
        refine ok_lt fun x2_10 e_x2_10 => ?_
        have q_x2_10 : x2_10.toInt = t_9 := by rw [e_x2_10]; exact ht_9
        exact ih_a_61 _ x1_9 x2_10 (by rw [hn_a_61]; omega) ⟨rfl, (by omega)⟩
    · rw [fa_le] at c_2
      refine ok_ix ⟨by omega, by omega⟩ ?_
      have g_10 := gX_64 hB (x2_3.toNatClampNeg)
      refine ok_lt fun v_11 e_v_11 => ?_
      have b_v_11 : 0 ≤ v_11.toInt ∧ v_11.toInt ≤ 1 := by rw [e_v_11]; exact gX_64 hB _
      refine ok_calp (s_X11_oneIf (x1 := v_11) (by omega)) (fun v_12 h_11 => ?_)
      have b_v_12 := h_11
      (try dsimp only at b_v_12)
      obtain ⟨t_12, ht_12, g_12⟩ : ∃ t : Int, (x1_3 + v_12).toInt = t ∧ -2147483648 ≤ t ∧ t ≤ 2147483647 := ⟨_, rfl, tI_rng _⟩
      refine ok_lt fun x1_13 e_x1_13 => ?_
      have q_x1_13 : x1_13.toInt = t_12 := by rw [e_x1_13]; exact ht_12
      obtain ⟨t_13, ht_13, g_13⟩ : ∃ t : Int, (x2_3 + 1).toInt = t ∧ t = x2_3.toInt + (1 : Int32).toInt := ⟨_, rfl, by have h9 := fb_addI (x := x2_3) (y := (1 : Int32)) (by omega) (by omega); exact h9⟩
      refine ok_lt fun x2_14 e_x2_14 => ?_
      have q_x2_14 : x2_14.toInt = t_13 := by rw [e_x2_14]; exact ht_13
      exact ih_a_30 _ x1_13 x2_14 (by rw [hn_a_30]; omega) ⟨rfl, (by omega)⟩
  · rw [fa_le] at c_1
    refine ok_ix ⟨by omega, by omega⟩ ?_
    have g_14 := gX_63 hB (x2_1.toNatClampNeg)
    refine ok_lt fun v_15 e_v_15 => ?_
    have b_v_15 : 0 ≤ v_15.toInt ∧ v_15.toInt ≤ 1 := by rw [e_v_15]; exact gX_63 hB _
    refine ok_calp (s_X11_oneIf (x1 := v_15) (by omega)) (fun v_16 h_15 => ?_)
    have b_v_16 := h_15
    (try dsimp only at b_v_16)
    obtain ⟨t_16, ht_16, g_16⟩ : ∃ t : Int, (x1_1 + v_16).toInt = t ∧ -2147483648 ≤ t ∧ t ≤ 2147483647 := ⟨_, rfl, tI_rng _⟩
    refine ok_lt fun x1_17 e_x1_17 => ?_
    have q_x1_17 : x1_17.toInt = t_16 := by rw [e_x1_17]; exact ht_16
    obtain ⟨t_17, ht_17, g_17⟩ : ∃ t : Int, (x2_1 + 1).toInt = t ∧ t = x2_1.toInt + (1 : Int32).toInt := ⟨_, rfl, by have h9 := fb_addI (x := x2_1) (y := (1 : Int32)) (by omega) (by omega); exact h9⟩
    refine ok_lt fun x2_18 e_x2_18 => ?_
    have q_x2_18 : x2_18.toInt = t_17 := by rw [e_x2_18]; exact ht_17
    exact ih_a_4 _ x1_17 x2_18 (by rw [hn_a_4]; omega) ⟨rfl, (by omega)⟩

set_option maxHeartbeats 4000000 in
theorem s_X11_most {x1 : Int32} {σ : Sto} (hB : BX σ) : OK (f_X11_most x1 σ) (fun v => True) := by
  unfold f_X11_most
  have hF : FR [] [] σ σ := FR.rf
  have k_m1000000 : ((-1000000) : Int32).toInt = -1000000 := by decide +kernel
  have k_m1 : ((-1) : Int32).toInt = -1 := by decide +kernel
  have k_0 : (0 : Int32).toInt = 0 := by decide +kernel
  have k_1 : (1 : Int32).toInt = 1 := by decide +kernel
  have k_2 : (2 : Int32).toInt = 2 := by decide +kernel
  have k_3 : (3 : Int32).toInt = 3 := by decide +kernel
  have k_4 : (4 : Int32).toInt = 4 := by decide +kernel
  have k_5 : (5 : Int32).toInt = 5 := by decide +kernel
  have k_6 : (6 : Int32).toInt = 6 := by decide +kernel
  have k_7 : (7 : Int32).toInt = 7 := by decide +kernel
  have g_2 := gX_0 hB 0
  refine ok_ite (fun c_1 => ?_) (fun c_1 => ?_)
  · rw [fa_eq] at c_1
    exact ok_ret trivial
  · rw [fa_eq] at c_1
    refine ok_ite (fun c_3 => ?_) (fun c_3 => ?_)
    · have c_3 := c_3
      refine ok_calp (s_X8_mostLoops  (σ := σ) hB) (fun v_3 h_4 => ?_)
      have b_v_3 := h_4
      (try dsimp only at b_v_3)
      exact ok_ret trivial
    · have c_3 := c_3
      refine ok_ite (fun c_5 => ?_) (fun c_5 => ?_)
      · have c_5 := c_5
        have g_7 := gX_34 hB 0
        refine ok_ite (fun c_6 => ?_) (fun c_6 => ?_)
        · rw [fa_eq] at c_6
          refine ok_calp (s_X2_deepest  (σ := σ) hB) (fun v_5 h_8 => ?_)
          have b_v_5 := h_8
          (try dsimp only at b_v_5)
          exact ok_ret trivial
        · rw [fa_eq] at c_6
          exact ok_ret trivial
      · have c_5 := c_5
        refine ok_ite (fun c_9 => ?_) (fun c_9 => ?_)
        · have c_9 := c_9
          have g_11 := gX_34 hB 0
          refine ok_ite (fun c_10 => ?_) (fun c_10 => ?_)
          · rw [fa_eq] at c_10
            refine ok_calp (s_X2_ofKind (x1 := (6 : Int32)) (σ := σ) hB (by omega)) (fun v_7 h_12 => ?_)
            have b_v_7 := h_12
            (try dsimp only at b_v_7)
            exact ok_ret trivial
          · rw [fa_eq] at c_10
            exact ok_ret trivial
        · have c_9 := c_9
          refine ok_ite (fun c_13 => ?_) (fun c_13 => ?_)
          · have c_13 := c_13
            have g_15 := gX_34 hB 0
            refine ok_ite (fun c_14 => ?_) (fun c_14 => ?_)
            · rw [fa_eq] at c_14
              refine ok_calp (s_X2_ofKind (x1 := (7 : Int32)) (σ := σ) hB (by omega)) (fun v_9 h_16 => ?_)
              have b_v_9 := h_16
              (try dsimp only at b_v_9)
              exact ok_ret trivial
            · rw [fa_eq] at c_14
              exact ok_ret trivial
          · have c_13 := c_13
            refine ok_ite (fun c_17 => ?_) (fun c_17 => ?_)
            · have c_17 := c_17
              refine ok_calp (s_X1_mostParts  (σ := σ) hB) (fun v_10 h_18 => ?_)
              have b_v_10 := h_18
              (try dsimp only at b_v_10)
              exact ok_ret trivial
            · have c_17 := c_17
              refine ok_ite (fun c_19 => ?_) (fun c_19 => ?_)
              · have c_19 := c_19
                refine ok_calp (s_X3_highest  (σ := σ) hB) (fun v_11 h_20 => ?_)
                have b_v_11 := h_20
                (try dsimp only at b_v_11)
                exact ok_ret trivial
              · have c_19 := c_19
                refine ok_ite (fun c_21 => ?_) (fun c_21 => ?_)
                · have c_21 := c_21
                  refine ok_calp (s_X1_fullest  (σ := σ) hB) (fun v_12 h_22 => ?_)
                  have b_v_12 := h_22
                  (try dsimp only at b_v_12)
                  exact ok_ret trivial
                · have c_21 := c_21
                  refine ok_ite (fun c_23 => ?_) (fun c_23 => ?_)
                  · have c_23 := c_23
                    refine ok_calp (s_X10_howMany  (σ := σ) hB) (fun v_13 h_24 => ?_)
                    have b_v_13 := h_24
                    (try dsimp only at b_v_13)
                    exact ok_ret trivial
                  · have c_23 := c_23
                    exact ok_ret trivial


