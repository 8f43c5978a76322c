set_option maxHeartbeats 4000000 in
theorem s_X11_edge {x1 : Int32} {x2 : Int32} {σ : Sto} (hB : BX σ) : OK (f_X11_edge x1 x2 σ) (fun v => ((-1000000) ≤ v.toInt ∧ v.toInt ≤ 39)) := by
  unfold f_X11_edge
  have hF : FR [] [] σ σ := FR.rf
  have k_m1000000 : ((-1000000) : Int32).toInt = -1000000 := by decide +kernel
  have k_0 : (0 : Int32).toInt = 0 := by decide +kernel
  have k_1 : (1 : Int32).toInt = 1 := by decide +kernel
  have k_2 : (2 : Int32).toInt = 2 := by decide +kernel
  have k_3 : (3 : Int32).toInt = 3 := by decide +kernel
  have k_4 : (4 : Int32).toInt = 4 := by decide +kernel
  have g_2 := gX_0 hB 0
  refine ok_ite (fun c_1 => ?_) (fun c_1 => ?_)
  · rw [fa_eq] at c_1
    exact ok_ret (by (try dsimp only); omega)
  · rw [fa_eq] at c_1
    refine ok_ite (fun c_3 => ?_) (fun c_3 => ?_)
    · rw [fa_lt] at c_3
      exact ok_ret (by (try dsimp only); omega)
    · rw [fa_lt] at c_3
      have g_5 := gX_27 hB 0
      refine ok_ite (fun c_4 => ?_) (fun c_4 => ?_)
      · rw [fa_lt] at c_4
        refine ok_ite (fun c_6 => ?_) (fun c_6 => ?_)
        · have c_6 := c_6
          refine ok_ix ⟨by omega, by omega⟩ ?_
          have g_7 := gX_29 hB (x1.toNatClampNeg)
          refine ok_lt fun v_5 e_v_5 => ?_
          have b_v_5 : 0 ≤ v_5.toInt ∧ v_5.toInt ≤ 39 := by rw [e_v_5]; exact gX_29 hB _
          exact ok_ret (by (try dsimp only); omega)
        · have c_6 := c_6
          refine ok_ite (fun c_8 => ?_) (fun c_8 => ?_)
          · have c_8 := c_8
            refine ok_ix ⟨by omega, by omega⟩ ?_
            have g_9 := gX_30 hB (x1.toNatClampNeg)
            refine ok_lt fun v_6 e_v_6 => ?_
            have b_v_6 : 0 ≤ v_6.toInt ∧ v_6.toInt ≤ 39 := by rw [e_v_6]; exact gX_30 hB _
            exact ok_ret (by (try dsimp only); omega)
          · have c_8 := c_8
            refine ok_ite (fun c_10 => ?_) (fun c_10 => ?_)
            · have c_10 := c_10
              refine ok_ix ⟨by omega, by omega⟩ ?_
              have g_11 := gX_38 hB (x1.toNatClampNeg)
              refine ok_lt fun v_7 e_v_7 => ?_
              have b_v_7 : 0 ≤ v_7.toInt ∧ v_7.toInt ≤ 1 := by rw [e_v_7]; exact gX_38 hB _
              refine ok_ite (fun c_12 => ?_) (fun c_12 => ?_)
              · rw [fa_eq] at c_12
                exact ok_ret (by (try dsimp only); omega)
              · rw [fa_eq] at c_12
                exact ok_ret (by (try dsimp only); omega)
            · have c_10 := c_10
              refine ok_ite (fun c_13 => ?_) (fun c_13 => ?_)
              · have c_13 := c_13
                refine ok_ix ⟨by omega, by omega⟩ ?_
                have g_14 := gX_37 hB (x1.toNatClampNeg)
                refine ok_lt fun v_9 e_v_9 => ?_
                have b_v_9 : 0 ≤ v_9.toInt ∧ v_9.toInt ≤ 1 := by rw [e_v_9]; exact gX_37 hB _
                refine ok_ite (fun c_15 => ?_) (fun c_15 => ?_)
                · rw [fa_eq] at c_15
                  exact ok_ret (by (try dsimp only); omega)
                · rw [fa_eq] at c_15
                  exact ok_ret (by (try dsimp only); omega)
              · have c_13 := c_13
                refine ok_ite (fun c_16 => ?_) (fun c_16 => ?_)
                · have c_16 := c_16
                  refine ok_ix ⟨by omega, by omega⟩ ?_
                  have g_17 := gX_31 hB (x1.toNatClampNeg)
                  refine ok_lt fun v_11 e_v_11 => ?_
                  have b_v_11 : 0 ≤ v_11.toInt ∧ v_11.toInt ≤ 1 := by rw [e_v_11]; exact gX_31 hB _
                  refine ok_ite (fun c_18 => ?_) (fun c_18 => ?_)
                  · rw [fa_eq] at c_18
                    exact ok_ret (by (try dsimp only); omega)
                  · rw [fa_eq] at c_18
                    exact ok_ret (by (try dsimp only); omega)
                · have c_16 := c_16
                  exact ok_ret (by (try dsimp only); omega)
      · rw [fa_lt] at c_4
        exact ok_ret (by (try dsimp only); omega)

set_option maxHeartbeats 4000000 in
theorem s_X11_dominates {x1 : Int32} {x2 : Int32} {σ : Sto} (hB : BX σ) : OK (f_X11_dominates x1 x2 σ) (fun v => (0 ≤ v.toInt ∧ v.toInt ≤ 1)) := by
  unfold f_X11_dominates
  have hF : FR [] [] σ σ := FR.rf
  have k_0 : (0 : Int32).toInt = 0 := by decide +kernel
  have k_1 : (1 : Int32).toInt = 1 := by decide +kernel
  have g9 := gX_20 hB 0
  refine ok_calp (s_X11_isBlock (x1 := x1) (σ := σ) hB) (fun v_1 h_1 => ?_)
  obtain ⟨b_v_1, x_v_1⟩ := h_1
  (try dsimp only at b_v_1 x_v_1)
  refine ok_jn ?_
  refine ok_ite (fun c_2 => ?_) (fun c_2 => ?_)
  · rw [fa_eq] at c_2
    exact ok_ret (by (try dsimp only); omega)
  · rw [fa_eq] at c_2
    refine ok_calp (s_X11_isBlock (x1 := x2) (σ := σ) hB) (fun v_4 h_3 => ?_)
    obtain ⟨b_v_4, x_v_4⟩ := h_3
    (try dsimp only at b_v_4 x_v_4)
    refine ok_ite (fun c_4 => ?_) (fun c_4 => ?_)
    · rw [fa_eq] at c_4
      exact ok_ret (by (try dsimp only); omega)
    · rw [fa_eq] at c_4
      refine ok_ix ⟨by omega, by omega⟩ ?_
      refine ok_lt fun v_6 e_v_6 => ?_
      refine ok_calp (s_X11_isIn (x1 := v_6) (x2 := x1) ) (fun v_7 h_5 => ?_)
      obtain ⟨b_v_7, x_v_7⟩ := h_5
      (try dsimp only at b_v_7 x_v_7)
      refine ok_ite (fun c_6 => ?_) (fun c_6 => ?_)
      · rw [fa_eq] at c_6
        exact ok_ret (by (try dsimp only); omega)
      · rw [fa_eq] at c_6
        exact ok_ret (by (try dsimp only); omega)

set_option maxHeartbeats 4000000 in
theorem s_X11_loop {x1 : Int32} {σ : Sto} (hB : BX σ) : OK (f_X11_loop x1 σ) (fun v => True) := by
  unfold f_X11_loop
  have hF : FR [] [] σ σ := FR.rf
  have k_0 : (0 : Int32).toInt = 0 := by decide +kernel
  have g9 := gX_20 hB 0
  refine ok_calp (s_X11_isBlock (x1 := x1) (σ := σ) hB) (fun v_1 h_1 => ?_)
  obtain ⟨b_v_1, x_v_1⟩ := h_1
  (try dsimp only at b_v_1 x_v_1)
  refine ok_jn ?_
  refine ok_ite (fun c_2 => ?_) (fun c_2 => ?_)
  · rw [fa_eq] at c_2
    exact ok_ret trivial
  · rw [fa_eq] at c_2
    refine ok_calp (s_X11_isIn (x1 := (σ.2 2 0)) (x2 := x1) ) (fun v_4 h_3 => ?_)
    obtain ⟨b_v_4, x_v_4⟩ := h_3
    (try dsimp only at b_v_4 x_v_4)
    refine ok_ite (fun c_4 => ?_) (fun c_4 => ?_)
    · rw [fa_eq] at c_4
      exact ok_ret trivial
    · rw [fa_eq] at c_4
      refine ok_ix ⟨by omega, by omega⟩ ?_
      refine ok_lt fun v_6 e_v_6 => ?_
      exact ok_ret trivial

set_option maxHeartbeats 4000000 in
theorem s_X6_writeSign {x1 : Int32} {σ : Sto} (hB : BX σ) (p_x1 : 0 ≤ x1.toInt ∧ x1.toInt ≤ 1399) (hw : 0 ≤ (σ.1 94 0).toInt ∧ (σ.1 94 0).toInt ≤ 9000) : OK (f_X6_writeSign x1 σ) (fun s => BX s ∧ FR [93, 94] [] σ s ∧ ((σ.1 94 0).toInt ≤ (s.1 94 0).toInt ∧ (s.1 94 0).toInt ≤ (σ.1 94 0).toInt + 1)) := by
  unfold f_X6_writeSign
  have hF : FR [93, 94] [] σ σ := FR.rf
  have k_1 : (1 : Int32).toInt = 1 := by decide +kernel
  have k_400 : (400 : Int32).toInt = 400 := by decide +kernel
  refine ok_jn ?_
  have g_2 := gX_94 hB 0
  refine ok_ite (fun c_1 => ?_) (fun c_1 => ?_)
  · rw [fa_le] at c_1
    obtain ⟨t_3, ht_3, g_3⟩ : ∃ t : Int, ((σ.1 94 0) + 1).toInt = t ∧ t = (σ.1 94 0).toInt + (1 : Int32).toInt := ⟨_, rfl, by have h9 := fb_addI (x := (σ.1 94 0)) (y := (1 : Int32)) (by omega) (by omega); exact h9⟩
    refine ok_lt fun s_2 e_s_2 => ?_
    have hB_s_2 : BX s_2 := by rw [e_s_2]; exact pX_94 hB (by rw [ht_3]; omega)
    have hF_s_2 : FR [93, 94] [] σ s_2 := by rw [e_s_2]; exact FR.st hF (by decide)
    have w_s_2_94 : (s_2.1 94 0).toInt = t_3 := by rw [e_s_2, sti_s, ht_3]
    exact ok_ret ⟨hB_s_2, hF_s_2, (by (try dsimp only); omega)⟩
  · rw [fa_le] at c_1
    refine ok_ix ⟨by omega, by omega⟩ ?_
    refine ok_lt fun s_4 e_s_4 => ?_
    have hB_s_4 : BX s_4 := by rw [e_s_4]; exact pX_93 hB (by omega)
    have hF_s_4 : FR [93, 94] [] σ s_4 := by rw [e_s_4]; exact FR.st hF (by decide)
    have w_s_4_94 : (s_4.1 94 0).toInt = (σ.1 94 0).toInt := by rw [e_s_4]; rfl
    have g_4 := gX_94 hB_s_4 0
    obtain ⟨t_5, ht_5, g_5⟩ : ∃ t : Int, ((s_4.1 94 0) + 1).toInt = t ∧ t = (s_4.1 94 0).toInt + (1 : Int32).toInt := ⟨_, rfl, by have h9 := fb_addI (x := (s_4.1 94 0)) (y := (1 : Int32)) (by omega) (by omega); exact h9⟩
    refine ok_lt fun s_2 e_s_2 => ?_
    have hB_s_2 : BX s_2 := by rw [e_s_2]; exact pX_94 hB_s_4 (by rw [ht_5]; omega)
    have hF_s_2 : FR [93, 94] [] σ s_2 := by rw [e_s_2]; exact FR.st hF_s_4 (by decide)
    have w_s_2_94 : (s_2.1 94 0).toInt = t_5 := by rw [e_s_2, sti_s, ht_5]
    exact ok_ret ⟨hB_s_2, hF_s_2, (by (try dsimp only); omega)⟩

set_option maxHeartbeats 4000000 in
theorem s_X6_writeNumber {x1 : Int32} {σ : Sto} (hB : BX σ) (p_x1 : 0 ≤ x1.toInt ∧ x1.toInt ≤ 999) (hw : 0 ≤ (σ.1 94 0).toInt ∧ (σ.1 94 0).toInt ≤ 6000) : OK (f_X6_writeNumber x1 σ) (fun s => BX s ∧ FR [93, 94] [] σ s ∧ ((σ.1 94 0).toInt ≤ (s.1 94 0).toInt ∧ (s.1 94 0).toInt ≤ (σ.1 94 0).toInt + 3)) := by
  unfold f_X6_writeNumber
  have hF : FR [93, 94] [] σ σ := FR.rf
  have k_9 : (9 : Int32).toInt = 9 := by decide +kernel
  have k_48 : (48 : Int32).toInt = 48 := by decide +kernel
  have k_99 : (99 : Int32).toInt = 99 := by decide +kernel
  refine ok_jn ?_
  refine ok_ite (fun c_1 => ?_) (fun c_1 => ?_)
  · rw [fa_le] at c_1
    refine ok_jn ?_
    refine ok_ite (fun c_2 => ?_) (fun c_2 => ?_)
    · rw [fa_le] at c_2
      obtain ⟨t_3, ht_3, g_3⟩ : ∃ t : Int, (x1 - ((x1 / 10) * 10)).toInt = t ∧ t = x1.toInt % 10 := ⟨_, rfl, by have h9 := rem_I (x := x1) (n := 10) (by omega) (by decide) (by decide); exact h9⟩
      obtain ⟨t_4, ht_4, g_4⟩ : ∃ t : Int, ((48 : Int32) + (x1 - ((x1 / 10) * 10))).toInt = t ∧ t = (48 : Int32).toInt + t_3 := ⟨_, rfl, by have h9 := fb_addI (x := (48 : Int32)) (y := (x1 - ((x1 / 10) * 10))) (by rw [ht_3]; omega) (by rw [ht_3]; omega); rw [ht_3] at h9; exact h9⟩
      refine ok_cals (s_X6_writeSign (x1 := ((48 : Int32) + (x1 - ((x1 / 10) * 10)))) (σ := σ) hB (by rw [ht_4]; omega) (by omega)) (fun s_3 h_5 => ?_)
      obtain ⟨hB_s_3, hG_s_3, x_s_3⟩ := h_5
      (try dsimp only at hB_s_3 hG_s_3 x_s_3)
      have hF_s_3 : FR [93, 94] [] σ s_3 := FR.cal hF hG_s_3 rfl rfl
      exact ok_ret ⟨hB_s_3, hF_s_3, (by (try dsimp only); omega)⟩
    · rw [fa_le] at c_2
      obtain ⟨t_6, ht_6, g_6⟩ : ∃ t : Int, (x1 / 10).toInt = t ∧ t = x1.toInt / 10 := ⟨_, rfl, by have h9 := div_I (x := x1) (n := 10) (by omega) (by decide) (by decide); exact h9⟩
      obtain ⟨t_7, ht_7, g_7⟩ : ∃ t : Int, ((x1 / 10) - (((x1 / 10) / 10) * 10)).toInt = t ∧ t = t_6 % 10 := ⟨_, rfl, by have h9 := rem_I (x := (x1 / 10)) (n := 10) (by rw [ht_6]; omega) (by decide) (by decide); rw [ht_6] at h9; exact h9⟩
      obtain ⟨t_8, ht_8, g_8⟩ : ∃ t : Int, ((48 : Int32) + ((x1 / 10) - (((x1 / 10) / 10) * 10))).toInt = t ∧ t = (48 : Int32).toInt + t_7 := ⟨_, rfl, by have h9 := fb_addI (x := (48 : Int32)) (y := ((x1 / 10) - (((x1 / 10) / 10) * 10))) (by rw [ht_7]; omega) (by rw [ht_7]; omega); rw [ht_7] at h9; exact h9⟩
      refine ok_cals (s_X6_writeSign (x1 := ((48 : Int32) + ((x1 / 10) - (((x1 / 10) / 10) * 10)))) (σ := σ) hB (by rw [ht_8]; omega) (by omega)) (fun s_5 h_9 => ?_)
      obtain ⟨hB_s_5, hG_s_5, x_s_5⟩ := h_9
      (try dsimp only at hB_s_5 hG_s_5 x_s_5)
      have hF_s_5 : FR [93, 94] [] σ s_5 := FR.cal hF hG_s_5 rfl rfl
      obtain ⟨t_10, ht_10, g_10⟩ : ∃ t : Int, (x1 - ((x1 / 10) * 10)).toInt = t ∧ t = x1.toInt % 10 := ⟨_, rfl, by have h9 := rem_I (x := x1) (n := 10) (by omega) (by decide) (by decide); exact h9⟩
      obtain ⟨t_11, ht_11, g_11⟩ : ∃ t : Int, ((48 : Int32) + (x1 - ((x1 / 10) * 10))).toInt = t ∧ t = (48 : Int32).toInt + t_10 := ⟨_, rfl, by have h9 := fb_addI (x := (48 : Int32)) (y := (x1 - ((x1 / 10) * 10))) (by rw [ht_10]; omega) (by rw [ht_10]; omega); rw [ht_10] at h9; exact h9⟩
      refine ok_cals (s_X6_writeSign (x1 := ((48 : Int32) + (x1 - ((x1 / 10) * 10)))) (σ := s_5) hB_s_5 (by rw [ht_11]; omega) (by omega)) (fun s_3 h_12 => ?_)
      obtain ⟨hB_s_3, hG_s_3, x_s_3⟩ := h_12
      (try dsimp only at hB_s_3 hG_s_3 x_s_3)
      have hF_s_3 : FR [93, 94] [] σ s_3 := FR.cal hF_s_5 hG_s_3 rfl rfl
      exact ok_ret ⟨hB_s_3, hF_s_3, (by (try dsimp only); omega)⟩
  · rw [fa_le] at c_1
    obtain ⟨t_13, ht_13, g_13⟩ : ∃ t : Int, (x1 / 100).toInt = t ∧ t = x1.toInt / 100 := ⟨_, rfl, by have h9 := div_I (x := x1) (n := 100) (by omega) (by decide) (by decide); exact h9⟩
    obtain ⟨t_14, ht_14, g_14⟩ : ∃ t : Int, ((48 : Int32) + (x1 / 100)).toInt = t ∧ t = (48 : Int32).toInt + t_13 := ⟨_, rfl, by have h9 := fb_addI (x := (48 : Int32)) (y := (x1 / 100)) (by rw [ht_13]; omega) (by rw [ht_13]; omega); rw [ht_13] at h9; exact h9⟩
    refine ok_cals (s_X6_writeSign (x1 := ((48 : Int32) + (x1 / 100))) (σ := σ) hB (by rw [ht_14]; omega) (by omega)) (fun s_7 h_15 => ?_)
    obtain ⟨hB_s_7, hG_s_7, x_s_7⟩ := h_15
    (try dsimp only at hB_s_7 hG_s_7 x_s_7)
    have hF_s_7 : FR [93, 94] [] σ s_7 := FR.cal hF hG_s_7 rfl rfl
    refine ok_jn ?_
    refine ok_ite (fun c_16 => ?_) (fun c_16 => ?_)
    · rw [fa_le] at c_16
      exfalso; omega
    · rw [fa_le] at c_16
      obtain ⟨t_17, ht_17, g_17⟩ : ∃ t : Int, (x1 / 10).toInt = t ∧ t = x1.toInt / 10 := ⟨_, rfl, by have h9 := div_I (x := x1) (n := 10) (by omega) (by decide) (by decide); exact h9⟩
      obtain ⟨t_18, ht_18, g_18⟩ : ∃ t : Int, ((x1 / 10) - (((x1 / 10) / 10) * 10)).toInt = t ∧ t = t_17 % 10 := ⟨_, rfl, by have h9 := rem_I (x := (x1 / 10)) (n := 10) (by rw [ht_17]; omega) (by decide) (by decide); rw [ht_17] at h9; exact h9⟩
      obtain ⟨t_19, ht_19, g_19⟩ : ∃ t : Int, ((48 : Int32) + ((x1 / 10) - (((x1 / 10) / 10) * 10))).toInt = t ∧ t = (48 : Int32).toInt + t_18 := ⟨_, rfl, by have h9 := fb_addI (x := (48 : Int32)) (y := ((x1 / 10) - (((x1 / 10) / 10) * 10))) (by rw [ht_18]; omega) (by rw [ht_18]; omega); rw [ht_18] at h9; exact h9⟩
      refine ok_cals (s_X6_writeSign (x1 := ((48 : Int32) + ((x1 / 10) - (((x1 / 10) / 10) * 10)))) (σ := s_7) hB_s_7 (by rw [ht_19]; omega) (by omega)) (fun s_5 h_20 => ?_)
      obtain ⟨hB_s_5, hG_s_5, x_s_5⟩ := h_20
      (try dsimp only at hB_s_5 hG_s_5 x_s_5)
      have hF_s_5 : FR [93, 94] [] σ s_5 := FR.cal hF_s_7 hG_s_5 rfl rfl
      obtain ⟨t_21, ht_21, g_21⟩ : ∃ t : Int, (x1 - ((x1 / 10) * 10)).toInt = t ∧ t = x1.toInt % 10 := ⟨_, rfl, by have h9 := rem_I (x := x1) (n := 10) (by omega) (by decide) (by decide); exact h9⟩
      obtain ⟨t_22, ht_22, g_22⟩ : ∃ t : Int, ((48 : Int32) + (x1 - ((x1 / 10) * 10))).toInt = t ∧ t = (48 : Int32).toInt + t_21 := ⟨_, rfl, by have h9 := fb_addI (x := (48 : Int32)) (y := (x1 - ((x1 / 10) * 10))) (by rw [ht_21]; omega) (by rw [ht_21]; omega); rw [ht_21] at h9; exact h9⟩
      refine ok_cals (s_X6_writeSign (x1 := ((48 : Int32) + (x1 - ((x1 / 10) * 10)))) (σ := s_5) hB_s_5 (by rw [ht_22]; omega) (by omega)) (fun s_3 h_23 => ?_)
      obtain ⟨hB_s_3, hG_s_3, x_s_3⟩ := h_23
      (try dsimp only at hB_s_3 hG_s_3 x_s_3)
      have hF_s_3 : FR [93, 94] [] σ s_3 := FR.cal hF_s_5 hG_s_3 rfl rfl
      exact ok_ret ⟨hB_s_3, hF_s_3, (by (try dsimp only); omega)⟩

set_option maxHeartbeats 4000000 in
theorem s_X6_writeName {x1 : Int32} {x2 : Int32} {σ : Sto} (hB : BX σ) (p_x1 : 116 ≤ x1.toInt ∧ x1.toInt ≤ 120) (p_x2 : 0 ≤ x2.toInt ∧ x2.toInt ≤ 999) (hw : 0 ≤ (σ.1 94 0).toInt ∧ (σ.1 94 0).toInt ≤ 5500) : OK (f_X6_writeName x1 x2 σ) (fun s => BX s ∧ FR [93, 94] [] σ s ∧ ((σ.1 94 0).toInt ≤ (s.1 94 0).toInt ∧ (s.1 94 0).toInt ≤ (σ.1 94 0).toInt + 4)) := by
  unfold f_X6_writeName
  have hF : FR [93, 94] [] σ σ := FR.rf
  refine ok_cals (s_X6_writeSign (x1 := x1) (σ := σ) hB (by omega) (by omega)) (fun s_1 h_1 => ?_)
  obtain ⟨hB_s_1, hG_s_1, x_s_1⟩ := h_1
  (try dsimp only at hB_s_1 hG_s_1 x_s_1)
  have hF_s_1 : FR [93, 94] [] σ s_1 := FR.cal hF hG_s_1 rfl rfl
  refine ok_cals (s_X6_writeNumber (x1 := x2) (σ := s_1) hB_s_1 (by omega) (by omega)) (fun s_2 h_2 => ?_)
  obtain ⟨hB_s_2, hG_s_2, x_s_2⟩ := h_2
  (try dsimp only at hB_s_2 hG_s_2 x_s_2)
  have hF_s_2 : FR [93, 94] [] σ s_2 := FR.cal hF_s_1 hG_s_2 rfl rfl
  exact ok_ret ⟨hB_s_2, hF_s_2, (by (try dsimp only); omega)⟩

set_option maxHeartbeats 4000000 in
theorem s_X6_write_s18 {σ : Sto} (hB : BX σ) (hw : 0 ≤ (σ.1 94 0).toInt ∧ (σ.1 94 0).toInt ≤ 8000) : OK (f_X6_write_s18 σ) (fun s => BX s ∧ FR [93, 94] [] σ s ∧ ((σ.1 94 0).toInt ≤ (s.1 94 0).toInt ∧ (s.1 94 0).toInt ≤ (σ.1 94 0).toInt + 2)) := by
  unfold f_X6_write_s18
  have hF : FR [93, 94] [] σ σ := FR.rf
  have k_0 : (0 : Int32).toInt = 0 := by decide +kernel
  have k_1 : (1 : Int32).toInt = 1 := by decide +kernel
  have k_2 : (2 : Int32).toInt = 2 := by decide +kernel
  refine ok_itr2 (fun (n : Nat) (x2_1 : Int32) (s_1 : Sto) => n = (3 - x2_1.toInt).toNat ∧ (0 ≤ x2_1.toInt ∧ x2_1.toInt ≤ 2) ∧ (BX s_1) ∧ (FR [93, 94] [] σ s_1) ∧ ((σ.1 94 0).toInt ≤ (s_1.1 94 0).toInt ∧ (s_1.1 94 0).toInt ≤ (σ.1 94 0).toInt + x2_1.toInt)) ?_ (n := _) ⟨rfl, (by omega), hB, hF, (by omega)⟩ (show _ < 10000000 by omega)
  intro a_2 n x2_1 s_1 hI ih_a_2
  obtain ⟨hn_a_2, b_x2_1, hB_s_1, hF_s_1, hl⟩ := hI
  refine ok_ite (fun c_1 => ?_) (fun c_1 => ?_)
  · rw [fa_le] at c_1
    exact ok_ret ⟨hB_s_1, hF_s_1, (by (try dsimp only); omega)⟩
  · rw [fa_le] at c_1
    refine ok_ix ⟨by omega, by omega⟩ ?_
    obtain ⟨t_2, ht_2, g_2⟩ : ∃ t : Int, (chS 18 x2_1).toInt = t ∧ -2147483648 ≤ t ∧ t ≤ 2147483647 := ⟨_, rfl, tI_rng _⟩
    refine ok_lt fun v_3 e_v_3 => ?_
    have b_v_3 : 0 ≤ v_3.toInt ∧ v_3.toInt ≤ 255 := by rw [e_v_3]; exact ch_rng _ _
    refine ok_cals (s_X6_writeSign (x1 := v_3) (σ := s_1) hB_s_1 (by omega) (by omega)) (fun s_4 h_3 => ?_)
    obtain ⟨hB_s_4, hG_s_4, x_s_4⟩ := h_3
    (try dsimp only at hB_s_4 hG_s_4 x_s_4)
    have hF_s_4 : FR [93, 94] [] σ s_4 := FR.cal hF_s_1 hG_s_4 rfl rfl
    obtain ⟨t_4, ht_4, g_4⟩ : ∃ t : Int, (x2_1 + 1).toInt = t ∧ t = x2_1.toInt + (1 : Int32).toInt := ⟨_, rfl, by have h9 := fb_addI (x := x2_1) (y := (1 : Int32)) (by omega) (by omega); exact h9⟩
    refine ok_lt fun x2_5 e_x2_5 => ?_
    have q_x2_5 : x2_5.toInt = t_4 := by rw [e_x2_5]; exact ht_4
    exact ih_a_2 _ x2_5 s_4 (by rw [hn_a_2]; omega) ⟨rfl, (by omega), hB_s_4, hF_s_4, (by omega)⟩

set_option maxHeartbeats 4000000 in
theorem s_X6_write_s19 {σ : Sto} (hB : BX σ) (hw : 0 ≤ (σ.1 94 0).toInt ∧ (σ.1 94 0).toInt ≤ 8000) : OK (f_X6_write_s19 σ) (fun s => BX s ∧ FR [93, 94] [] σ s ∧ ((σ.1 94 0).toInt ≤ (s.1 94 0).toInt ∧ (s.1 94 0).toInt ≤ (σ.1 94 0).toInt + 1)) := by
  unfold f_X6_write_s19
  have hF : FR [93, 94] [] σ σ := FR.rf
  have k_0 : (0 : Int32).toInt = 0 := by decide +kernel
  have k_1 : (1 : Int32).toInt = 1 := by decide +kernel
  refine ok_itr2 (fun (n : Nat) (x2_1 : Int32) (s_1 : Sto) => n = (2 - x2_1.toInt).toNat ∧ (0 ≤ x2_1.toInt ∧ x2_1.toInt ≤ 1) ∧ (BX s_1) ∧ (FR [93, 94] [] σ s_1) ∧ ((σ.1 94 0).toInt ≤ (s_1.1 94 0).toInt ∧ (s_1.1 94 0).toInt ≤ (σ.1 94 0).toInt + x2_1.toInt)) ?_ (n := _) ⟨rfl, (by omega), hB, hF, (by omega)⟩ (show _ < 10000000 by omega)
  intro a_2 n x2_1 s_1 hI ih_a_2
  obtain ⟨hn_a_2, b_x2_1, hB_s_1, hF_s_1, hl⟩ := hI
  refine ok_ite (fun c_1 => ?_) (fun c_1 => ?_)
  · rw [fa_le] at c_1
    exact ok_ret ⟨hB_s_1, hF_s_1, (by (try dsimp only); omega)⟩
  · rw [fa_le] at c_1
    refine ok_ix ⟨by omega, by omega⟩ ?_
    obtain ⟨t_2, ht_2, g_2⟩ : ∃ t : Int, (chS 19 x2_1).toInt = t ∧ -2147483648 ≤ t ∧ t ≤ 2147483647 := ⟨_, rfl, tI_rng _⟩
    refine ok_lt fun v_3 e_v_3 => ?_
    have b_v_3 : 0 ≤ v_3.toInt ∧ v_3.toInt ≤ 255 := by rw [e_v_3]; exact ch_rng _ _
    refine ok_cals (s_X6_writeSign (x1 := v_3) (σ := s_1) hB_s_1 (by omega) (by omega)) (fun s_4 h_3 => ?_)
    obtain ⟨hB_s_4, hG_s_4, x_s_4⟩ := h_3
    (try dsimp only at hB_s_4 hG_s_4 x_s_4)
    have hF_s_4 : FR [93, 94] [] σ s_4 := FR.cal hF_s_1 hG_s_4 rfl rfl
    obtain ⟨t_4, ht_4, g_4⟩ : ∃ t : Int, (x2_1 + 1).toInt = t ∧ t = x2_1.toInt + (1 : Int32).toInt := ⟨_, rfl, by have h9 := fb_addI (x := x2_1) (y := (1 : Int32)) (by omega) (by omega); exact h9⟩
    refine ok_lt fun x2_5 e_x2_5 => ?_
    have q_x2_5 : x2_5.toInt = t_4 := by rw [e_x2_5]; exact ht_4
    exact ih_a_2 _ x2_5 s_4 (by rw [hn_a_2]; omega) ⟨rfl, (by omega), hB_s_4, hF_s_4, (by omega)⟩

set_option maxHeartbeats 4000000 in
theorem s_X6_write_s20 {σ : Sto} (hB : BX σ) (hw : 0 ≤ (σ.1 94 0).toInt ∧ (σ.1 94 0).toInt ≤ 8000) : OK (f_X6_write_s20 σ) (fun s => BX s ∧ FR [93, 94] [] σ s ∧ ((σ.1 94 0).toInt ≤ (s.1 94 0).toInt ∧ (s.1 94 0).toInt ≤ (σ.1 94 0).toInt + 1)) := by
  unfold f_X6_write_s20
  have hF : FR [93, 94] [] σ σ := FR.rf
  have k_0 : (0 : Int32).toInt = 0 := by decide +kernel
  have k_1 : (1 : Int32).toInt = 1 := by decide +kernel
  refine ok_itr2 (fun (n : Nat) (x2_1 : Int32) (s_1 : Sto) => n = (2 - x2_1.toInt).toNat ∧ (0 ≤ x2_1.toInt ∧ x2_1.toInt ≤ 1) ∧ (BX s_1) ∧ (FR [93, 94] [] σ s_1) ∧ ((σ.1 94 0).toInt ≤ (s_1.1 94 0).toInt ∧ (s_1.1 94 0).toInt ≤ (σ.1 94 0).toInt + x2_1.toInt)) ?_ (n := _) ⟨rfl, (by omega), hB, hF, (by omega)⟩ (show _ < 10000000 by omega)
  intro a_2 n x2_1 s_1 hI ih_a_2
  obtain ⟨hn_a_2, b_x2_1, hB_s_1, hF_s_1, hl⟩ := hI
  refine ok_ite (fun c_1 => ?_) (fun c_1 => ?_)
  · rw [fa_le] at c_1
    exact ok_ret ⟨hB_s_1, hF_s_1, (by (try dsimp only); omega)⟩
  · rw [fa_le] at c_1
    refine ok_ix ⟨by omega, by omega⟩ ?_
    obtain ⟨t_2, ht_2, g_2⟩ : ∃ t : Int, (chS 20 x2_1).toInt = t ∧ -2147483648 ≤ t ∧ t ≤ 2147483647 := ⟨_, rfl, tI_rng _⟩
    refine ok_lt fun v_3 e_v_3 => ?_
    have b_v_3 : 0 ≤ v_3.toInt ∧ v_3.toInt ≤ 255 := by rw [e_v_3]; exact ch_rng _ _
    refine ok_cals (s_X6_writeSign (x1 := v_3) (σ := s_1) hB_s_1 (by omega) (by omega)) (fun s_4 h_3 => ?_)
    obtain ⟨hB_s_4, hG_s_4, x_s_4⟩ := h_3
    (try dsimp only at hB_s_4 hG_s_4 x_s_4)
    have hF_s_4 : FR [93, 94] [] σ s_4 := FR.cal hF_s_1 hG_s_4 rfl rfl
    obtain ⟨t_4, ht_4, g_4⟩ : ∃ t : Int, (x2_1 + 1).toInt = t ∧ t = x2_1.toInt + (1 : Int32).toInt := ⟨_, rfl, by have h9 := fb_addI (x := x2_1) (y := (1 : Int32)) (by omega) (by omega); exact h9⟩
    refine ok_lt fun x2_5 e_x2_5 => ?_
    have q_x2_5 : x2_5.toInt = t_4 := by rw [e_x2_5]; exact ht_4
    exact ih_a_2 _ x2_5 s_4 (by rw [hn_a_2]; omega) ⟨rfl, (by omega), hB_s_4, hF_s_4, (by omega)⟩

set_option maxHeartbeats 4000000 in
theorem sd_X6_writeExpression : ∀ d : Nat, ∀ {x1 : Int32} {x2 : Int32} {σ : Sto} (hB : BX σ) (hPI : PI σ) (hPA : PA σ) (p_x1 : (-1) ≤ x1.toInt ∧ x1.toInt ≤ 511) (p_x2 : 0 ≤ x2.toInt ∧ x2.toInt ≤ 61) (hx1 : x1.toInt < (σ.1 46 0).toInt) (hw : 0 ≤ (σ.1 94 0).toInt ∧ (σ.1 94 0).toInt ≤ 5000 ∧ (x1.toInt ≠ -1 → (σ.1 94 0).toInt + 4 * (σ.1 50 x1.toNatClampNeg).toInt ≤ 5000)), (63 - x2.toInt).toNat ≤ d → OK (f_X6_writeExpression d x1 x2 σ) (fun s => BX s ∧ FR [93, 94] [] σ s ∧ ((σ.1 94 0).toInt ≤ (s.1 94 0).toInt ∧ (x1.toInt ≠ -1 → (s.1 94 0).toInt ≤ (σ.1 94 0).toInt + 4 * (σ.1 50 x1.toNatClampNeg).toInt) ∧ (x1.toInt = -1 → (s.1 94 0).toInt = (σ.1 94 0).toInt))) := by
  intro d
  induction d with
  | zero => intro x1 x2 σ hB hPI hPA p_x1 p_x2 hx1 hw hmu; omega
  | succ d ih =>
  intro x1 x2 σ hB hPI hPA p_x1 p_x2 hx1 hw hmu
  show OK (b_X6_writeExpression (f_X6_writeExpression d) x1 x2 σ) _
  unfold b_X6_writeExpression
  have hF : FR [93, 94] [] σ σ := FR.rf
  have k_m1 : ((-1) : Int32).toInt = -1 := by decide +kernel
  have k_0 : (0 : Int32).toInt = 0 := by decide +kernel
  have k_1 : (1 : Int32).toInt = 1 := by decide +kernel
  have k_45 : (45 : Int32).toInt = 45 := by decide +kernel
  have k_60 : (60 : Int32).toInt = 60 := by decide +kernel
  have k_84 : (84 : Int32).toInt = 84 := by decide +kernel
  have k_88 : (88 : Int32).toInt = 88 := by decide +kernel
  have k_97 : (97 : Int32).toInt = 97 := by decide +kernel
  have k_105 : (105 : Int32).toInt = 105 := by decide +kernel
  have k_107 : (107 : Int32).toInt = 107 := by decide +kernel
  have k_108 : (108 : Int32).toInt = 108 := by decide +kernel
  have k_110 : (110 : Int32).toInt = 110 := by decide +kernel
  have k_116 : (116 : Int32).toInt = 116 := by decide +kernel
  have k_120 : (120 : Int32).toInt = 120 := by decide +kernel
  refine ok_ite (fun c_1 => ?_) (fun c_1 => ?_)
  · rw [fa_eq] at c_1
    exact ok_ret ⟨hB, hF, ⟨by (try dsimp only); omega, fun _ => by (try dsimp only); omega, fun h => by first | rfl | ((try dsimp only); omega)⟩⟩
  · rw [fa_eq] at c_1
    refine ok_ite (fun c_2 => ?_) (fun c_2 => ?_)
    · rw [fa_le] at c_2
      refine ok_ix ⟨by omega, by omega⟩ ?_
      have g_3 := gX_47 hB (x1.toNatClampNeg)
      refine ok_lt fun v_3 e_v_3 => ?_
      have b_v_3 : 0 ≤ v_3.toInt ∧ v_3.toInt ≤ 255 := by rw [e_v_3]; exact gX_47 hB _
      have cx1 := clamp_I (x := x1) (by omega)
      have o1 := hPA.1 x1.toNatClampNeg (by omega)
      have hw3 := hw.2.2 (by omega)
      have hw1 := hw.1
      have hw2 := hw.2.1
      clear hw
      have o1e := o1.2.2
      have o1a := o1.1
      have o1b := o1.2.1
      clear o1
      refine ok_ix ⟨by omega, by omega⟩ ?_
      have g_4 := gX_48 hB (x1.toNatClampNeg)
      refine ok_lt fun v_4 e_v_4 => ?_
      have b_v_4 : 0 ≤ v_4.toInt ∧ v_4.toInt ≤ 999 := by rw [e_v_4]; exact gX_48 hB _
      have y1 : v_3.toInt ≠ 107 → v_4.toInt ≤ 511 := by rw [e_v_3, e_v_4]; exact (hPI _).1
      have y2 : v_3.toInt = 108 → v_4.toInt ≤ 5 := by rw [e_v_3, e_v_4]; exact (hPI _).2.1
      refine ok_ite (fun c_5 => ?_) (fun c_5 => ?_)
      · have c_5 := c_5
        refine ok_cals (s_X6_writeName (x1 := (116 : Int32)) (x2 := v_4) (σ := σ) hB (by omega) (by omega) (by omega)) (fun s_6 h_6 => ?_)
        obtain ⟨hB_s_6, hG_s_6, x_s_6⟩ := h_6
        (try dsimp only at hB_s_6 hG_s_6 x_s_6)
        have hF_s_6 : FR [93, 94] [] σ s_6 := FR.cal hF hG_s_6 rfl rfl
        have hPI_s_6 : PI s_6 := PI.fr hG_s_6 (by decide) hPI
        have hPA_s_6 : PA s_6 := PA.fr hG_s_6 (by decide) hPA
        exact ok_ret ⟨hB_s_6, hF_s_6, ⟨by (try dsimp only); omega, fun _ => by (try dsimp only); omega, fun h => by first | rfl | ((try dsimp only); omega)⟩⟩
      · have c_5 := c_5
        refine ok_ite (fun c_7 => ?_) (fun c_7 => ?_)
        · have c_7 := c_7
          refine ok_cals (s_X6_writeName (x1 := (120 : Int32)) (x2 := v_4) (σ := σ) hB (by omega) (by omega) (by omega)) (fun s_7 h_8 => ?_)
          obtain ⟨hB_s_7, hG_s_7, x_s_7⟩ := h_8
          (try dsimp only at hB_s_7 hG_s_7 x_s_7)
          have hF_s_7 : FR [93, 94] [] σ s_7 := FR.cal hF hG_s_7 rfl rfl
          have hPI_s_7 : PI s_7 := PI.fr hG_s_7 (by decide) hPI
          have hPA_s_7 : PA s_7 := PA.fr hG_s_7 (by decide) hPA
          exact ok_ret ⟨hB_s_7, hF_s_7, ⟨by (try dsimp only); omega, fun _ => by (try dsimp only); omega, fun h => by first | rfl | ((try dsimp only); omega)⟩⟩
        · have c_7 := c_7
          refine ok_ite (fun c_9 => ?_) (fun c_9 => ?_)
          · have c_9 := c_9
            refine ok_cals (s_X6_write_s18  (σ := σ) hB (by omega)) (fun s_8 h_10 => ?_)
            obtain ⟨hB_s_8, hG_s_8, x_s_8⟩ := h_10
            (try dsimp only at hB_s_8 hG_s_8 x_s_8)
            have hF_s_8 : FR [93, 94] [] σ s_8 := FR.cal hF hG_s_8 rfl rfl
            have hPI_s_8 : PI s_8 := PI.fr hG_s_8 (by decide) hPI
            have hPA_s_8 : PA s_8 := PA.fr hG_s_8 (by decide) hPA
            exact ok_ret ⟨hB_s_8, hF_s_8, ⟨by (try dsimp only); omega, fun _ => by (try dsimp only); omega, fun h => by first | rfl | ((try dsimp only); omega)⟩⟩
          · have c_9 := c_9
            refine ok_ite (fun c_11 => ?_) (fun c_11 => ?_)
            · have c_11 := c_11
              refine ok_cals (s_X6_writeNumber (x1 := v_4) (σ := σ) hB (by omega) (by omega)) (fun s_9 h_12 => ?_)
              obtain ⟨hB_s_9, hG_s_9, x_s_9⟩ := h_12
              (try dsimp only at hB_s_9 hG_s_9 x_s_9)
              have hF_s_9 : FR [93, 94] [] σ s_9 := FR.cal hF hG_s_9 rfl rfl
              have hPI_s_9 : PI s_9 := PI.fr hG_s_9 (by decide) hPI
              have hPA_s_9 : PA s_9 := PA.fr hG_s_9 (by decide) hPA
              exact ok_ret ⟨hB_s_9, hF_s_9, ⟨by (try dsimp only); omega, fun _ => by (try dsimp only); omega, fun h => by first | rfl | ((try dsimp only); omega)⟩⟩
            · have c_11 := c_11
              refine ok_ite (fun c_13 => ?_) (fun c_13 => ?_)
              · have c_13 := c_13
                obtain ⟨t_14, ht_14, g_14⟩ : ∃ t : Int, ((97 : Int32) + v_4).toInt = t ∧ t = (97 : Int32).toInt + v_4.toInt := ⟨_, rfl, by have h9 := fb_addI (x := (97 : Int32)) (y := v_4) (by omega) (by omega); exact h9⟩
                refine ok_cals (s_X6_writeSign (x1 := ((97 : Int32) + v_4)) (σ := σ) hB (by rw [ht_14]; omega) (by omega)) (fun s_10 h_15 => ?_)
                obtain ⟨hB_s_10, hG_s_10, x_s_10⟩ := h_15
                (try dsimp only at hB_s_10 hG_s_10 x_s_10)
                have hF_s_10 : FR [93, 94] [] σ s_10 := FR.cal hF hG_s_10 rfl rfl
                have hPI_s_10 : PI s_10 := PI.fr hG_s_10 (by decide) hPI
                have hPA_s_10 : PA s_10 := PA.fr hG_s_10 (by decide) hPA
                exact ok_ret ⟨hB_s_10, hF_s_10, ⟨by (try dsimp only); omega, fun _ => by (try dsimp only); omega, fun h => by first | rfl | ((try dsimp only); omega)⟩⟩
              · have c_13 := c_13
                refine ok_calp (s_X11_isBinary (x1 := v_3) ) (fun v_11 h_16 => ?_)
                obtain ⟨b_v_11, x_v_11⟩ := h_16
                (try dsimp only at b_v_11 x_v_11)
                have c4 := clamp_I (x := v_4) (by omega)
                have n11 : v_11.toInt = 0 → ¬ opB v_3 := fun h q => by have := x_v_11.mpr q; omega
                have uU : v_11.toInt = 0 → opU v_3 → v_4.toInt < x1.toInt ∧ (σ.1 50 x1.toNatClampNeg).toInt = 1 + (σ.1 50 v_4.toNatClampNeg).toInt := fun _ q => ⟨by have h9 := (hPI x1.toNatClampNeg).2.2.2.2.1 (Or.inl (by rw [← e_v_3]; exact q)); rw [← e_v_4] at h9; omega, by rw [o1e, ← e_v_3, pex_U q, ← e_v_4]⟩
                have uB : v_11.toInt = 1 → v_4.toInt < x1.toInt ∧ (σ.1 49 x1.toNatClampNeg).toInt < x1.toInt ∧ (σ.1 50 x1.toNatClampNeg).toInt = 1 + (σ.1 50 v_4.toNatClampNeg).toInt + (σ.1 50 (σ.1 49 x1.toNatClampNeg).toNatClampNeg).toInt := fun h => ⟨by have h9 := (hPI x1.toNatClampNeg).2.2.2.2.1 (Or.inr (by rw [← e_v_3]; exact x_v_11.mp h)); rw [← e_v_4] at h9; omega, by have h9 := (hPI x1.toNatClampNeg).2.2.2.2.2 (by rw [← e_v_3]; exact x_v_11.mp h); omega, by rw [o1e, ← e_v_3, pex_B (x_v_11.mp h), ← e_v_4]⟩
                have sg := hPA.2.2 x1.toNatClampNeg (by omega)
                rw [← e_v_3] at sg
                have u3 : v_11.toInt = 0 → opU v_3 := fun h => by rcases sg with q | q | q; (exfalso; omega); exact q; exact absurd q (n11 h)
                have z11 : v_11.toInt = 0 → v_4.toInt < x1.toInt ∧ (σ.1 50 x1.toNatClampNeg).toInt = 1 + (σ.1 50 v_4.toNatClampNeg).toInt := fun h => uU h (u3 h)
                clear u3 uU n11 sg x_v_11 y1 y2 o1e c_5 c_7 c_9 c_11 c_13
                clear c4
                have z11 := Hid.i z11
                have uB := Hid.i uB
                generalize hp1 : (σ.1 50 x1.toNatClampNeg).toInt = p1 at hw3 o1a o1b z11 uB ⊢
                generalize hw9 : σ.1 49 x1.toNatClampNeg = w9 at uB
                generalize hp4 : (σ.1 50 v_4.toNatClampNeg).toInt = p4 at z11 uB
                generalize hp9 : (σ.1 50 w9.toNatClampNeg).toInt = p9 at uB
                refine ok_ite (fun c_17 => ?_) (fun c_17 => ?_)
                · rw [fa_eq] at c_17
                  refine ok_jn ?_
                  refine ok_ite (fun c_18 => ?_) (fun c_18 => ?_)
                  · rw [fa_eq] at c_18
                    refine ok_cals (s_X6_writeSign (x1 := (45 : Int32)) (σ := σ) hB (by omega) (by omega)) (fun s_14 h_19 => ?_)
                    obtain ⟨hB_s_14, hG_s_14, x_s_14⟩ := h_19
                    (try dsimp only at hB_s_14 hG_s_14 x_s_14)
                    have hF_s_14 : FR [93, 94] [] σ s_14 := FR.cal hF hG_s_14 rfl rfl
                    have hPI_s_14 : PI s_14 := PI.fr hG_s_14 (by decide) hPI
                    have hPA_s_14 : PA s_14 := PA.fr hG_s_14 (by decide) hPA
                    have zz := z11.o (by omega)
                    clear z11 uB
                    obtain ⟨t_20, ht_20, g_20⟩ : ∃ t : Int, (x2 + 1).toInt = t ∧ t = x2.toInt + (1 : Int32).toInt := ⟨_, rfl, by have h9 := fb_addI (x := x2) (y := (1 : Int32)) (by omega) (by omega); exact h9⟩
                    refine ok_cals (ih (x1 := v_4) (x2 := (x2 + 1)) (σ := s_14) hB_s_14 hPI_s_14 hPA_s_14 (by omega) (by rw [ht_20]; omega) (by first | (rw [hG_s_14.1 46 (by decide)]; omega) | (rw [hG_s_17.1 46 (by decide)]; omega) | (rw [s46]; omega)) (by first | (rw [hG_s_14.1 50 (by decide), hp4]; exact ⟨by omega, by omega, fun _ => by omega⟩) | (rw [hG_s_17.1 50 (by decide), hp4]; exact ⟨by omega, by omega, fun _ => by omega⟩) | (rw [f20]; exact ⟨by omega, by omega, fun _ => by omega⟩)) (by rw [ht_20]; omega)) (fun s_15 h_21 => ?_)
                    obtain ⟨hB_s_15, hG_s_15, x_s_15⟩ := h_21
                    (try dsimp only at hB_s_15 hG_s_15 x_s_15)
                    have hF_s_15 : FR [93, 94] [] σ s_15 := FR.cal hF_s_14 hG_s_15 rfl rfl
                    have hPI_s_15 : PI s_15 := PI.fr hG_s_15 (by decide) hPI_s_14
                    have hPA_s_15 : PA s_15 := PA.fr hG_s_15 (by decide) hPA_s_14
                    rw [hG_s_14.1 50 (by decide), hp4] at x_s_15
                    have P15b := x_s_15.2.1 (by omega)
                    have P15a := x_s_15.1
                    clear x_s_15
                    exact ok_ret ⟨hB_s_15, hF_s_15, ⟨by (try dsimp only); omega, fun _ => by (try dsimp only); omega, fun h => by first | rfl | ((try dsimp only); omega)⟩⟩
                  · rw [fa_eq] at c_18
                    refine ok_cals (s_X6_writeSign (x1 := v_3) (σ := σ) hB (by omega) (by omega)) (fun s_14 h_22 => ?_)
                    obtain ⟨hB_s_14, hG_s_14, x_s_14⟩ := h_22
                    (try dsimp only at hB_s_14 hG_s_14 x_s_14)
                    have hF_s_14 : FR [93, 94] [] σ s_14 := FR.cal hF hG_s_14 rfl rfl
                    have hPI_s_14 : PI s_14 := PI.fr hG_s_14 (by decide) hPI
                    have hPA_s_14 : PA s_14 := PA.fr hG_s_14 (by decide) hPA
                    have zz := z11.o (by omega)
                    clear z11 uB
                    obtain ⟨t_23, ht_23, g_23⟩ : ∃ t : Int, (x2 + 1).toInt = t ∧ t = x2.toInt + (1 : Int32).toInt := ⟨_, rfl, by have h9 := fb_addI (x := x2) (y := (1 : Int32)) (by omega) (by omega); exact h9⟩
                    refine ok_cals (ih (x1 := v_4) (x2 := (x2 + 1)) (σ := s_14) hB_s_14 hPI_s_14 hPA_s_14 (by omega) (by rw [ht_23]; omega) (by first | (rw [hG_s_14.1 46 (by decide)]; omega) | (rw [hG_s_17.1 46 (by decide)]; omega) | (rw [s46]; omega)) (by first | (rw [hG_s_14.1 50 (by decide), hp4]; exact ⟨by omega, by omega, fun _ => by omega⟩) | (rw [hG_s_17.1 50 (by decide), hp4]; exact ⟨by omega, by omega, fun _ => by omega⟩) | (rw [f20]; exact ⟨by omega, by omega, fun _ => by omega⟩)) (by rw [ht_23]; omega)) (fun s_15 h_24 => ?_)
                    obtain ⟨hB_s_15, hG_s_15, x_s_15⟩ := h_24
                    (try dsimp only at hB_s_15 hG_s_15 x_s_15)
                    have hF_s_15 : FR [93, 94] [] σ s_15 := FR.cal hF_s_14 hG_s_15 rfl rfl
                    have hPI_s_15 : PI s_15 := PI.fr hG_s_15 (by decide) hPI_s_14
                    have hPA_s_15 : PA s_15 := PA.fr hG_s_15 (by decide) hPA_s_14
                    rw [hG_s_14.1 50 (by decide), hp4] at x_s_15
                    have P15b := x_s_15.2.1 (by omega)
                    have P15a := x_s_15.1
                    clear x_s_15
                    exact ok_ret ⟨hB_s_15, hF_s_15, ⟨by (try dsimp only); omega, fun _ => by (try dsimp only); omega, fun h => by first | rfl | ((try dsimp only); omega)⟩⟩
                · rw [fa_eq] at c_17
                  refine ok_cals (s_X6_write_s19  (σ := σ) hB (by omega)) (fun s_17 h_25 => ?_)
                  obtain ⟨hB_s_17, hG_s_17, x_s_17⟩ := h_25
                  (try dsimp only at hB_s_17 hG_s_17 x_s_17)
                  have hF_s_17 : FR [93, 94] [] σ s_17 := FR.cal hF hG_s_17 rfl rfl
                  have hPI_s_17 : PI s_17 := PI.fr hG_s_17 (by decide) hPI
                  have hPA_s_17 : PA s_17 := PA.fr hG_s_17 (by decide) hPA
                  have zb := uB.o (by omega)
                  have c9 := clamp_I (x := w9) (by rw [← hw9]; exact (gX_49 hB _).1)
                  have l46 : (s_17.1 46 0).toInt = (σ.1 46 0).toInt := by rw [hG_s_17.1 46 (by decide)]
                  have o9 := (hPA.1 w9.toNatClampNeg (by omega)).1
                  have c4 := clamp_I (x := v_4) (by omega)
                  have o4 := (hPA.1 v_4.toNatClampNeg (by omega)).1
                  rw [hp9] at o9
                  rw [hp4] at o4
                  clear z11 uB
                  obtain ⟨t_26, ht_26, g_26⟩ : ∃ t : Int, (x2 + 1).toInt = t ∧ t = x2.toInt + (1 : Int32).toInt := ⟨_, rfl, by have h9 := fb_addI (x := x2) (y := (1 : Int32)) (by omega) (by omega); exact h9⟩
                  refine ok_cals (ih (x1 := v_4) (x2 := (x2 + 1)) (σ := s_17) hB_s_17 hPI_s_17 hPA_s_17 (by omega) (by rw [ht_26]; omega) (by first | (rw [hG_s_14.1 46 (by decide)]; omega) | (rw [hG_s_17.1 46 (by decide)]; omega) | (rw [s46]; omega)) (by first | (rw [hG_s_14.1 50 (by decide), hp4]; exact ⟨by omega, by omega, fun _ => by omega⟩) | (rw [hG_s_17.1 50 (by decide), hp4]; exact ⟨by omega, by omega, fun _ => by omega⟩) | (rw [f20]; exact ⟨by omega, by omega, fun _ => by omega⟩)) (by rw [ht_26]; omega)) (fun s_18 h_27 => ?_)
                  obtain ⟨hB_s_18, hG_s_18, x_s_18⟩ := h_27
                  (try dsimp only at hB_s_18 hG_s_18 x_s_18)
                  have hF_s_18 : FR [93, 94] [] σ s_18 := FR.cal hF_s_17 hG_s_18 rfl rfl
                  have hPI_s_18 : PI s_18 := PI.fr hG_s_18 (by decide) hPI_s_17
                  have hPA_s_18 : PA s_18 := PA.fr hG_s_18 (by decide) hPA_s_17
                  rw [hG_s_17.1 50 (by decide), hp4] at x_s_18
                  have P18 := x_s_18.2.1 (by omega)
                  have P18a := x_s_18.1
                  clear x_s_18
                  refine ok_cals (s_X6_writeSign (x1 := v_3) (σ := s_18) hB_s_18 (by omega) (by omega)) (fun s_19 h_28 => ?_)
                  obtain ⟨hB_s_19, hG_s_19, x_s_19⟩ := h_28
                  (try dsimp only at hB_s_19 hG_s_19 x_s_19)
                  have hF_s_19 : FR [93, 94] [] σ s_19 := FR.cal hF_s_18 hG_s_19 rfl rfl
                  have hPI_s_19 : PI s_19 := PI.fr hG_s_19 (by decide) hPI_s_18
                  have hPA_s_19 : PA s_19 := PA.fr hG_s_19 (by decide) hPA_s_18
                  refine ok_ix ⟨by omega, by omega⟩ ?_
                  have g_29 := gX_49 hB_s_19 (x1.toNatClampNeg)
                  refine ok_lt fun v_20 e_v_20 => ?_
                  have b_v_20 : 0 ≤ v_20.toInt ∧ v_20.toInt ≤ 511 := by rw [e_v_20]; exact gX_49 hB_s_19 _
                  have e20 : v_20 = w9 := by rw [e_v_20, hF_s_19.1 49 (by decide), hw9]
                  have f20 : (s_19.1 50 v_20.toNatClampNeg).toInt = p9 := by rw [hF_s_19.1 50 (by decide), e20, hp9]
                  have i20 : v_20.toInt = w9.toInt := by rw [e20]
                  have s46 : (s_19.1 46 0).toInt = (σ.1 46 0).toInt := by rw [hF_s_19.1 46 (by decide)]
                  refine ok_cals (ih (x1 := v_20) (x2 := (x2 + 1)) (σ := s_19) hB_s_19 hPI_s_19 hPA_s_19 (by omega) (by rw [ht_26]; omega) (by first | (rw [hG_s_14.1 46 (by decide)]; omega) | (rw [hG_s_17.1 46 (by decide)]; omega) | (rw [s46]; omega)) (by first | (rw [hG_s_14.1 50 (by decide), hp4]; exact ⟨by omega, by omega, fun _ => by omega⟩) | (rw [hG_s_17.1 50 (by decide), hp4]; exact ⟨by omega, by omega, fun _ => by omega⟩) | (rw [f20]; exact ⟨by omega, by omega, fun _ => by omega⟩)) (by rw [ht_26]; omega)) (fun s_21 h_30 => ?_)
                  obtain ⟨hB_s_21, hG_s_21, x_s_21⟩ := h_30
                  (try dsimp only at hB_s_21 hG_s_21 x_s_21)
                  have hF_s_21 : FR [93, 94] [] σ s_21 := FR.cal hF_s_19 hG_s_21 rfl rfl
                  have hPI_s_21 : PI s_21 := PI.fr hG_s_21 (by decide) hPI_s_19
                  have hPA_s_21 : PA s_21 := PA.fr hG_s_21 (by decide) hPA_s_19
                  rw [f20] at x_s_21
                  have P21 := x_s_21.2.1 (by omega)
                  have P21a := x_s_21.1
                  clear x_s_21
                  refine ok_cals (s_X6_write_s20  (σ := s_21) hB_s_21 (by omega)) (fun s_22 h_31 => ?_)
                  obtain ⟨hB_s_22, hG_s_22, x_s_22⟩ := h_31
                  (try dsimp only at hB_s_22 hG_s_22 x_s_22)
                  have hF_s_22 : FR [93, 94] [] σ s_22 := FR.cal hF_s_21 hG_s_22 rfl rfl
                  have hPI_s_22 : PI s_22 := PI.fr hG_s_22 (by decide) hPI_s_21
                  have hPA_s_22 : PA s_22 := PA.fr hG_s_22 (by decide) hPA_s_21
                  exact ok_ret ⟨hB_s_22, hF_s_22, ⟨by (try dsimp only); omega, fun _ => by (try dsimp only); omega, fun h => by first | rfl | ((try dsimp only); omega)⟩⟩
    · rw [fa_le] at c_2
      have o1z := (hPA.1 x1.toNatClampNeg (by have := clamp_I (x := x1) (by omega); omega)).1
      exact ok_ret ⟨hB, hF, ⟨by (try dsimp only); omega, fun _ => by (try dsimp only); omega, fun h => by first | rfl | ((try dsimp only); omega)⟩⟩
theorem s_X6_writeExpression {x1 : Int32} {x2 : Int32} {σ : Sto} (hB : BX σ) (hPI : PI σ) (hPA : PA σ) (p_x1 : (-1) ≤ x1.toInt ∧ x1.toInt ≤ 511) (p_x2 : 0 ≤ x2.toInt ∧ x2.toInt ≤ 61) (hx1 : x1.toInt < (σ.1 46 0).toInt) (hw : 0 ≤ (σ.1 94 0).toInt ∧ (σ.1 94 0).toInt ≤ 5000 ∧ (x1.toInt ≠ -1 → (σ.1 94 0).toInt + 4 * (σ.1 50 x1.toNatClampNeg).toInt ≤ 5000)) (hmu : (63 - x2.toInt).toNat ≤ 250) : OK (f_X6_writeExpression 250 x1 x2 σ) (fun s => BX s ∧ FR [93, 94] [] σ s ∧ ((σ.1 94 0).toInt ≤ (s.1 94 0).toInt ∧ (x1.toInt ≠ -1 → (s.1 94 0).toInt ≤ (σ.1 94 0).toInt + 4 * (σ.1 50 x1.toNatClampNeg).toInt) ∧ (x1.toInt = -1 → (s.1 94 0).toInt = (σ.1 94 0).toInt))) := sd_X6_writeExpression 250 hB hPI hPA p_x1 p_x2 hx1 hw hmu

set_option maxHeartbeats 4000000 in
theorem s_X6_widthOf {x1 : Int32} {σ : Sto} (hB : BX σ) (hPI : PI σ) (hPA : PA σ) (p_x1 : (-1) ≤ x1.toInt ∧ x1.toInt ≤ 511) (hx1 : x1.toInt < (σ.1 46 0).toInt) : OK (f_X6_widthOf x1 σ) (fun r => (0 ≤ r.1.toInt ∧ r.1.toInt ≤ 10000) ∧ BX r.2 ∧ FR [93, 94] [] σ r.2) := by
  unfold f_X6_widthOf
  have hF : FR [93, 94] [] σ σ := FR.rf
  have k_0 : (0 : Int32).toInt = 0 := by decide +kernel
  refine ok_lt fun s_1 e_s_1 => ?_
  have hB_s_1 : BX s_1 := by rw [e_s_1]; exact pX_94 hB (by omega)
  have hF_s_1 : FR [93, 94] [] σ s_1 := by rw [e_s_1]; exact FR.st hF (by decide)
  have w_s_1_94 : (s_1.1 94 0).toInt = (0 : Int32).toInt := by rw [e_s_1, sti_s]
  have hPI_s_1 : PI s_1 := by rw [e_s_1]; exact PI.st1 (by decide) hPI
  have hPA_s_1 : PA s_1 := by rw [e_s_1]; exact PA.st1 (by decide) hPA
  have l46 : (s_1.1 46 0).toInt = (σ.1 46 0).toInt := by rw [e_s_1]; rfl
  have PW : x1.toInt ≠ -1 → 4 * (s_1.1 50 x1.toNatClampNeg).toInt ≤ 240 := fun h => by have := (hPA_s_1.1 x1.toNatClampNeg (by have := clamp_I (x := x1) (by omega); omega)).2.1; omega
  refine ok_cals (s_X6_writeExpression (x1 := x1) (x2 := (0 : Int32)) (σ := s_1) hB_s_1 hPI_s_1 hPA_s_1 (by omega) (by omega) (by omega) ⟨by omega, by omega, fun h => by have := PW h; omega⟩ (by omega)) (fun s_2 h_1 => ?_)
  obtain ⟨hB_s_2, hG_s_2, x_s_2⟩ := h_1
  (try dsimp only at hB_s_2 hG_s_2 x_s_2)
  have hF_s_2 : FR [93, 94] [] σ s_2 := FR.cal hF_s_1 hG_s_2 rfl rfl
  have hPI_s_2 : PI s_2 := PI.fr hG_s_2 (by decide) hPI_s_1
  have hPA_s_2 : PA s_2 := PA.fr hG_s_2 (by decide) hPA_s_1
  have g_2 := gX_94 hB_s_2 0
  exact ok_ret ⟨(by (try dsimp only); omega), hB_s_2, hF_s_2⟩

set_option maxHeartbeats 4000000 in
theorem s_X11_statement {x1 : Int32} {x2 : Int32} {x3 : Int32} {σ : Sto} (hB : BX σ) (hPI : PI σ) (hPA : PA σ) (hES : ES σ) (hFS : FS σ) : OK (f_X11_statement x1 x2 x3 σ) (fun r => True ∧ BX r.2 ∧ FR [93, 94] [] σ r.2) := by
  unfold f_X11_statement
  have hF : FR [93, 94] [] σ σ := FR.rf
  have k_m1000000 : ((-1000000) : Int32).toInt = -1000000 := by decide +kernel
  have k_m1 : ((-1) : Int32).toInt = -1 := by decide +kernel
  have k_0 : (0 : Int32).toInt = 0 := by decide +kernel
  have k_1 : (1 : Int32).toInt = 1 := by decide +kernel
  have k_2 : (2 : Int32).toInt = 2 := by decide +kernel
  have k_3 : (3 : Int32).toInt = 3 := by decide +kernel
  have k_4 : (4 : Int32).toInt = 4 := by decide +kernel
  have g9 := gX_20 hB 0
  refine ok_calp (s_X11_isBlock (x1 := x1) (σ := σ) hB) (fun v_1 h_1 => ?_)
  obtain ⟨b_v_1, x_v_1⟩ := h_1
  (try dsimp only at b_v_1 x_v_1)
  refine ok_ite (fun c_2 => ?_) (fun c_2 => ?_)
  · rw [fa_eq] at c_2
    exact ok_ret ⟨trivial, hB, hF⟩
  · rw [fa_eq] at c_2
    refine ok_ite (fun c_3 => ?_) (fun c_3 => ?_)
    · rw [fa_lt] at c_3
      exact ok_ret ⟨trivial, hB, hF⟩
    · rw [fa_lt] at c_3
      obtain ⟨t_4, ht_4, g_4⟩ : ∃ t : Int, (x1 + 1).toInt = t ∧ t = x1.toInt + (1 : Int32).toInt := ⟨_, rfl, by have h9 := fb_addI (x := x1) (y := (1 : Int32)) (by omega) (by omega); exact h9⟩
      refine ok_ix ⟨by rw [ht_4]; omega, by rw [ht_4]; omega⟩ ?_
      have g_5 := gX_56 hB ((x1 + 1).toNatClampNeg)
      refine ok_lt fun v_4 e_v_4 => ?_
      have b_v_4 : 0 ≤ v_4.toInt ∧ v_4.toInt ≤ 320 := by rw [e_v_4]; exact gX_56 hB _
      obtain ⟨ta, hta, ga⟩ : ∃ t : Int, (x1 + 1).toInt = t ∧ t = x1.toInt + 1 := ⟨_, rfl, by have h9 := fb_addI (x := x1) (y := (1 : Int32)) (by omega) (by omega); omega⟩
      have f4 : v_4.toInt ≤ (σ.1 52 0).toInt := by rw [e_v_4]; exact hFS _ (by have := clamp_I (x := (x1 + 1)) (by rw [hta]; omega); have hb := x_v_1 (by omega); rw [this, hta]; omega)
      refine ok_ix ⟨by omega, by omega⟩ ?_
      have g_6 := gX_56 hB (x1.toNatClampNeg)
      refine ok_lt fun v_5 e_v_5 => ?_
      have b_v_5 : 0 ≤ v_5.toInt ∧ v_5.toInt ≤ 320 := by rw [e_v_5]; exact gX_56 hB _
      have q_v_5 : v_5.toInt = (σ.1 56 x1.toNatClampNeg).toInt := by rw [e_v_5]
      obtain ⟨t_8, ht_8, g_8⟩ : ∃ t : Int, (v_4 - v_5).toInt = t ∧ t = v_4.toInt - v_5.toInt := ⟨_, rfl, by have h9 := fb_subI (x := v_4) (y := v_5) (by omega) (by omega); exact h9⟩
      refine ok_ite (fun c_7 => ?_) (fun c_7 => ?_)
      · rw [fa_lt, ht_8] at c_7
        refine ok_ix ⟨by omega, by omega⟩ ?_
        refine ok_lt fun v_7 e_v_7 => ?_
        have b_v_7 : 0 ≤ v_7.toInt ∧ v_7.toInt ≤ 320 := by rw [e_v_7]; exact gX_56 hB _
        have q_v_7 : v_7.toInt = (σ.1 56 x1.toNatClampNeg).toInt := by rw [e_v_7]
        have e75 : v_7.toInt = v_5.toInt := by rw [e_v_7, e_v_5]
        obtain ⟨t_9, ht_9, g_9⟩ : ∃ t : Int, (v_7 + x2).toInt = t ∧ t = v_7.toInt + x2.toInt := ⟨_, rfl, by have h9 := fb_addI (x := v_7) (y := x2) (by omega) (by omega); exact h9⟩
        refine ok_lt fun x4_8 e_x4_8 => ?_
        have q_x4_8 : x4_8.toInt = t_9 := by rw [e_x4_8]; exact ht_9
        refine ok_ix ⟨by omega, by omega⟩ ?_
        have g_10 := gX_55 hB (x4_8.toNatClampNeg)
        refine ok_lt fun v_9 e_v_9 => ?_
        have b_v_9 : (-1) ≤ v_9.toInt ∧ v_9.toInt ≤ 511 := by rw [e_v_9]; exact gX_55 hB _
        have z9 : v_9.toInt < (σ.1 46 0).toInt := by rw [e_v_9]; exact hES _ (by have := clamp_I (x := x4_8) (by omega); omega)
        refine ok_ite (fun c_11 => ?_) (fun c_11 => ?_)
        · have c_11 := c_11
          refine ok_ix ⟨by omega, by omega⟩ ?_
          have g_12 := gX_53 hB (x4_8.toNatClampNeg)
          refine ok_lt fun v_11 e_v_11 => ?_
          have b_v_11 : 0 ≤ v_11.toInt ∧ v_11.toInt ≤ 6 := by rw [e_v_11]; exact gX_53 hB _
          exact ok_ret ⟨trivial, hB, hF⟩
        · have c_11 := c_11
          refine ok_ite (fun c_13 => ?_) (fun c_13 => ?_)
          · have c_13 := c_13
            refine ok_ix ⟨by omega, by omega⟩ ?_
            have g_14 := gX_54 hB (x4_8.toNatClampNeg)
            refine ok_lt fun v_12 e_v_12 => ?_
            have b_v_12 : (-1) ≤ v_12.toInt ∧ v_12.toInt ≤ 160 := by rw [e_v_12]; exact gX_54 hB _
            exact ok_ret ⟨trivial, hB, hF⟩
          · have c_13 := c_13
            refine ok_ite (fun c_15 => ?_) (fun c_15 => ?_)
            · have c_15 := c_15
              refine ok_ite (fun c_16 => ?_) (fun c_16 => ?_)
              · rw [fa_eq] at c_16
                exact ok_ret ⟨trivial, hB, hF⟩
              · rw [fa_eq] at c_16
                refine ok_calv (s_X6_widthOf (x1 := v_9) (σ := σ) hB hPI hPA (by omega) (by omega)) (fun v_14 s_14 h_17 => ?_)
                obtain ⟨b_v_14, hB_s_14, hG_s_14⟩ := h_17
                (try dsimp only at b_v_14 hB_s_14 hG_s_14)
                have hF_s_14 : FR [93, 94] [] σ s_14 := FR.cal hF hG_s_14 rfl rfl
                have f_s_14_20 : (s_14.1 20 0).toInt = (σ.1 20 0).toInt := by rw [hF_s_14.1 20 (by decide)]
                have f_s_14_46 : (s_14.1 46 0).toInt = (σ.1 46 0).toInt := by rw [hF_s_14.1 46 (by decide)]
                have f_s_14_52 : (s_14.1 52 0).toInt = (σ.1 52 0).toInt := by rw [hF_s_14.1 52 (by decide)]
                have hPI_s_14 : PI s_14 := PI.fr hG_s_14 (by decide) hPI
                have hPA_s_14 : PA s_14 := PA.fr hG_s_14 (by decide) hPA
                have hES_s_14 : ES s_14 := ES.fr hG_s_14 (by decide) hES
                have hFS_s_14 : FS s_14 := FS.fr hG_s_14 (by decide) hFS
                exact ok_ret ⟨trivial, hB_s_14, hF_s_14⟩
            · have c_15 := c_15
              refine ok_ite (fun c_18 => ?_) (fun c_18 => ?_)
              · have c_18 := c_18
                refine ok_jn ?_
                refine ok_ite (fun c_19 => ?_) (fun c_19 => ?_)
                · rw [fa_eq] at c_19
                  exact ok_ret ⟨trivial, hB, hF⟩
                · rw [fa_eq] at c_19
                  refine ok_calp (s_X7_hasEffects (x1 := v_9) (σ := σ) hB (by omega)) (fun v_17 h_20 => ?_)
                  have b_v_17 := h_20
                  (try dsimp only at b_v_17)
                  refine ok_ite (fun c_21 => ?_) (fun c_21 => ?_)
                  · rw [fa_eq] at c_21
                    exact ok_ret ⟨trivial, hB, hF⟩
                  · rw [fa_eq] at c_21
                    exact ok_ret ⟨trivial, hB, hF⟩
              · have c_18 := c_18
                refine ok_ite (fun c_22 => ?_) (fun c_22 => ?_)
                · have c_22 := c_22
                  refine ok_ite (fun c_23 => ?_) (fun c_23 => ?_)
                  · rw [fa_eq] at c_23
                    exact ok_ret ⟨trivial, hB, hF⟩
                  · rw [fa_eq] at c_23
                    refine ok_ix ⟨by omega, by omega⟩ ?_
                    refine ok_lt fun v_20 e_v_20 => ?_
                    exact ok_ret ⟨trivial, hB, hF⟩
                · have c_22 := c_22
                  exact ok_ret ⟨trivial, hB, hF⟩
      · rw [fa_lt, ht_8] at c_7
        exact ok_ret ⟨trivial, hB, hF⟩

set_option maxHeartbeats 4000000 in
theorem s_X6_signAt {x1 : Int32} {σ : Sto} (hB : BX σ) : OK (f_X6_signAt x1 σ) (fun v => ((-1) ≤ v.toInt ∧ v.toInt ≤ 1399)) := by
  unfold f_X6_signAt
  have hF : FR [] [] σ σ := FR.rf
  have k_m1 : ((-1) : Int32).toInt = -1 := by decide +kernel
  have k_0 : (0 : Int32).toInt = 0 := by decide +kernel
  have k_400 : (400 : Int32).toInt = 400 := by decide +kernel
  refine ok_jn ?_
  refine ok_ite (fun c_1 => ?_) (fun c_1 => ?_)
  · rw [fa_lt] at c_1
    exact ok_ret (by (try dsimp only); omega)
  · rw [fa_lt] at c_1
    have g_3 := gX_94 hB 0
    refine ok_ite (fun c_2 => ?_) (fun c_2 => ?_)
    · rw [fa_le] at c_2
      exact ok_ret (by (try dsimp only); omega)
    · rw [fa_le] at c_2
      refine ok_ite (fun c_4 => ?_) (fun c_4 => ?_)
      · rw [fa_le] at c_4
        exact ok_ret (by (try dsimp only); omega)
      · rw [fa_le] at c_4
        refine ok_ix ⟨by omega, by omega⟩ ?_
        have g_5 := gX_93 hB (x1.toNatClampNeg)
        refine ok_lt fun v_5 e_v_5 => ?_
        have b_v_5 : 0 ≤ v_5.toInt ∧ v_5.toInt ≤ 1399 := by rw [e_v_5]; exact gX_93 hB _
        exact ok_ret (by (try dsimp only); omega)

set_option maxHeartbeats 4000000 in
theorem s_X11_condition {x1 : Int32} {x2 : Int32} {σ : Sto} (hB : BX σ) (hPI : PI σ) (hPA : PA σ) (hTS : TS σ) : OK (f_X11_condition x1 x2 σ) (fun r => ((-1) ≤ r.1.toInt ∧ r.1.toInt ≤ 32767) ∧ BX r.2 ∧ FR [93, 94] [] σ r.2) := by
  unfold f_X11_condition
  have hF : FR [93, 94] [] σ σ := FR.rf
  have k_m1 : ((-1) : Int32).toInt = -1 := by decide +kernel
  have k_0 : (0 : Int32).toInt = 0 := by decide +kernel
  have g9 := gX_20 hB 0
  refine ok_calp (s_X11_isBlock (x1 := x1) (σ := σ) hB) (fun v_1 h_1 => ?_)
  obtain ⟨b_v_1, x_v_1⟩ := h_1
  (try dsimp only at b_v_1 x_v_1)
  refine ok_ite (fun c_2 => ?_) (fun c_2 => ?_)
  · rw [fa_eq] at c_2
    exact ok_ret ⟨(by (try dsimp only); omega), hB, hF⟩
  · rw [fa_eq] at c_2
    have hb := x_v_1 (by omega)
    refine ok_ix ⟨by omega, by omega⟩ ?_
    have g_3 := gX_57 hB (x1.toNatClampNeg)
    refine ok_lt fun v_3 e_v_3 => ?_
    have b_v_3 : (-1) ≤ v_3.toInt ∧ v_3.toInt ≤ 511 := by rw [e_v_3]; exact gX_57 hB _
    have q_v_3 : v_3.toInt = (σ.1 57 x1.toNatClampNeg).toInt := by rw [e_v_3]
    refine ok_ite (fun c_4 => ?_) (fun c_4 => ?_)
    · rw [fa_eq] at c_4
      exact ok_ret ⟨(by (try dsimp only); omega), hB, hF⟩
    · rw [fa_eq] at c_4
      refine ok_ix ⟨by omega, by omega⟩ ?_
      refine ok_lt fun v_5 e_v_5 => ?_
      have b_v_5 : (-1) ≤ v_5.toInt ∧ v_5.toInt ≤ 511 := by rw [e_v_5]; exact gX_57 hB _
      have q_v_5 : v_5.toInt = (σ.1 57 x1.toNatClampNeg).toInt := by rw [e_v_5]
      have z5 : v_5.toInt < (σ.1 46 0).toInt := by rw [e_v_5]; exact hTS _ (by have := clamp_I (x := x1) (by omega); omega)
      refine ok_calv (s_X6_widthOf (x1 := v_5) (σ := σ) hB hPI hPA (by omega) (by omega)) (fun v_6 s_6 h_5 => ?_)
      obtain ⟨b_v_6, hB_s_6, hG_s_6⟩ := h_5
      (try dsimp only at b_v_6 hB_s_6 hG_s_6)
      have hF_s_6 : FR [93, 94] [] σ s_6 := FR.cal hF hG_s_6 rfl rfl
      have hPI_s_6 : PI s_6 := PI.fr hG_s_6 (by decide) hPI
      have hPA_s_6 : PA s_6 := PA.fr hG_s_6 (by decide) hPA
      have hTS_s_6 : TS s_6 := TS.fr hG_s_6 (by decide) hTS
      refine ok_ite (fun c_6 => ?_) (fun c_6 => ?_)
      · rw [fa_eq] at c_6
        exact ok_ret ⟨(by (try dsimp only); omega), hB_s_6, hF_s_6⟩
      · rw [fa_eq] at c_6
        refine ok_calp (s_X6_signAt (x1 := x2) (σ := s_6) hB_s_6) (fun v_8 h_7 => ?_)
        have b_v_8 := h_7
        (try dsimp only at b_v_8)
        exact ok_ret ⟨(by (try dsimp only); omega), hB_s_6, hF_s_6⟩

set_option maxHeartbeats 4000000 in
theorem s_X11_isLine {x1 : Int32} {σ : Sto} (hB : BX σ) : OK (f_X11_isLine x1 σ) (fun v => (0 ≤ v.toInt ∧ v.toInt ≤ 1) ∧ ((v.toInt = 1 → 0 ≤ x1.toInt ∧ x1.toInt < (σ.1 68 0).toInt))) := by
  unfold f_X11_isLine
  have hF : FR [] [] σ σ := FR.rf
  have k_0 : (0 : Int32).toInt = 0 := by decide +kernel
  have k_1 : (1 : Int32).toInt = 1 := by decide +kernel
  refine ok_jn ?_
  have g_2 := gX_0 hB 0
  refine ok_ite (fun c_1 => ?_) (fun c_1 => ?_)
  · rw [fa_eq] at c_1
    exact ok_ret ⟨(by (try dsimp only); omega), (by (try dsimp only); omega)⟩
  · rw [fa_eq] at c_1
    have g_4 := gX_34 hB 0
    refine ok_ite (fun c_3 => ?_) (fun c_3 => ?_)
    · rw [fa_eq] at c_3
      refine ok_ite (fun c_5 => ?_) (fun c_5 => ?_)
      · rw [fa_lt] at c_5
        exact ok_ret ⟨(by (try dsimp only); omega), (by (try dsimp only); omega)⟩
      · rw [fa_lt] at c_5
        have g_7 := gX_68 hB 0
        refine ok_ite (fun c_6 => ?_) (fun c_6 => ?_)
        · rw [fa_le] at c_6
          exact ok_ret ⟨(by (try dsimp only); omega), (by (try dsimp only); omega)⟩
        · rw [fa_le] at c_6
          exact ok_ret ⟨(by (try dsimp only); omega), (by (try dsimp only); omega)⟩
    · rw [fa_eq] at c_3
      exact ok_ret ⟨(by (try dsimp only); omega), (by (try dsimp only); omega)⟩

set_option maxHeartbeats 4000000 in
theorem s_X11_line {x1 : Int32} {x2 : Int32} {σ : Sto} (hB : BX σ) : OK (f_X11_line x1 x2 σ) (fun v => True) := by
  unfold f_X11_line
  have hF : FR [] [] σ σ := FR.rf
  have k_m1000000 : ((-1000000) : Int32).toInt = -1000000 := by decide +kernel
  have k_0 : (0 : Int32).toInt = 0 := by decide +kernel
  have k_1 : (1 : Int32).toInt = 1 := by decide +kernel
  have k_2 : (2 : Int32).toInt = 2 := by decide +kernel
  have g9 := gX_68 hB 0
  refine ok_calp (s_X11_isLine (x1 := x1) (σ := σ) hB) (fun v_1 h_1 => ?_)
  obtain ⟨b_v_1, x_v_1⟩ := h_1
  (try dsimp only at b_v_1 x_v_1)
  refine ok_ite (fun c_2 => ?_) (fun c_2 => ?_)
  · rw [fa_eq] at c_2
    exact ok_ret trivial
  · rw [fa_eq] at c_2
    refine ok_ite (fun c_3 => ?_) (fun c_3 => ?_)
    · have c_3 := c_3
      refine ok_ix ⟨by omega, by omega⟩ ?_
      have g_4 := gX_69 hB (x1.toNatClampNeg)
      refine ok_lt fun v_4 e_v_4 => ?_
      have b_v_4 : 0 ≤ v_4.toInt ∧ v_4.toInt ≤ 12 := by rw [e_v_4]; exact gX_69 hB _
      exact ok_ret trivial
    · have c_3 := c_3
      refine ok_ite (fun c_5 => ?_) (fun c_5 => ?_)
      · have c_5 := c_5
        refine ok_ix ⟨by omega, by omega⟩ ?_
        have g_6 := gX_70 hB (x1.toNatClampNeg)
        refine ok_lt fun v_5 e_v_5 => ?_
        have b_v_5 : 0 ≤ v_5.toInt ∧ v_5.toInt ≤ 39 := by rw [e_v_5]; exact gX_70 hB _
        exact ok_ret trivial
      · have c_5 := c_5
        refine ok_ite (fun c_7 => ?_) (fun c_7 => ?_)
        · have c_7 := c_7
          refine ok_ix ⟨by omega, by omega⟩ ?_
          refine ok_lt fun v_6 e_v_6 => ?_
          exact ok_ret trivial
        · have c_7 := c_7
          exact ok_ret trivial

set_option maxHeartbeats 4000000 in
theorem s_X6_write_s7 {σ : Sto} (hB : BX σ) (hw : 0 ≤ (σ.1 94 0).toInt ∧ (σ.1 94 0).toInt ≤ 8000) : OK (f_X6_write_s7 σ) (fun s => BX s ∧ FR [93, 94] [] σ s ∧ ((σ.1 94 0).toInt ≤ (s.1 94 0).toInt ∧ (s.1 94 0).toInt ≤ (σ.1 94 0).toInt + 1)) := by
  unfold f_X6_write_s7
  have hF : FR [93, 94] [] σ σ := FR.rf
  have k_0 : (0 : Int32).toInt = 0 := by decide +kernel
  have k_1 : (1 : Int32).toInt = 1 := by decide +kernel
  refine ok_itr2 (fun (n : Nat) (x2_1 : Int32) (s_1 : Sto) => n = (2 - x2_1.toInt).toNat ∧ (0 ≤ x2_1.toInt ∧ x2_1.toInt ≤ 1) ∧ (BX s_1) ∧ (FR [93, 94] [] σ s_1) ∧ ((σ.1 94 0).toInt ≤ (s_1.1 94 0).toInt ∧ (s_1.1 94 0).toInt ≤ (σ.1 94 0).toInt + x2_1.toInt)) ?_ (n := _) ⟨rfl, (by omega), hB, hF, (by omega)⟩ (show _ < 10000000 by omega)
  intro a_2 n x2_1 s_1 hI ih_a_2
  obtain ⟨hn_a_2, b_x2_1, hB_s_1, hF_s_1, hl⟩ := hI
  refine ok_ite (fun c_1 => ?_) (fun c_1 => ?_)
  · rw [fa_le] at c_1
    exact ok_ret ⟨hB_s_1, hF_s_1, (by (try dsimp only); omega)⟩
  · rw [fa_le] at c_1
    refine ok_ix ⟨by omega, by omega⟩ ?_
    obtain ⟨t_2, ht_2, g_2⟩ : ∃ t : Int, (chS 7 x2_1).toInt = t ∧ -2147483648 ≤ t ∧ t ≤ 2147483647 := ⟨_, rfl, tI_rng _⟩
    refine ok_lt fun v_3 e_v_3 => ?_
    have b_v_3 : 0 ≤ v_3.toInt ∧ v_3.toInt ≤ 255 := by rw [e_v_3]; exact ch_rng _ _
    refine ok_cals (s_X6_writeSign (x1 := v_3) (σ := s_1) hB_s_1 (by omega) (by omega)) (fun s_4 h_3 => ?_)
    obtain ⟨hB_s_4, hG_s_4, x_s_4⟩ := h_3
    (try dsimp only at hB_s_4 hG_s_4 x_s_4)
    have hF_s_4 : FR [93, 94] [] σ s_4 := FR.cal hF_s_1 hG_s_4 rfl rfl
    obtain ⟨t_4, ht_4, g_4⟩ : ∃ t : Int, (x2_1 + 1).toInt = t ∧ t = x2_1.toInt + (1 : Int32).toInt := ⟨_, rfl, by have h9 := fb_addI (x := x2_1) (y := (1 : Int32)) (by omega) (by omega); exact h9⟩
    refine ok_lt fun x2_5 e_x2_5 => ?_
    have q_x2_5 : x2_5.toInt = t_4 := by rw [e_x2_5]; exact ht_4
    exact ih_a_2 _ x2_5 s_4 (by rw [hn_a_2]; omega) ⟨rfl, (by omega), hB_s_4, hF_s_4, (by omega)⟩

set_option maxHeartbeats 4000000 in
theorem s_X6_write_s14 {σ : Sto} (hB : BX σ) (hw : 0 ≤ (σ.1 94 0).toInt ∧ (σ.1 94 0).toInt ≤ 8000) : OK (f_X6_write_s14 σ) (fun s => BX s ∧ FR [93, 94] [] σ s ∧ ((σ.1 94 0).toInt ≤ (s.1 94 0).toInt ∧ (s.1 94 0).toInt ≤ (σ.1 94 0).toInt + 1)) := by
  unfold f_X6_write_s14
  have hF : FR [93, 94] [] σ σ := FR.rf
  have k_0 : (0 : Int32).toInt = 0 := by decide +kernel
  have k_1 : (1 : Int32).toInt = 1 := by decide +kernel
  refine ok_itr2 (fun (n : Nat) (x2_1 : Int32) (s_1 : Sto) => n = (2 - x2_1.toInt).toNat ∧ (0 ≤ x2_1.toInt ∧ x2_1.toInt ≤ 1) ∧ (BX s_1) ∧ (FR [93, 94] [] σ s_1) ∧ ((σ.1 94 0).toInt ≤ (s_1.1 94 0).toInt ∧ (s_1.1 94 0).toInt ≤ (σ.1 94 0).toInt + x2_1.toInt)) ?_ (n := _) ⟨rfl, (by omega), hB, hF, (by omega)⟩ (show _ < 10000000 by omega)
  intro a_2 n x2_1 s_1 hI ih_a_2
  obtain ⟨hn_a_2, b_x2_1, hB_s_1, hF_s_1, hl⟩ := hI
  refine ok_ite (fun c_1 => ?_) (fun c_1 => ?_)
  · rw [fa_le] at c_1
    exact ok_ret ⟨hB_s_1, hF_s_1, (by (try dsimp only); omega)⟩
  · rw [fa_le] at c_1
    refine ok_ix ⟨by omega, by omega⟩ ?_
    obtain ⟨t_2, ht_2, g_2⟩ : ∃ t : Int, (chS 14 x2_1).toInt = t ∧ -2147483648 ≤ t ∧ t ≤ 2147483647 := ⟨_, rfl, tI_rng _⟩
    refine ok_lt fun v_3 e_v_3 => ?_
    have b_v_3 : 0 ≤ v_3.toInt ∧ v_3.toInt ≤ 255 := by rw [e_v_3]; exact ch_rng _ _
    refine ok_cals (s_X6_writeSign (x1 := v_3) (σ := s_1) hB_s_1 (by omega) (by omega)) (fun s_4 h_3 => ?_)
    obtain ⟨hB_s_4, hG_s_4, x_s_4⟩ := h_3
    (try dsimp only at hB_s_4 hG_s_4 x_s_4)
    have hF_s_4 : FR [93, 94] [] σ s_4 := FR.cal hF_s_1 hG_s_4 rfl rfl
    obtain ⟨t_4, ht_4, g_4⟩ : ∃ t : Int, (x2_1 + 1).toInt = t ∧ t = x2_1.toInt + (1 : Int32).toInt := ⟨_, rfl, by have h9 := fb_addI (x := x2_1) (y := (1 : Int32)) (by omega) (by omega); exact h9⟩
    refine ok_lt fun x2_5 e_x2_5 => ?_
    have q_x2_5 : x2_5.toInt = t_4 := by rw [e_x2_5]; exact ht_4
    exact ih_a_2 _ x2_5 s_4 (by rw [hn_a_2]; omega) ⟨rfl, (by omega), hB_s_4, hF_s_4, (by omega)⟩

set_option maxHeartbeats 4000000 in
theorem s_X6_write_s15 {σ : Sto} (hB : BX σ) (hw : 0 ≤ (σ.1 94 0).toInt ∧ (σ.1 94 0).toInt ≤ 8000) : OK (f_X6_write_s15 σ) (fun s => BX s ∧ FR [93, 94] [] σ s ∧ ((σ.1 94 0).toInt ≤ (s.1 94 0).toInt ∧ (s.1 94 0).toInt ≤ (σ.1 94 0).toInt + 4)) := by
  unfold f_X6_write_s15
  have hF : FR [93, 94] [] σ σ := FR.rf
  have k_0 : (0 : Int32).toInt = 0 := by decide +kernel
  have k_1 : (1 : Int32).toInt = 1 := by decide +kernel
  have k_4 : (4 : Int32).toInt = 4 := by decide +kernel
  refine ok_itr2 (fun (n : Nat) (x2_1 : Int32) (s_1 : Sto) => n = (5 - x2_1.toInt).toNat ∧ (0 ≤ x2_1.toInt ∧ x2_1.toInt ≤ 4) ∧ (BX s_1) ∧ (FR [93, 94] [] σ s_1) ∧ ((σ.1 94 0).toInt ≤ (s_1.1 94 0).toInt ∧ (s_1.1 94 0).toInt ≤ (σ.1 94 0).toInt + x2_1.toInt)) ?_ (n := _) ⟨rfl, (by omega), hB, hF, (by omega)⟩ (show _ < 10000000 by omega)
  intro a_2 n x2_1 s_1 hI ih_a_2
  obtain ⟨hn_a_2, b_x2_1, hB_s_1, hF_s_1, hl⟩ := hI
  refine ok_ite (fun c_1 => ?_) (fun c_1 => ?_)
  · rw [fa_le] at c_1
    exact ok_ret ⟨hB_s_1, hF_s_1, (by (try dsimp only); omega)⟩
  · rw [fa_le] at c_1
    refine ok_ix ⟨by omega, by omega⟩ ?_
    obtain ⟨t_2, ht_2, g_2⟩ : ∃ t : Int, (chS 15 x2_1).toInt = t ∧ -2147483648 ≤ t ∧ t ≤ 2147483647 := ⟨_, rfl, tI_rng _⟩
    refine ok_lt fun v_3 e_v_3 => ?_
    have b_v_3 : 0 ≤ v_3.toInt ∧ v_3.toInt ≤ 255 := by rw [e_v_3]; exact ch_rng _ _
    refine ok_cals (s_X6_writeSign (x1 := v_3) (σ := s_1) hB_s_1 (by omega) (by omega)) (fun s_4 h_3 => ?_)
    obtain ⟨hB_s_4, hG_s_4, x_s_4⟩ := h_3
    (try dsimp only at hB_s_4 hG_s_4 x_s_4)
    have hF_s_4 : FR [93, 94] [] σ s_4 := FR.cal hF_s_1 hG_s_4 rfl rfl
    obtain ⟨t_4, ht_4, g_4⟩ : ∃ t : Int, (x2_1 + 1).toInt = t ∧ t = x2_1.toInt + (1 : Int32).toInt := ⟨_, rfl, by have h9 := fb_addI (x := x2_1) (y := (1 : Int32)) (by omega) (by omega); exact h9⟩
    refine ok_lt fun x2_5 e_x2_5 => ?_
    have q_x2_5 : x2_5.toInt = t_4 := by rw [e_x2_5]; exact ht_4
    exact ih_a_2 _ x2_5 s_4 (by rw [hn_a_2]; omega) ⟨rfl, (by omega), hB_s_4, hF_s_4, (by omega)⟩

set_option maxHeartbeats 4000000 in
theorem s_X6_write_s16 {σ : Sto} (hB : BX σ) (hw : 0 ≤ (σ.1 94 0).toInt ∧ (σ.1 94 0).toInt ≤ 8000) : OK (f_X6_write_s16 σ) (fun s => BX s ∧ FR [93, 94] [] σ s ∧ ((σ.1 94 0).toInt ≤ (s.1 94 0).toInt ∧ (s.1 94 0).toInt ≤ (σ.1 94 0).toInt + 6)) := by
  unfold f_X6_write_s16
  have hF : FR [93, 94] [] σ σ := FR.rf
  have k_0 : (0 : Int32).toInt = 0 := by decide +kernel
  have k_1 : (1 : Int32).toInt = 1 := by decide +kernel
  have k_6 : (6 : Int32).toInt = 6 := by decide +kernel
  refine ok_itr2 (fun (n : Nat) (x2_1 : Int32) (s_1 : Sto) => n = (7 - x2_1.toInt).toNat ∧ (0 ≤ x2_1.toInt ∧ x2_1.toInt ≤ 6) ∧ (BX s_1) ∧ (FR [93, 94] [] σ s_1) ∧ ((σ.1 94 0).toInt ≤ (s_1.1 94 0).toInt ∧ (s_1.1 94 0).toInt ≤ (σ.1 94 0).toInt + x2_1.toInt)) ?_ (n := _) ⟨rfl, (by omega), hB, hF, (by omega)⟩ (show _ < 10000000 by omega)
  intro a_2 n x2_1 s_1 hI ih_a_2
  obtain ⟨hn_a_2, b_x2_1, hB_s_1, hF_s_1, hl⟩ := hI
  refine ok_ite (fun c_1 => ?_) (fun c_1 => ?_)
  · rw [fa_le] at c_1
    exact ok_ret ⟨hB_s_1, hF_s_1, (by (try dsimp only); omega)⟩
  · rw [fa_le] at c_1
    refine ok_ix ⟨by omega, by omega⟩ ?_
    obtain ⟨t_2, ht_2, g_2⟩ : ∃ t : Int, (chS 16 x2_1).toInt = t ∧ -2147483648 ≤ t ∧ t ≤ 2147483647 := ⟨_, rfl, tI_rng _⟩
    refine ok_lt fun v_3 e_v_3 => ?_
    have b_v_3 : 0 ≤ v_3.toInt ∧ v_3.toInt ≤ 255 := by rw [e_v_3]; exact ch_rng _ _
    refine ok_cals (s_X6_writeSign (x1 := v_3) (σ := s_1) hB_s_1 (by omega) (by omega)) (fun s_4 h_3 => ?_)
    obtain ⟨hB_s_4, hG_s_4, x_s_4⟩ := h_3
    (try dsimp only at hB_s_4 hG_s_4 x_s_4)
    have hF_s_4 : FR [93, 94] [] σ s_4 := FR.cal hF_s_1 hG_s_4 rfl rfl
    obtain ⟨t_4, ht_4, g_4⟩ : ∃ t : Int, (x2_1 + 1).toInt = t ∧ t = x2_1.toInt + (1 : Int32).toInt := ⟨_, rfl, by have h9 := fb_addI (x := x2_1) (y := (1 : Int32)) (by omega) (by omega); exact h9⟩
    refine ok_lt fun x2_5 e_x2_5 => ?_
    have q_x2_5 : x2_5.toInt = t_4 := by rw [e_x2_5]; exact ht_4
    exact ih_a_2 _ x2_5 s_4 (by rw [hn_a_2]; omega) ⟨rfl, (by omega), hB_s_4, hF_s_4, (by omega)⟩

set_option maxHeartbeats 4000000 in
theorem s_X6_write_s17 {σ : Sto} (hB : BX σ) (hw : 0 ≤ (σ.1 94 0).toInt ∧ (σ.1 94 0).toInt ≤ 8000) : OK (f_X6_write_s17 σ) (fun s => BX s ∧ FR [93, 94] [] σ s ∧ ((σ.1 94 0).toInt ≤ (s.1 94 0).toInt ∧ (s.1 94 0).toInt ≤ (σ.1 94 0).toInt + 6)) := by
  unfold f_X6_write_s17
  have hF : FR [93, 94] [] σ σ := FR.rf
  have k_0 : (0 : Int32).toInt = 0 := by decide +kernel
  have k_1 : (1 : Int32).toInt = 1 := by decide +kernel
  have k_6 : (6 : Int32).toInt = 6 := by decide +kernel
  refine ok_itr2 (fun (n : Nat) (x2_1 : Int32) (s_1 : Sto) => n = (7 - x2_1.toInt).toNat ∧ (0 ≤ x2_1.toInt ∧ x2_1.toInt ≤ 6) ∧ (BX s_1) ∧ (FR [93, 94] [] σ s_1) ∧ ((σ.1 94 0).toInt ≤ (s_1.1 94 0).toInt ∧ (s_1.1 94 0).toInt ≤ (σ.1 94 0).toInt + x2_1.toInt)) ?_ (n := _) ⟨rfl, (by omega), hB, hF, (by omega)⟩ (show _ < 10000000 by omega)
  intro a_2 n x2_1 s_1 hI ih_a_2
  obtain ⟨hn_a_2, b_x2_1, hB_s_1, hF_s_1, hl⟩ := hI
  refine ok_ite (fun c_1 => ?_) (fun c_1 => ?_)
  · rw [fa_le] at c_1
    exact ok_ret ⟨hB_s_1, hF_s_1, (by (try dsimp only); omega)⟩
  · rw [fa_le] at c_1
    refine ok_ix ⟨by omega, by omega⟩ ?_
    obtain ⟨t_2, ht_2, g_2⟩ : ∃ t : Int, (chS 17 x2_1).toInt = t ∧ -2147483648 ≤ t ∧ t ≤ 2147483647 := ⟨_, rfl, tI_rng _⟩
    refine ok_lt fun v_3 e_v_3 => ?_
    have b_v_3 : 0 ≤ v_3.toInt ∧ v_3.toInt ≤ 255 := by rw [e_v_3]; exact ch_rng _ _
    refine ok_cals (s_X6_writeSign (x1 := v_3) (σ := s_1) hB_s_1 (by omega) (by omega)) (fun s_4 h_3 => ?_)
    obtain ⟨hB_s_4, hG_s_4, x_s_4⟩ := h_3
    (try dsimp only at hB_s_4 hG_s_4 x_s_4)
    have hF_s_4 : FR [93, 94] [] σ s_4 := FR.cal hF_s_1 hG_s_4 rfl rfl
    obtain ⟨t_4, ht_4, g_4⟩ : ∃ t : Int, (x2_1 + 1).toInt = t ∧ t = x2_1.toInt + (1 : Int32).toInt := ⟨_, rfl, by have h9 := fb_addI (x := x2_1) (y := (1 : Int32)) (by omega) (by omega); exact h9⟩
    refine ok_lt fun x2_5 e_x2_5 => ?_
    have q_x2_5 : x2_5.toInt = t_4 := by rw [e_x2_5]; exact ht_4
    exact ih_a_2 _ x2_5 s_4 (by rw [hn_a_2]; omega) ⟨rfl, (by omega), hB_s_4, hF_s_4, (by omega)⟩

set_option maxHeartbeats 4000000 in
theorem s_X6_writeStatement {x1 : Int32} {σ : Sto} (hB : BX σ) (hPI : PI σ) (hPA : PA σ) (hSI : SI σ) (hES : ES σ) (p_x1 : 0 ≤ x1.toInt ∧ x1.toInt ≤ 319) (hx1 : x1.toInt < (σ.1 52 0).toInt) (hw : (σ.1 94 0).toInt = 0) : OK (f_X6_writeStatement x1 σ) (fun s => BX s ∧ FR [93, 94] [] σ s) := by
  unfold f_X6_writeStatement
  have hF : FR [93, 94] [] σ σ := FR.rf
  have k_m1 : ((-1) : Int32).toInt = -1 := by decide +kernel
  have k_0 : (0 : Int32).toInt = 0 := by decide +kernel
  have k_1 : (1 : Int32).toInt = 1 := by decide +kernel
  have k_2 : (2 : Int32).toInt = 2 := by decide +kernel
  have k_3 : (3 : Int32).toInt = 3 := by decide +kernel
  have k_5 : (5 : Int32).toInt = 5 := by decide +kernel
  have k_6 : (6 : Int32).toInt = 6 := by decide +kernel
  have k_97 : (97 : Int32).toInt = 97 := by decide +kernel
  have k_116 : (116 : Int32).toInt = 116 := by decide +kernel
  have k_120 : (120 : Int32).toInt = 120 := by decide +kernel
  refine ok_ix ⟨by omega, by omega⟩ ?_
  have g_1 := gX_54 hB (x1.toNatClampNeg)
  refine ok_lt fun v_1 e_v_1 => ?_
  have b_v_1 : (-1) ≤ v_1.toInt ∧ v_1.toInt ≤ 160 := by rw [e_v_1]; exact gX_54 hB _
  have cx1 := clamp_I (x := x1) (by omega)
  refine ok_ix ⟨by omega, by omega⟩ ?_
  have g_2 := gX_53 hB (x1.toNatClampNeg)
  refine ok_lt fun v_2 e_v_2 => ?_
  have b_v_2 : 0 ≤ v_2.toInt ∧ v_2.toInt ≤ 6 := by rw [e_v_2]; exact gX_53 hB _
  have t2 := hSI x1.toNatClampNeg
  rw [← e_v_2, ← e_v_1] at t2
  have t2a := Hid.i t2.1
  have t2b := Hid.i t2.2.1
  have t2c := Hid.i t2.2.2.1
  clear t2
  refine ok_jnI1 (fun (s_3 : Sto) => True ∧ (BX s_3) ∧ (FR [93, 94] [] σ s_3) ∧ (PI s_3) ∧ (PA s_3) ∧ (ES s_3) ∧ (0 ≤ (s_3.1 94 0).toInt ∧ (s_3.1 94 0).toInt ≤ 200)) ?_ ?_
  · intro s_3 hJ
    obtain ⟨-, hB_s_3, hF_s_3, hPI_s_3, hPA_s_3, hES_s_3, hj⟩ := hJ
    have f_s_3_46 : (s_3.1 46 0).toInt = (σ.1 46 0).toInt := by rw [hF_s_3.1 46 (by decide)]
    have f_s_3_52 : (s_3.1 52 0).toInt = (σ.1 52 0).toInt := by rw [hF_s_3.1 52 (by decide)]
    refine ok_ix ⟨by omega, by omega⟩ ?_
    have g_3 := gX_55 hB_s_3 (x1.toNatClampNeg)
    refine ok_lt fun v_4 e_v_4 => ?_
    have b_v_4 : (-1) ≤ v_4.toInt ∧ v_4.toInt ≤ 511 := by rw [e_v_4]; exact gX_55 hB_s_3 _
    have q_v_4 : v_4.toInt = (σ.1 55 (x1.toNatClampNeg)).toInt := by rw [e_v_4, hF_s_3.1 55 (by decide)]
    refine ok_jn ?_
    refine ok_ite (fun c_4 => ?_) (fun c_4 => ?_)
    · rw [fa_eq] at c_4
      refine ok_cals (s_X6_write_s7  (σ := s_3) hB_s_3 (by omega)) (fun s_6 h_5 => ?_)
      obtain ⟨hB_s_6, hG_s_6, x_s_6⟩ := h_5
      (try dsimp only at hB_s_6 hG_s_6 x_s_6)
      have hF_s_6 : FR [93, 94] [] σ s_6 := FR.cal hF_s_3 hG_s_6 rfl rfl
      have f_s_6_46 : (s_6.1 46 0).toInt = (σ.1 46 0).toInt := by rw [hF_s_6.1 46 (by decide)]
      have f_s_6_52 : (s_6.1 52 0).toInt = (σ.1 52 0).toInt := by rw [hF_s_6.1 52 (by decide)]
      have hPI_s_6 : PI s_6 := PI.fr hG_s_6 (by decide) hPI_s_3
      have hPA_s_6 : PA s_6 := PA.fr hG_s_6 (by decide) hPA_s_3
      have hES_s_6 : ES s_6 := ES.fr hG_s_6 (by decide) hES_s_3
      exact ok_ret ⟨hB_s_6, hF_s_6⟩
    · rw [fa_eq] at c_4
      refine ok_ix ⟨by omega, by omega⟩ ?_
      refine ok_lt fun v_8 e_v_8 => ?_
      have b_v_8 : (-1) ≤ v_8.toInt ∧ v_8.toInt ≤ 511 := by rw [e_v_8]; exact gX_55 hB_s_3 _
      have q_v_8 : v_8.toInt = (σ.1 55 (x1.toNatClampNeg)).toInt := by rw [e_v_8, hF_s_3.1 55 (by decide)]
      have z8 : v_8.toInt < (s_3.1 46 0).toInt := by rw [e_v_8]; exact hES_s_3 _ (by rw [hF_s_3.1 52 (by decide)]; omega)
      have PW : v_8.toInt ≠ -1 → 4 * (s_3.1 50 v_8.toNatClampNeg).toInt ≤ 240 := fun h => by have := (hPA_s_3.1 v_8.toNatClampNeg (by have := clamp_I (x := v_8) (by omega); omega)).2.1; omega
      have PW := Hid.i PW
      refine ok_cals (s_X6_writeExpression (x1 := v_8) (x2 := (0 : Int32)) (σ := s_3) hB_s_3 hPI_s_3 hPA_s_3 (by omega) (by omega) (by omega) ⟨by omega, by omega, fun h => by have := PW.o h; omega⟩ (by omega)) (fun s_9 h_6 => ?_)
      obtain ⟨hB_s_9, hG_s_9, x_s_9⟩ := h_6
      (try dsimp only at hB_s_9 hG_s_9 x_s_9)
      have hF_s_9 : FR [93, 94] [] σ s_9 := FR.cal hF_s_3 hG_s_9 rfl rfl
      have f_s_9_46 : (s_9.1 46 0).toInt = (σ.1 46 0).toInt := by rw [hF_s_9.1 46 (by decide)]
      have f_s_9_52 : (s_9.1 52 0).toInt = (σ.1 52 0).toInt := by rw [hF_s_9.1 52 (by decide)]
      have hPI_s_9 : PI s_9 := PI.fr hG_s_9 (by decide) hPI_s_3
      have hPA_s_9 : PA s_9 := PA.fr hG_s_9 (by decide) hPA_s_3
      have hES_s_9 : ES s_9 := ES.fr hG_s_9 (by decide) hES_s_3
      have y9 : (s_9.1 94 0).toInt ≤ (s_3.1 94 0).toInt + 240 := by rcases (show v_8.toInt = -1 ∨ v_8.toInt ≠ -1 by omega) with q | q; (have := x_s_9.2.2 q; omega); (have := x_s_9.2.1 q; have := PW.o q; omega)
      have y9a := x_s_9.1
      clear x_s_9 PW
      refine ok_cals (s_X6_write_s7  (σ := s_9) hB_s_9 (by omega)) (fun s_6 h_7 => ?_)
      obtain ⟨hB_s_6, hG_s_6, x_s_6⟩ := h_7
      (try dsimp only at hB_s_6 hG_s_6 x_s_6)
      have hF_s_6 : FR [93, 94] [] σ s_6 := FR.cal hF_s_9 hG_s_6 rfl rfl
      have f_s_6_46 : (s_6.1 46 0).toInt = (σ.1 46 0).toInt := by rw [hF_s_6.1 46 (by decide)]
      have f_s_6_52 : (s_6.1 52 0).toInt = (σ.1 52 0).toInt := by rw [hF_s_6.1 52 (by decide)]
      have hPI_s_6 : PI s_6 := PI.fr hG_s_6 (by decide) hPI_s_9
      have hPA_s_6 : PA s_6 := PA.fr hG_s_6 (by decide) hPA_s_9
      have hES_s_6 : ES s_6 := ES.fr hG_s_6 (by decide) hES_s_9
      exact ok_ret ⟨hB_s_6, hF_s_6⟩
  · intro k_136 hk_k_136
    refine ok_ite (fun c_8 => ?_) (fun c_8 => ?_)
    · have c_8 := c_8
      obtain ⟨t_9, ht_9, g_9⟩ : ∃ t : Int, ((97 : Int32) + v_1).toInt = t ∧ t = (97 : Int32).toInt + v_1.toInt := ⟨_, rfl, by have h9 := fb_addI (x := (97 : Int32)) (y := v_1) (by omega) (by omega); exact h9⟩
      refine ok_cals (s_X6_writeSign (x1 := ((97 : Int32) + v_1)) (σ := σ) hB (by rw [ht_9]; omega) (by omega)) (fun s_11 h_10 => ?_)
      obtain ⟨hB_s_11, hG_s_11, x_s_11⟩ := h_10
      (try dsimp only at hB_s_11 hG_s_11 x_s_11)
      have hF_s_11 : FR [93, 94] [] σ s_11 := FR.cal hF hG_s_11 rfl rfl
      have f_s_11_46 : (s_11.1 46 0).toInt = (σ.1 46 0).toInt := by rw [hF_s_11.1 46 (by decide)]
      have f_s_11_52 : (s_11.1 52 0).toInt = (σ.1 52 0).toInt := by rw [hF_s_11.1 52 (by decide)]
      have hPI_s_11 : PI s_11 := PI.fr hG_s_11 (by decide) hPI
      have hPA_s_11 : PA s_11 := PA.fr hG_s_11 (by decide) hPA
      have hSI_s_11 : SI s_11 := SI.fr hG_s_11 (by decide) hSI
      have hES_s_11 : ES s_11 := ES.fr hG_s_11 (by decide) hES
      refine ok_cals (s_X6_write_s14  (σ := s_11) hB_s_11 (by omega)) (fun s_12 h_11 => ?_)
      obtain ⟨hB_s_12, hG_s_12, x_s_12⟩ := h_11
      (try dsimp only at hB_s_12 hG_s_12 x_s_12)
      have hF_s_12 : FR [93, 94] [] σ s_12 := FR.cal hF_s_11 hG_s_12 rfl rfl
      have f_s_12_46 : (s_12.1 46 0).toInt = (σ.1 46 0).toInt := by rw [hF_s_12.1 46 (by decide)]
      have f_s_12_52 : (s_12.1 52 0).toInt = (σ.1 52 0).toInt := by rw [hF_s_12.1 52 (by decide)]
      have hPI_s_12 : PI s_12 := PI.fr hG_s_12 (by decide) hPI_s_11
      have hPA_s_12 : PA s_12 := PA.fr hG_s_12 (by decide) hPA_s_11
      have hSI_s_12 : SI s_12 := SI.fr hG_s_12 (by decide) hSI_s_11
      have hES_s_12 : ES s_12 := ES.fr hG_s_12 (by decide) hES_s_11
      exact hk_k_136 s_12 ⟨trivial, hB_s_12, hF_s_12, hPI_s_12, hPA_s_12, hES_s_12, (by omega)⟩
    · have c_8 := c_8
      refine ok_ite (fun c_12 => ?_) (fun c_12 => ?_)
      · have c_12 := c_12
        have w1 : 0 ≤ v_1.toInt := by first | exact (t2b.o (by omega)).1 | exact t2c.o (by omega)
        refine ok_cals (s_X6_writeName (x1 := (116 : Int32)) (x2 := v_1) (σ := σ) hB (by omega) (by omega) (by omega)) (fun s_13 h_13 => ?_)
        obtain ⟨hB_s_13, hG_s_13, x_s_13⟩ := h_13
        (try dsimp only at hB_s_13 hG_s_13 x_s_13)
        have hF_s_13 : FR [93, 94] [] σ s_13 := FR.cal hF hG_s_13 rfl rfl
        have f_s_13_46 : (s_13.1 46 0).toInt = (σ.1 46 0).toInt := by rw [hF_s_13.1 46 (by decide)]
        have f_s_13_52 : (s_13.1 52 0).toInt = (σ.1 52 0).toInt := by rw [hF_s_13.1 52 (by decide)]
        have hPI_s_13 : PI s_13 := PI.fr hG_s_13 (by decide) hPI
        have hPA_s_13 : PA s_13 := PA.fr hG_s_13 (by decide) hPA
        have hSI_s_13 : SI s_13 := SI.fr hG_s_13 (by decide) hSI
        have hES_s_13 : ES s_13 := ES.fr hG_s_13 (by decide) hES
        refine ok_cals (s_X6_write_s14  (σ := s_13) hB_s_13 (by omega)) (fun s_14 h_14 => ?_)
        obtain ⟨hB_s_14, hG_s_14, x_s_14⟩ := h_14
        (try dsimp only at hB_s_14 hG_s_14 x_s_14)
        have hF_s_14 : FR [93, 94] [] σ s_14 := FR.cal hF_s_13 hG_s_14 rfl rfl
        have f_s_14_46 : (s_14.1 46 0).toInt = (σ.1 46 0).toInt := by rw [hF_s_14.1 46 (by decide)]
        have f_s_14_52 : (s_14.1 52 0).toInt = (σ.1 52 0).toInt := by rw [hF_s_14.1 52 (by decide)]
        have hPI_s_14 : PI s_14 := PI.fr hG_s_14 (by decide) hPI_s_13
        have hPA_s_14 : PA s_14 := PA.fr hG_s_14 (by decide) hPA_s_13
        have hSI_s_14 : SI s_14 := SI.fr hG_s_14 (by decide) hSI_s_13
        have hES_s_14 : ES s_14 := ES.fr hG_s_14 (by decide) hES_s_13
        exact hk_k_136 s_14 ⟨trivial, hB_s_14, hF_s_14, hPI_s_14, hPA_s_14, hES_s_14, (by omega)⟩
      · have c_12 := c_12
        refine ok_ite (fun c_15 => ?_) (fun c_15 => ?_)
        · have c_15 := c_15
          have w1 : 0 ≤ v_1.toInt := by first | exact (t2b.o (by omega)).1 | exact t2c.o (by omega)
          refine ok_cals (s_X6_writeName (x1 := (120 : Int32)) (x2 := v_1) (σ := σ) hB (by omega) (by omega) (by omega)) (fun s_15 h_16 => ?_)
          obtain ⟨hB_s_15, hG_s_15, x_s_15⟩ := h_16
          (try dsimp only at hB_s_15 hG_s_15 x_s_15)
          have hF_s_15 : FR [93, 94] [] σ s_15 := FR.cal hF hG_s_15 rfl rfl
          have f_s_15_46 : (s_15.1 46 0).toInt = (σ.1 46 0).toInt := by rw [hF_s_15.1 46 (by decide)]
          have f_s_15_52 : (s_15.1 52 0).toInt = (σ.1 52 0).toInt := by rw [hF_s_15.1 52 (by decide)]
          have hPI_s_15 : PI s_15 := PI.fr hG_s_15 (by decide) hPI
          have hPA_s_15 : PA s_15 := PA.fr hG_s_15 (by decide) hPA
          have hSI_s_15 : SI s_15 := SI.fr hG_s_15 (by decide) hSI
          have hES_s_15 : ES s_15 := ES.fr hG_s_15 (by decide) hES
          refine ok_cals (s_X6_write_s14  (σ := s_15) hB_s_15 (by omega)) (fun s_16 h_17 => ?_)
          obtain ⟨hB_s_16, hG_s_16, x_s_16⟩ := h_17
          (try dsimp only at hB_s_16 hG_s_16 x_s_16)
          have hF_s_16 : FR [93, 94] [] σ s_16 := FR.cal hF_s_15 hG_s_16 rfl rfl
          have f_s_16_46 : (s_16.1 46 0).toInt = (σ.1 46 0).toInt := by rw [hF_s_16.1 46 (by decide)]
          have f_s_16_52 : (s_16.1 52 0).toInt = (σ.1 52 0).toInt := by rw [hF_s_16.1 52 (by decide)]
          have hPI_s_16 : PI s_16 := PI.fr hG_s_16 (by decide) hPI_s_15
          have hPA_s_16 : PA s_16 := PA.fr hG_s_16 (by decide) hPA_s_15
          have hSI_s_16 : SI s_16 := SI.fr hG_s_16 (by decide) hSI_s_15
          have hES_s_16 : ES s_16 := ES.fr hG_s_16 (by decide) hES_s_15
          exact hk_k_136 s_16 ⟨trivial, hB_s_16, hF_s_16, hPI_s_16, hPA_s_16, hES_s_16, (by omega)⟩
        · have c_15 := c_15
          refine ok_ite (fun c_18 => ?_) (fun c_18 => ?_)
          · have c_18 := c_18
            refine ok_cals (s_X6_write_s15  (σ := σ) hB (by omega)) (fun s_17 h_19 => ?_)
            obtain ⟨hB_s_17, hG_s_17, x_s_17⟩ := h_19
            (try dsimp only at hB_s_17 hG_s_17 x_s_17)
            have hF_s_17 : FR [93, 94] [] σ s_17 := FR.cal hF hG_s_17 rfl rfl
            have f_s_17_46 : (s_17.1 46 0).toInt = (σ.1 46 0).toInt := by rw [hF_s_17.1 46 (by decide)]
            have f_s_17_52 : (s_17.1 52 0).toInt = (σ.1 52 0).toInt := by rw [hF_s_17.1 52 (by decide)]
            have hPI_s_17 : PI s_17 := PI.fr hG_s_17 (by decide) hPI
            have hPA_s_17 : PA s_17 := PA.fr hG_s_17 (by decide) hPA
            have hSI_s_17 : SI s_17 := SI.fr hG_s_17 (by decide) hSI
            have hES_s_17 : ES s_17 := ES.fr hG_s_17 (by decide) hES
            exact hk_k_136 s_17 ⟨trivial, hB_s_17, hF_s_17, hPI_s_17, hPA_s_17, hES_s_17, (by omega)⟩
          · have c_18 := c_18
            refine ok_ite (fun c_20 => ?_) (fun c_20 => ?_)
            · have c_20 := c_20
              refine ok_cals (s_X6_write_s16  (σ := σ) hB (by omega)) (fun s_18 h_21 => ?_)
              obtain ⟨hB_s_18, hG_s_18, x_s_18⟩ := h_21
              (try dsimp only at hB_s_18 hG_s_18 x_s_18)
              have hF_s_18 : FR [93, 94] [] σ s_18 := FR.cal hF hG_s_18 rfl rfl
              have f_s_18_46 : (s_18.1 46 0).toInt = (σ.1 46 0).toInt := by rw [hF_s_18.1 46 (by decide)]
              have f_s_18_52 : (s_18.1 52 0).toInt = (σ.1 52 0).toInt := by rw [hF_s_18.1 52 (by decide)]
              have hPI_s_18 : PI s_18 := PI.fr hG_s_18 (by decide) hPI
              have hPA_s_18 : PA s_18 := PA.fr hG_s_18 (by decide) hPA
              have hSI_s_18 : SI s_18 := SI.fr hG_s_18 (by decide) hSI
              have hES_s_18 : ES s_18 := ES.fr hG_s_18 (by decide) hES
              exact hk_k_136 s_18 ⟨trivial, hB_s_18, hF_s_18, hPI_s_18, hPA_s_18, hES_s_18, (by omega)⟩
            · have c_20 := c_20
              refine ok_ite (fun c_22 => ?_) (fun c_22 => ?_)
              · have c_22 := c_22
                refine ok_cals (s_X6_write_s17  (σ := σ) hB (by omega)) (fun s_19 h_23 => ?_)
                obtain ⟨hB_s_19, hG_s_19, x_s_19⟩ := h_23
                (try dsimp only at hB_s_19 hG_s_19 x_s_19)
                have hF_s_19 : FR [93, 94] [] σ s_19 := FR.cal hF hG_s_19 rfl rfl
                have f_s_19_46 : (s_19.1 46 0).toInt = (σ.1 46 0).toInt := by rw [hF_s_19.1 46 (by decide)]
                have f_s_19_52 : (s_19.1 52 0).toInt = (σ.1 52 0).toInt := by rw [hF_s_19.1 52 (by decide)]
                have hPI_s_19 : PI s_19 := PI.fr hG_s_19 (by decide) hPI
                have hPA_s_19 : PA s_19 := PA.fr hG_s_19 (by decide) hPA
                have hSI_s_19 : SI s_19 := SI.fr hG_s_19 (by decide) hSI
                have hES_s_19 : ES s_19 := ES.fr hG_s_19 (by decide) hES
                exact hk_k_136 s_19 ⟨trivial, hB_s_19, hF_s_19, hPI_s_19, hPA_s_19, hES_s_19, (by omega)⟩
              · have c_22 := c_22
                exact hk_k_136 σ ⟨trivial, hB, hF, hPI, hPA, hES, (by omega)⟩

set_option maxHeartbeats 4000000 in
theorem s_X6_write_s0 {σ : Sto} (hB : BX σ) (hw : 0 ≤ (σ.1 94 0).toInt ∧ (σ.1 94 0).toInt ≤ 8000) : OK (f_X6_write_s0 σ) (fun s => BX s ∧ FR [93, 94] [] σ s ∧ ((σ.1 94 0).toInt ≤ (s.1 94 0).toInt ∧ (s.1 94 0).toInt ≤ (σ.1 94 0).toInt + 6)) := by
  unfold f_X6_write_s0
  have hF : FR [93, 94] [] σ σ := FR.rf
  have k_0 : (0 : Int32).toInt = 0 := by decide +kernel
  have k_1 : (1 : Int32).toInt = 1 := by decide +kernel
  have k_6 : (6 : Int32).toInt = 6 := by decide +kernel
  refine ok_itr2 (fun (n : Nat) (x2_1 : Int32) (s_1 : Sto) => n = (7 - x2_1.toInt).toNat ∧ (0 ≤ x2_1.toInt ∧ x2_1.toInt ≤ 6) ∧ (BX s_1) ∧ (FR [93, 94] [] σ s_1) ∧ ((σ.1 94 0).toInt ≤ (s_1.1 94 0).toInt ∧ (s_1.1 94 0).toInt ≤ (σ.1 94 0).toInt + x2_1.toInt)) ?_ (n := _) ⟨rfl, (by omega), hB, hF, (by omega)⟩ (show _ < 10000000 by omega)
  intro a_2 n x2_1 s_1 hI ih_a_2
  obtain ⟨hn_a_2, b_x2_1, hB_s_1, hF_s_1, hl⟩ := hI
  refine ok_ite (fun c_1 => ?_) (fun c_1 => ?_)
  · rw [fa_le] at c_1
    exact ok_ret ⟨hB_s_1, hF_s_1, (by (try dsimp only); omega)⟩
  · rw [fa_le] at c_1
    refine ok_ix ⟨by omega, by omega⟩ ?_
    obtain ⟨t_2, ht_2, g_2⟩ : ∃ t : Int, (chS 0 x2_1).toInt = t ∧ -2147483648 ≤ t ∧ t ≤ 2147483647 := ⟨_, rfl, tI_rng _⟩
    refine ok_lt fun v_3 e_v_3 => ?_
    have b_v_3 : 0 ≤ v_3.toInt ∧ v_3.toInt ≤ 255 := by rw [e_v_3]; exact ch_rng _ _
    refine ok_cals (s_X6_writeSign (x1 := v_3) (σ := s_1) hB_s_1 (by omega) (by omega)) (fun s_4 h_3 => ?_)
    obtain ⟨hB_s_4, hG_s_4, x_s_4⟩ := h_3
    (try dsimp only at hB_s_4 hG_s_4 x_s_4)
    have hF_s_4 : FR [93, 94] [] σ s_4 := FR.cal hF_s_1 hG_s_4 rfl rfl
    obtain ⟨t_4, ht_4, g_4⟩ : ∃ t : Int, (x2_1 + 1).toInt = t ∧ t = x2_1.toInt + (1 : Int32).toInt := ⟨_, rfl, by have h9 := fb_addI (x := x2_1) (y := (1 : Int32)) (by omega) (by omega); exact h9⟩
    refine ok_lt fun x2_5 e_x2_5 => ?_
    have q_x2_5 : x2_5.toInt = t_4 := by rw [e_x2_5]; exact ht_4
    exact ih_a_2 _ x2_5 s_4 (by rw [hn_a_2]; omega) ⟨rfl, (by omega), hB_s_4, hF_s_4, (by omega)⟩

set_option maxHeartbeats 4000000 in
theorem s_X6_write_s1 {σ : Sto} (hB : BX σ) (hw : 0 ≤ (σ.1 94 0).toInt ∧ (σ.1 94 0).toInt ≤ 8000) : OK (f_X6_write_s1 σ) (fun s => BX s ∧ FR [93, 94] [] σ s ∧ ((σ.1 94 0).toInt ≤ (s.1 94 0).toInt ∧ (s.1 94 0).toInt ≤ (σ.1 94 0).toInt + 1)) := by
  unfold f_X6_write_s1
  have hF : FR [93, 94] [] σ σ := FR.rf
  have k_0 : (0 : Int32).toInt = 0 := by decide +kernel
  have k_1 : (1 : Int32).toInt = 1 := by decide +kernel
  refine ok_itr2 (fun (n : Nat) (x2_1 : Int32) (s_1 : Sto) => n = (2 - x2_1.toInt).toNat ∧ (0 ≤ x2_1.toInt ∧ x2_1.toInt ≤ 1) ∧ (BX s_1) ∧ (FR [93, 94] [] σ s_1) ∧ ((σ.1 94 0).toInt ≤ (s_1.1 94 0).toInt ∧ (s_1.1 94 0).toInt ≤ (σ.1 94 0).toInt + x2_1.toInt)) ?_ (n := _) ⟨rfl, (by omega), hB, hF, (by omega)⟩ (show _ < 10000000 by omega)
  intro a_2 n x2_1 s_1 hI ih_a_2
  obtain ⟨hn_a_2, b_x2_1, hB_s_1, hF_s_1, hl⟩ := hI
  refine ok_ite (fun c_1 => ?_) (fun c_1 => ?_)
  · rw [fa_le] at c_1
    exact ok_ret ⟨hB_s_1, hF_s_1, (by (try dsimp only); omega)⟩
  · rw [fa_le] at c_1
    refine ok_ix ⟨by omega, by omega⟩ ?_
    obtain ⟨t_2, ht_2, g_2⟩ : ∃ t : Int, (chS 1 x2_1).toInt = t ∧ -2147483648 ≤ t ∧ t ≤ 2147483647 := ⟨_, rfl, tI_rng _⟩
    refine ok_lt fun v_3 e_v_3 => ?_
    have b_v_3 : 0 ≤ v_3.toInt ∧ v_3.toInt ≤ 255 := by rw [e_v_3]; exact ch_rng _ _
    refine ok_cals (s_X6_writeSign (x1 := v_3) (σ := s_1) hB_s_1 (by omega) (by omega)) (fun s_4 h_3 => ?_)
    obtain ⟨hB_s_4, hG_s_4, x_s_4⟩ := h_3
    (try dsimp only at hB_s_4 hG_s_4 x_s_4)
    have hF_s_4 : FR [93, 94] [] σ s_4 := FR.cal hF_s_1 hG_s_4 rfl rfl
    obtain ⟨t_4, ht_4, g_4⟩ : ∃ t : Int, (x2_1 + 1).toInt = t ∧ t = x2_1.toInt + (1 : Int32).toInt := ⟨_, rfl, by have h9 := fb_addI (x := x2_1) (y := (1 : Int32)) (by omega) (by omega); exact h9⟩
    refine ok_lt fun x2_5 e_x2_5 => ?_
    have q_x2_5 : x2_5.toInt = t_4 := by rw [e_x2_5]; exact ht_4
    exact ih_a_2 _ x2_5 s_4 (by rw [hn_a_2]; omega) ⟨rfl, (by omega), hB_s_4, hF_s_4, (by omega)⟩

set_option maxHeartbeats 4000000 in
theorem s_X6_writeBlock_s0_s1 {x2 : Int32} {σ : Sto} (hB : BX σ) (p_x2 : 0 ≤ x2.toInt ∧ x2.toInt ≤ 39) (hw : 0 ≤ (σ.1 94 0).toInt ∧ (σ.1 94 0).toInt ≤ 5000) : OK (f_X6_writeBlock_s0_s1 x2 σ) (fun s => BX s ∧ FR [93, 94] [] σ s ∧ ((σ.1 94 0).toInt ≤ (s.1 94 0).toInt ∧ (s.1 94 0).toInt ≤ (σ.1 94 0).toInt + 40)) := by
  unfold f_X6_writeBlock_s0_s1
  have hF : FR [93, 94] [] σ σ := FR.rf
  refine ok_cals (s_X6_write_s0  (σ := σ) hB (by omega)) (fun s_1 h_1 => ?_)
  obtain ⟨hB_s_1, hG_s_1, x_s_1⟩ := h_1
  (try dsimp only at hB_s_1 hG_s_1 x_s_1)
  have hF_s_1 : FR [93, 94] [] σ s_1 := FR.cal hF hG_s_1 rfl rfl
  refine ok_cals (s_X6_writeNumber (x1 := x2) (σ := s_1) hB_s_1 (by omega) (by omega)) (fun s_2 h_2 => ?_)
  obtain ⟨hB_s_2, hG_s_2, x_s_2⟩ := h_2
  (try dsimp only at hB_s_2 hG_s_2 x_s_2)
  have hF_s_2 : FR [93, 94] [] σ s_2 := FR.cal hF_s_1 hG_s_2 rfl rfl
  refine ok_cals (s_X6_write_s1  (σ := s_2) hB_s_2 (by omega)) (fun s_3 h_3 => ?_)
  obtain ⟨hB_s_3, hG_s_3, x_s_3⟩ := h_3
  (try dsimp only at hB_s_3 hG_s_3 x_s_3)
  have hF_s_3 : FR [93, 94] [] σ s_3 := FR.cal hF_s_2 hG_s_3 rfl rfl
  exact ok_ret ⟨hB_s_3, hF_s_3, (by (try dsimp only); omega)⟩

set_option maxHeartbeats 4000000 in
theorem s_X6_write_s2 {σ : Sto} (hB : BX σ) (hw : 0 ≤ (σ.1 94 0).toInt ∧ (σ.1 94 0).toInt ≤ 8000) : OK (f_X6_write_s2 σ) (fun s => BX s ∧ FR [93, 94] [] σ s ∧ ((σ.1 94 0).toInt ≤ (s.1 94 0).toInt ∧ (s.1 94 0).toInt ≤ (σ.1 94 0).toInt + 7)) := by
  unfold f_X6_write_s2
  have hF : FR [93, 94] [] σ σ := FR.rf
  have k_0 : (0 : Int32).toInt = 0 := by decide +kernel
  have k_1 : (1 : Int32).toInt = 1 := by decide +kernel
  have k_7 : (7 : Int32).toInt = 7 := by decide +kernel
  refine ok_itr2 (fun (n : Nat) (x2_1 : Int32) (s_1 : Sto) => n = (8 - x2_1.toInt).toNat ∧ (0 ≤ x2_1.toInt ∧ x2_1.toInt ≤ 7) ∧ (BX s_1) ∧ (FR [93, 94] [] σ s_1) ∧ ((σ.1 94 0).toInt ≤ (s_1.1 94 0).toInt ∧ (s_1.1 94 0).toInt ≤ (σ.1 94 0).toInt + x2_1.toInt)) ?_ (n := _) ⟨rfl, (by omega), hB, hF, (by omega)⟩ (show _ < 10000000 by omega)
  intro a_2 n x2_1 s_1 hI ih_a_2
  obtain ⟨hn_a_2, b_x2_1, hB_s_1, hF_s_1, hl⟩ := hI
  refine ok_ite (fun c_1 => ?_) (fun c_1 => ?_)
  · rw [fa_le] at c_1
    exact ok_ret ⟨hB_s_1, hF_s_1, (by (try dsimp only); omega)⟩
  · rw [fa_le] at c_1
    refine ok_ix ⟨by omega, by omega⟩ ?_
    obtain ⟨t_2, ht_2, g_2⟩ : ∃ t : Int, (chS 2 x2_1).toInt = t ∧ -2147483648 ≤ t ∧ t ≤ 2147483647 := ⟨_, rfl, tI_rng _⟩
    refine ok_lt fun v_3 e_v_3 => ?_
    have b_v_3 : 0 ≤ v_3.toInt ∧ v_3.toInt ≤ 255 := by rw [e_v_3]; exact ch_rng _ _
    refine ok_cals (s_X6_writeSign (x1 := v_3) (σ := s_1) hB_s_1 (by omega) (by omega)) (fun s_4 h_3 => ?_)
    obtain ⟨hB_s_4, hG_s_4, x_s_4⟩ := h_3
    (try dsimp only at hB_s_4 hG_s_4 x_s_4)
    have hF_s_4 : FR [93, 94] [] σ s_4 := FR.cal hF_s_1 hG_s_4 rfl rfl
    obtain ⟨t_4, ht_4, g_4⟩ : ∃ t : Int, (x2_1 + 1).toInt = t ∧ t = x2_1.toInt + (1 : Int32).toInt := ⟨_, rfl, by have h9 := fb_addI (x := x2_1) (y := (1 : Int32)) (by omega) (by omega); exact h9⟩
    refine ok_lt fun x2_5 e_x2_5 => ?_
    have q_x2_5 : x2_5.toInt = t_4 := by rw [e_x2_5]; exact ht_4
    exact ih_a_2 _ x2_5 s_4 (by rw [hn_a_2]; omega) ⟨rfl, (by omega), hB_s_4, hF_s_4, (by omega)⟩

set_option maxHeartbeats 4000000 in
theorem s_X6_writeBlock_s2_s1 {x2 : Int32} {σ : Sto} (hB : BX σ) (p_x2 : 0 ≤ x2.toInt ∧ x2.toInt ≤ 39) (hw : 0 ≤ (σ.1 94 0).toInt ∧ (σ.1 94 0).toInt ≤ 5000) : OK (f_X6_writeBlock_s2_s1 x2 σ) (fun s => BX s ∧ FR [93, 94] [] σ s ∧ ((σ.1 94 0).toInt ≤ (s.1 94 0).toInt ∧ (s.1 94 0).toInt ≤ (σ.1 94 0).toInt + 40)) := by
  unfold f_X6_writeBlock_s2_s1
  have hF : FR [93, 94] [] σ σ := FR.rf
  refine ok_cals (s_X6_write_s2  (σ := σ) hB (by omega)) (fun s_1 h_1 => ?_)
  obtain ⟨hB_s_1, hG_s_1, x_s_1⟩ := h_1
  (try dsimp only at hB_s_1 hG_s_1 x_s_1)
  have hF_s_1 : FR [93, 94] [] σ s_1 := FR.cal hF hG_s_1 rfl rfl
  refine ok_cals (s_X6_writeNumber (x1 := x2) (σ := s_1) hB_s_1 (by omega) (by omega)) (fun s_2 h_2 => ?_)
  obtain ⟨hB_s_2, hG_s_2, x_s_2⟩ := h_2
  (try dsimp only at hB_s_2 hG_s_2 x_s_2)
  have hF_s_2 : FR [93, 94] [] σ s_2 := FR.cal hF_s_1 hG_s_2 rfl rfl
  refine ok_cals (s_X6_write_s1  (σ := s_2) hB_s_2 (by omega)) (fun s_3 h_3 => ?_)
  obtain ⟨hB_s_3, hG_s_3, x_s_3⟩ := h_3
  (try dsimp only at hB_s_3 hG_s_3 x_s_3)
  have hF_s_3 : FR [93, 94] [] σ s_3 := FR.cal hF_s_2 hG_s_3 rfl rfl
  exact ok_ret ⟨hB_s_3, hF_s_3, (by (try dsimp only); omega)⟩

set_option maxHeartbeats 4000000 in
theorem s_X6_write_s3 {σ : Sto} (hB : BX σ) (hw : 0 ≤ (σ.1 94 0).toInt ∧ (σ.1 94 0).toInt ≤ 8000) : OK (f_X6_write_s3 σ) (fun s => BX s ∧ FR [93, 94] [] σ s ∧ ((σ.1 94 0).toInt ≤ (s.1 94 0).toInt ∧ (s.1 94 0).toInt ≤ (σ.1 94 0).toInt + 3)) := by
  unfold f_X6_write_s3
  have hF : FR [93, 94] [] σ σ := FR.rf
  have k_0 : (0 : Int32).toInt = 0 := by decide +kernel
  have k_1 : (1 : Int32).toInt = 1 := by decide +kernel
  have k_3 : (3 : Int32).toInt = 3 := by decide +kernel
  refine ok_itr2 (fun (n : Nat) (x2_1 : Int32) (s_1 : Sto) => n = (4 - x2_1.toInt).toNat ∧ (0 ≤ x2_1.toInt ∧ x2_1.toInt ≤ 3) ∧ (BX s_1) ∧ (FR [93, 94] [] σ s_1) ∧ ((σ.1 94 0).toInt ≤ (s_1.1 94 0).toInt ∧ (s_1.1 94 0).toInt ≤ (σ.1 94 0).toInt + x2_1.toInt)) ?_ (n := _) ⟨rfl, (by omega), hB, hF, (by omega)⟩ (show _ < 10000000 by omega)
  intro a_2 n x2_1 s_1 hI ih_a_2
  obtain ⟨hn_a_2, b_x2_1, hB_s_1, hF_s_1, hl⟩ := hI
  refine ok_ite (fun c_1 => ?_) (fun c_1 => ?_)
  · rw [fa_le] at c_1
    exact ok_ret ⟨hB_s_1, hF_s_1, (by (try dsimp only); omega)⟩
  · rw [fa_le] at c_1
    refine ok_ix ⟨by omega, by omega⟩ ?_
    obtain ⟨t_2, ht_2, g_2⟩ : ∃ t : Int, (chS 3 x2_1).toInt = t ∧ -2147483648 ≤ t ∧ t ≤ 2147483647 := ⟨_, rfl, tI_rng _⟩
    refine ok_lt fun v_3 e_v_3 => ?_
    have b_v_3 : 0 ≤ v_3.toInt ∧ v_3.toInt ≤ 255 := by rw [e_v_3]; exact ch_rng _ _
    refine ok_cals (s_X6_writeSign (x1 := v_3) (σ := s_1) hB_s_1 (by omega) (by omega)) (fun s_4 h_3 => ?_)
    obtain ⟨hB_s_4, hG_s_4, x_s_4⟩ := h_3
    (try dsimp only at hB_s_4 hG_s_4 x_s_4)
    have hF_s_4 : FR [93, 94] [] σ s_4 := FR.cal hF_s_1 hG_s_4 rfl rfl
    obtain ⟨t_4, ht_4, g_4⟩ : ∃ t : Int, (x2_1 + 1).toInt = t ∧ t = x2_1.toInt + (1 : Int32).toInt := ⟨_, rfl, by have h9 := fb_addI (x := x2_1) (y := (1 : Int32)) (by omega) (by omega); exact h9⟩
    refine ok_lt fun x2_5 e_x2_5 => ?_
    have q_x2_5 : x2_5.toInt = t_4 := by rw [e_x2_5]; exact ht_4
    exact ih_a_2 _ x2_5 s_4 (by rw [hn_a_2]; omega) ⟨rfl, (by omega), hB_s_4, hF_s_4, (by omega)⟩

set_option maxHeartbeats 4000000 in
theorem s_X6_write_s4 {σ : Sto} (hB : BX σ) (hw : 0 ≤ (σ.1 94 0).toInt ∧ (σ.1 94 0).toInt ≤ 8000) : OK (f_X6_write_s4 σ) (fun s => BX s ∧ FR [93, 94] [] σ s ∧ ((σ.1 94 0).toInt ≤ (s.1 94 0).toInt ∧ (s.1 94 0).toInt ≤ (σ.1 94 0).toInt + 5)) := by
  unfold f_X6_write_s4
  have hF : FR [93, 94] [] σ σ := FR.rf
  have k_0 : (0 : Int32).toInt = 0 := by decide +kernel
  have k_1 : (1 : Int32).toInt = 1 := by decide +kernel
  have k_5 : (5 : Int32).toInt = 5 := by decide +kernel
  refine ok_itr2 (fun (n : Nat) (x2_1 : Int32) (s_1 : Sto) => n = (6 - x2_1.toInt).toNat ∧ (0 ≤ x2_1.toInt ∧ x2_1.toInt ≤ 5) ∧ (BX s_1) ∧ (FR [93, 94] [] σ s_1) ∧ ((σ.1 94 0).toInt ≤ (s_1.1 94 0).toInt ∧ (s_1.1 94 0).toInt ≤ (σ.1 94 0).toInt + x2_1.toInt)) ?_ (n := _) ⟨rfl, (by omega), hB, hF, (by omega)⟩ (show _ < 10000000 by omega)
  intro a_2 n x2_1 s_1 hI ih_a_2
  obtain ⟨hn_a_2, b_x2_1, hB_s_1, hF_s_1, hl⟩ := hI
  refine ok_ite (fun c_1 => ?_) (fun c_1 => ?_)
  · rw [fa_le] at c_1
    exact ok_ret ⟨hB_s_1, hF_s_1, (by (try dsimp only); omega)⟩
  · rw [fa_le] at c_1
    refine ok_ix ⟨by omega, by omega⟩ ?_
    obtain ⟨t_2, ht_2, g_2⟩ : ∃ t : Int, (chS 4 x2_1).toInt = t ∧ -2147483648 ≤ t ∧ t ≤ 2147483647 := ⟨_, rfl, tI_rng _⟩
    refine ok_lt fun v_3 e_v_3 => ?_
    have b_v_3 : 0 ≤ v_3.toInt ∧ v_3.toInt ≤ 255 := by rw [e_v_3]; exact ch_rng _ _
    refine ok_cals (s_X6_writeSign (x1 := v_3) (σ := s_1) hB_s_1 (by omega) (by omega)) (fun s_4 h_3 => ?_)
    obtain ⟨hB_s_4, hG_s_4, x_s_4⟩ := h_3
    (try dsimp only at hB_s_4 hG_s_4 x_s_4)
    have hF_s_4 : FR [93, 94] [] σ s_4 := FR.cal hF_s_1 hG_s_4 rfl rfl
    obtain ⟨t_4, ht_4, g_4⟩ : ∃ t : Int, (x2_1 + 1).toInt = t ∧ t = x2_1.toInt + (1 : Int32).toInt := ⟨_, rfl, by have h9 := fb_addI (x := x2_1) (y := (1 : Int32)) (by omega) (by omega); exact h9⟩
    refine ok_lt fun x2_5 e_x2_5 => ?_
    have q_x2_5 : x2_5.toInt = t_4 := by rw [e_x2_5]; exact ht_4
    exact ih_a_2 _ x2_5 s_4 (by rw [hn_a_2]; omega) ⟨rfl, (by omega), hB_s_4, hF_s_4, (by omega)⟩

set_option maxHeartbeats 4000000 in
theorem s_X6_write_s5 {σ : Sto} (hB : BX σ) (hw : 0 ≤ (σ.1 94 0).toInt ∧ (σ.1 94 0).toInt ≤ 8000) : OK (f_X6_write_s5 σ) (fun s => BX s ∧ FR [93, 94] [] σ s ∧ ((σ.1 94 0).toInt ≤ (s.1 94 0).toInt ∧ (s.1 94 0).toInt ≤ (σ.1 94 0).toInt + 1)) := by
  unfold f_X6_write_s5
  have hF : FR [93, 94] [] σ σ := FR.rf
  have k_0 : (0 : Int32).toInt = 0 := by decide +kernel
  have k_1 : (1 : Int32).toInt = 1 := by decide +kernel
  refine ok_itr2 (fun (n : Nat) (x2_1 : Int32) (s_1 : Sto) => n = (2 - x2_1.toInt).toNat ∧ (0 ≤ x2_1.toInt ∧ x2_1.toInt ≤ 1) ∧ (BX s_1) ∧ (FR [93, 94] [] σ s_1) ∧ ((σ.1 94 0).toInt ≤ (s_1.1 94 0).toInt ∧ (s_1.1 94 0).toInt ≤ (σ.1 94 0).toInt + x2_1.toInt)) ?_ (n := _) ⟨rfl, (by omega), hB, hF, (by omega)⟩ (show _ < 10000000 by omega)
  intro a_2 n x2_1 s_1 hI ih_a_2
  obtain ⟨hn_a_2, b_x2_1, hB_s_1, hF_s_1, hl⟩ := hI
  refine ok_ite (fun c_1 => ?_) (fun c_1 => ?_)
  · rw [fa_le] at c_1
    exact ok_ret ⟨hB_s_1, hF_s_1, (by (try dsimp only); omega)⟩
  · rw [fa_le] at c_1
    refine ok_ix ⟨by omega, by omega⟩ ?_
    obtain ⟨t_2, ht_2, g_2⟩ : ∃ t : Int, (chS 5 x2_1).toInt = t ∧ -2147483648 ≤ t ∧ t ≤ 2147483647 := ⟨_, rfl, tI_rng _⟩
    refine ok_lt fun v_3 e_v_3 => ?_
    have b_v_3 : 0 ≤ v_3.toInt ∧ v_3.toInt ≤ 255 := by rw [e_v_3]; exact ch_rng _ _
    refine ok_cals (s_X6_writeSign (x1 := v_3) (σ := s_1) hB_s_1 (by omega) (by omega)) (fun s_4 h_3 => ?_)
    obtain ⟨hB_s_4, hG_s_4, x_s_4⟩ := h_3
    (try dsimp only at hB_s_4 hG_s_4 x_s_4)
    have hF_s_4 : FR [93, 94] [] σ s_4 := FR.cal hF_s_1 hG_s_4 rfl rfl
    obtain ⟨t_4, ht_4, g_4⟩ : ∃ t : Int, (x2_1 + 1).toInt = t ∧ t = x2_1.toInt + (1 : Int32).toInt := ⟨_, rfl, by have h9 := fb_addI (x := x2_1) (y := (1 : Int32)) (by omega) (by omega); exact h9⟩
    refine ok_lt fun x2_5 e_x2_5 => ?_
    have q_x2_5 : x2_5.toInt = t_4 := by rw [e_x2_5]; exact ht_4
    exact ih_a_2 _ x2_5 s_4 (by rw [hn_a_2]; omega) ⟨rfl, (by omega), hB_s_4, hF_s_4, (by omega)⟩

set_option maxHeartbeats 4000000 in
theorem s_X6_write_s6 {σ : Sto} (hB : BX σ) (hw : 0 ≤ (σ.1 94 0).toInt ∧ (σ.1 94 0).toInt ≤ 8000) : OK (f_X6_write_s6 σ) (fun s => BX s ∧ FR [93, 94] [] σ s ∧ ((σ.1 94 0).toInt ≤ (s.1 94 0).toInt ∧ (s.1 94 0).toInt ≤ (σ.1 94 0).toInt + 7)) := by
  unfold f_X6_write_s6
  have hF : FR [93, 94] [] σ σ := FR.rf
  have k_0 : (0 : Int32).toInt = 0 := by decide +kernel
  have k_1 : (1 : Int32).toInt = 1 := by decide +kernel
  have k_7 : (7 : Int32).toInt = 7 := by decide +kernel
  refine ok_itr2 (fun (n : Nat) (x2_1 : Int32) (s_1 : Sto) => n = (8 - x2_1.toInt).toNat ∧ (0 ≤ x2_1.toInt ∧ x2_1.toInt ≤ 7) ∧ (BX s_1) ∧ (FR [93, 94] [] σ s_1) ∧ ((σ.1 94 0).toInt ≤ (s_1.1 94 0).toInt ∧ (s_1.1 94 0).toInt ≤ (σ.1 94 0).toInt + x2_1.toInt)) ?_ (n := _) ⟨rfl, (by omega), hB, hF, (by omega)⟩ (show _ < 10000000 by omega)
  intro a_2 n x2_1 s_1 hI ih_a_2
  obtain ⟨hn_a_2, b_x2_1, hB_s_1, hF_s_1, hl⟩ := hI
  refine ok_ite (fun c_1 => ?_) (fun c_1 => ?_)
  · rw [fa_le] at c_1
    exact ok_ret ⟨hB_s_1, hF_s_1, (by (try dsimp only); omega)⟩
  · rw [fa_le] at c_1
    refine ok_ix ⟨by omega, by omega⟩ ?_
    obtain ⟨t_2, ht_2, g_2⟩ : ∃ t : Int, (chS 6 x2_1).toInt = t ∧ -2147483648 ≤ t ∧ t ≤ 2147483647 := ⟨_, rfl, tI_rng _⟩
    refine ok_lt fun v_3 e_v_3 => ?_
    have b_v_3 : 0 ≤ v_3.toInt ∧ v_3.toInt ≤ 255 := by rw [e_v_3]; exact ch_rng _ _
    refine ok_cals (s_X6_writeSign (x1 := v_3) (σ := s_1) hB_s_1 (by omega) (by omega)) (fun s_4 h_3 => ?_)
    obtain ⟨hB_s_4, hG_s_4, x_s_4⟩ := h_3
    (try dsimp only at hB_s_4 hG_s_4 x_s_4)
    have hF_s_4 : FR [93, 94] [] σ s_4 := FR.cal hF_s_1 hG_s_4 rfl rfl
    obtain ⟨t_4, ht_4, g_4⟩ : ∃ t : Int, (x2_1 + 1).toInt = t ∧ t = x2_1.toInt + (1 : Int32).toInt := ⟨_, rfl, by have h9 := fb_addI (x := x2_1) (y := (1 : Int32)) (by omega) (by omega); exact h9⟩
    refine ok_lt fun x2_5 e_x2_5 => ?_
    have q_x2_5 : x2_5.toInt = t_4 := by rw [e_x2_5]; exact ht_4
    exact ih_a_2 _ x2_5 s_4 (by rw [hn_a_2]; omega) ⟨rfl, (by omega), hB_s_4, hF_s_4, (by omega)⟩

set_option maxHeartbeats 4000000 in
theorem s_X6_writeBlock_s6_s7 {x2 : Int32} {σ : Sto} (hB : BX σ) (p_x2 : 0 ≤ x2.toInt ∧ x2.toInt ≤ 39) (hw : 0 ≤ (σ.1 94 0).toInt ∧ (σ.1 94 0).toInt ≤ 5000) : OK (f_X6_writeBlock_s6_s7 x2 σ) (fun s => BX s ∧ FR [93, 94] [] σ s ∧ ((σ.1 94 0).toInt ≤ (s.1 94 0).toInt ∧ (s.1 94 0).toInt ≤ (σ.1 94 0).toInt + 40)) := by
  unfold f_X6_writeBlock_s6_s7
  have hF : FR [93, 94] [] σ σ := FR.rf
  refine ok_cals (s_X6_write_s6  (σ := σ) hB (by omega)) (fun s_1 h_1 => ?_)
  obtain ⟨hB_s_1, hG_s_1, x_s_1⟩ := h_1
  (try dsimp only at hB_s_1 hG_s_1 x_s_1)
  have hF_s_1 : FR [93, 94] [] σ s_1 := FR.cal hF hG_s_1 rfl rfl
  refine ok_cals (s_X6_writeNumber (x1 := x2) (σ := s_1) hB_s_1 (by omega) (by omega)) (fun s_2 h_2 => ?_)
  obtain ⟨hB_s_2, hG_s_2, x_s_2⟩ := h_2
  (try dsimp only at hB_s_2 hG_s_2 x_s_2)
  have hF_s_2 : FR [93, 94] [] σ s_2 := FR.cal hF_s_1 hG_s_2 rfl rfl
  refine ok_cals (s_X6_write_s7  (σ := s_2) hB_s_2 (by omega)) (fun s_3 h_3 => ?_)
  obtain ⟨hB_s_3, hG_s_3, x_s_3⟩ := h_3
  (try dsimp only at hB_s_3 hG_s_3 x_s_3)
  have hF_s_3 : FR [93, 94] [] σ s_3 := FR.cal hF_s_2 hG_s_3 rfl rfl
  exact ok_ret ⟨hB_s_3, hF_s_3, (by (try dsimp only); omega)⟩

set_option maxHeartbeats 4000000 in
theorem s_X6_write_s8 {σ : Sto} (hB : BX σ) (hw : 0 ≤ (σ.1 94 0).toInt ∧ (σ.1 94 0).toInt ≤ 8000) : OK (f_X6_write_s8 σ) (fun s => BX s ∧ FR [93, 94] [] σ s ∧ ((σ.1 94 0).toInt ≤ (s.1 94 0).toInt ∧ (s.1 94 0).toInt ≤ (σ.1 94 0).toInt + 10)) := by
  unfold f_X6_write_s8
  have hF : FR [93, 94] [] σ σ := FR.rf
  have k_0 : (0 : Int32).toInt = 0 := by decide +kernel
  have k_1 : (1 : Int32).toInt = 1 := by decide +kernel
  have k_10 : (10 : Int32).toInt = 10 := by decide +kernel
  refine ok_itr2 (fun (n : Nat) (x2_1 : Int32) (s_1 : Sto) => n = (11 - x2_1.toInt).toNat ∧ (0 ≤ x2_1.toInt ∧ x2_1.toInt ≤ 10) ∧ (BX s_1) ∧ (FR [93, 94] [] σ s_1) ∧ ((σ.1 94 0).toInt ≤ (s_1.1 94 0).toInt ∧ (s_1.1 94 0).toInt ≤ (σ.1 94 0).toInt + x2_1.toInt)) ?_ (n := _) ⟨rfl, (by omega), hB, hF, (by omega)⟩ (show _ < 10000000 by omega)
  intro a_2 n x2_1 s_1 hI ih_a_2
  obtain ⟨hn_a_2, b_x2_1, hB_s_1, hF_s_1, hl⟩ := hI
  refine ok_ite (fun c_1 => ?_) (fun c_1 => ?_)
  · rw [fa_le] at c_1
    exact ok_ret ⟨hB_s_1, hF_s_1, (by (try dsimp only); omega)⟩
  · rw [fa_le] at c_1
    refine ok_ix ⟨by omega, by omega⟩ ?_
    obtain ⟨t_2, ht_2, g_2⟩ : ∃ t : Int, (chS 8 x2_1).toInt = t ∧ -2147483648 ≤ t ∧ t ≤ 2147483647 := ⟨_, rfl, tI_rng _⟩
    refine ok_lt fun v_3 e_v_3 => ?_
    have b_v_3 : 0 ≤ v_3.toInt ∧ v_3.toInt ≤ 255 := by rw [e_v_3]; exact ch_rng _ _
    refine ok_cals (s_X6_writeSign (x1 := v_3) (σ := s_1) hB_s_1 (by omega) (by omega)) (fun s_4 h_3 => ?_)
    obtain ⟨hB_s_4, hG_s_4, x_s_4⟩ := h_3
    (try dsimp only at hB_s_4 hG_s_4 x_s_4)
    have hF_s_4 : FR [93, 94] [] σ s_4 := FR.cal hF_s_1 hG_s_4 rfl rfl
    obtain ⟨t_4, ht_4, g_4⟩ : ∃ t : Int, (x2_1 + 1).toInt = t ∧ t = x2_1.toInt + (1 : Int32).toInt := ⟨_, rfl, by have h9 := fb_addI (x := x2_1) (y := (1 : Int32)) (by omega) (by omega); exact h9⟩
    refine ok_lt fun x2_5 e_x2_5 => ?_
    have q_x2_5 : x2_5.toInt = t_4 := by rw [e_x2_5]; exact ht_4
    exact ih_a_2 _ x2_5 s_4 (by rw [hn_a_2]; omega) ⟨rfl, (by omega), hB_s_4, hF_s_4, (by omega)⟩

set_option maxHeartbeats 4000000 in
theorem s_X6_writeBlock_s8_s7 {x2 : Int32} {σ : Sto} (hB : BX σ) (p_x2 : 0 ≤ x2.toInt ∧ x2.toInt ≤ 39) (hw : 0 ≤ (σ.1 94 0).toInt ∧ (σ.1 94 0).toInt ≤ 5000) : OK (f_X6_writeBlock_s8_s7 x2 σ) (fun s => BX s ∧ FR [93, 94] [] σ s ∧ ((σ.1 94 0).toInt ≤ (s.1 94 0).toInt ∧ (s.1 94 0).toInt ≤ (σ.1 94 0).toInt + 40)) := by
  unfold f_X6_writeBlock_s8_s7
  have hF : FR [93, 94] [] σ σ := FR.rf
  refine ok_cals (s_X6_write_s8  (σ := σ) hB (by omega)) (fun s_1 h_1 => ?_)
  obtain ⟨hB_s_1, hG_s_1, x_s_1⟩ := h_1
  (try dsimp only at hB_s_1 hG_s_1 x_s_1)
  have hF_s_1 : FR [93, 94] [] σ s_1 := FR.cal hF hG_s_1 rfl rfl
  refine ok_cals (s_X6_writeNumber (x1 := x2) (σ := s_1) hB_s_1 (by omega) (by omega)) (fun s_2 h_2 => ?_)
  obtain ⟨hB_s_2, hG_s_2, x_s_2⟩ := h_2
  (try dsimp only at hB_s_2 hG_s_2 x_s_2)
  have hF_s_2 : FR [93, 94] [] σ s_2 := FR.cal hF_s_1 hG_s_2 rfl rfl
  refine ok_cals (s_X6_write_s7  (σ := s_2) hB_s_2 (by omega)) (fun s_3 h_3 => ?_)
  obtain ⟨hB_s_3, hG_s_3, x_s_3⟩ := h_3
  (try dsimp only at hB_s_3 hG_s_3 x_s_3)
  have hF_s_3 : FR [93, 94] [] σ s_3 := FR.cal hF_s_2 hG_s_3 rfl rfl
  exact ok_ret ⟨hB_s_3, hF_s_3, (by (try dsimp only); omega)⟩

set_option maxHeartbeats 4000000 in
theorem s_X6_write_s9 {σ : Sto} (hB : BX σ) (hw : 0 ≤ (σ.1 94 0).toInt ∧ (σ.1 94 0).toInt ≤ 8000) : OK (f_X6_write_s9 σ) (fun s => BX s ∧ FR [93, 94] [] σ s ∧ ((σ.1 94 0).toInt ≤ (s.1 94 0).toInt ∧ (s.1 94 0).toInt ≤ (σ.1 94 0).toInt + 6)) := by
  unfold f_X6_write_s9
  have hF : FR [93, 94] [] σ σ := FR.rf
  have k_0 : (0 : Int32).toInt = 0 := by decide +kernel
  have k_1 : (1 : Int32).toInt = 1 := by decide +kernel
  have k_6 : (6 : Int32).toInt = 6 := by decide +kernel
  refine ok_itr2 (fun (n : Nat) (x2_1 : Int32) (s_1 : Sto) => n = (7 - x2_1.toInt).toNat ∧ (0 ≤ x2_1.toInt ∧ x2_1.toInt ≤ 6) ∧ (BX s_1) ∧ (FR [93, 94] [] σ s_1) ∧ ((σ.1 94 0).toInt ≤ (s_1.1 94 0).toInt ∧ (s_1.1 94 0).toInt ≤ (σ.1 94 0).toInt + x2_1.toInt)) ?_ (n := _) ⟨rfl, (by omega), hB, hF, (by omega)⟩ (show _ < 10000000 by omega)
  intro a_2 n x2_1 s_1 hI ih_a_2
  obtain ⟨hn_a_2, b_x2_1, hB_s_1, hF_s_1, hl⟩ := hI
  refine ok_ite (fun c_1 => ?_) (fun c_1 => ?_)
  · rw [fa_le] at c_1
    exact ok_ret ⟨hB_s_1, hF_s_1, (by (try dsimp only); omega)⟩
  · rw [fa_le] at c_1
    refine ok_ix ⟨by omega, by omega⟩ ?_
    obtain ⟨t_2, ht_2, g_2⟩ : ∃ t : Int, (chS 9 x2_1).toInt = t ∧ -2147483648 ≤ t ∧ t ≤ 2147483647 := ⟨_, rfl, tI_rng _⟩
    refine ok_lt fun v_3 e_v_3 => ?_
    have b_v_3 : 0 ≤ v_3.toInt ∧ v_3.toInt ≤ 255 := by rw [e_v_3]; exact ch_rng _ _
    refine ok_cals (s_X6_writeSign (x1 := v_3) (σ := s_1) hB_s_1 (by omega) (by omega)) (fun s_4 h_3 => ?_)
    obtain ⟨hB_s_4, hG_s_4, x_s_4⟩ := h_3
    (try dsimp only at hB_s_4 hG_s_4 x_s_4)
    have hF_s_4 : FR [93, 94] [] σ s_4 := FR.cal hF_s_1 hG_s_4 rfl rfl
    obtain ⟨t_4, ht_4, g_4⟩ : ∃ t : Int, (x2_1 + 1).toInt = t ∧ t = x2_1.toInt + (1 : Int32).toInt := ⟨_, rfl, by have h9 := fb_addI (x := x2_1) (y := (1 : Int32)) (by omega) (by omega); exact h9⟩
    refine ok_lt fun x2_5 e_x2_5 => ?_
    have q_x2_5 : x2_5.toInt = t_4 := by rw [e_x2_5]; exact ht_4
    exact ih_a_2 _ x2_5 s_4 (by rw [hn_a_2]; omega) ⟨rfl, (by omega), hB_s_4, hF_s_4, (by omega)⟩

set_option maxHeartbeats 4000000 in
theorem s_X6_writeBlock_s9_s7 {x2 : Int32} {σ : Sto} (hB : BX σ) (p_x2 : 0 ≤ x2.toInt ∧ x2.toInt ≤ 39) (hw : 0 ≤ (σ.1 94 0).toInt ∧ (σ.1 94 0).toInt ≤ 5000) : OK (f_X6_writeBlock_s9_s7 x2 σ) (fun s => BX s ∧ FR [93, 94] [] σ s ∧ ((σ.1 94 0).toInt ≤ (s.1 94 0).toInt ∧ (s.1 94 0).toInt ≤ (σ.1 94 0).toInt + 40)) := by
  unfold f_X6_writeBlock_s9_s7
  have hF : FR [93, 94] [] σ σ := FR.rf
  refine ok_cals (s_X6_write_s9  (σ := σ) hB (by omega)) (fun s_1 h_1 => ?_)
  obtain ⟨hB_s_1, hG_s_1, x_s_1⟩ := h_1
  (try dsimp only at hB_s_1 hG_s_1 x_s_1)
  have hF_s_1 : FR [93, 94] [] σ s_1 := FR.cal hF hG_s_1 rfl rfl
  refine ok_cals (s_X6_writeNumber (x1 := x2) (σ := s_1) hB_s_1 (by omega) (by omega)) (fun s_2 h_2 => ?_)
  obtain ⟨hB_s_2, hG_s_2, x_s_2⟩ := h_2
  (try dsimp only at hB_s_2 hG_s_2 x_s_2)
  have hF_s_2 : FR [93, 94] [] σ s_2 := FR.cal hF_s_1 hG_s_2 rfl rfl
  refine ok_cals (s_X6_write_s7  (σ := s_2) hB_s_2 (by omega)) (fun s_3 h_3 => ?_)
  obtain ⟨hB_s_3, hG_s_3, x_s_3⟩ := h_3
  (try dsimp only at hB_s_3 hG_s_3 x_s_3)
  have hF_s_3 : FR [93, 94] [] σ s_3 := FR.cal hF_s_2 hG_s_3 rfl rfl
  exact ok_ret ⟨hB_s_3, hF_s_3, (by (try dsimp only); omega)⟩

set_option maxHeartbeats 4000000 in
theorem s_X6_write_s10 {σ : Sto} (hB : BX σ) (hw : 0 ≤ (σ.1 94 0).toInt ∧ (σ.1 94 0).toInt ≤ 8000) : OK (f_X6_write_s10 σ) (fun s => BX s ∧ FR [93, 94] [] σ s ∧ ((σ.1 94 0).toInt ≤ (s.1 94 0).toInt ∧ (s.1 94 0).toInt ≤ (σ.1 94 0).toInt + 4)) := by
  unfold f_X6_write_s10
  have hF : FR [93, 94] [] σ σ := FR.rf
  have k_0 : (0 : Int32).toInt = 0 := by decide +kernel
  have k_1 : (1 : Int32).toInt = 1 := by decide +kernel
  have k_4 : (4 : Int32).toInt = 4 := by decide +kernel
  refine ok_itr2 (fun (n : Nat) (x2_1 : Int32) (s_1 : Sto) => n = (5 - x2_1.toInt).toNat ∧ (0 ≤ x2_1.toInt ∧ x2_1.toInt ≤ 4) ∧ (BX s_1) ∧ (FR [93, 94] [] σ s_1) ∧ ((σ.1 94 0).toInt ≤ (s_1.1 94 0).toInt ∧ (s_1.1 94 0).toInt ≤ (σ.1 94 0).toInt + x2_1.toInt)) ?_ (n := _) ⟨rfl, (by omega), hB, hF, (by omega)⟩ (show _ < 10000000 by omega)
  intro a_2 n x2_1 s_1 hI ih_a_2
  obtain ⟨hn_a_2, b_x2_1, hB_s_1, hF_s_1, hl⟩ := hI
  refine ok_ite (fun c_1 => ?_) (fun c_1 => ?_)
  · rw [fa_le] at c_1
    exact ok_ret ⟨hB_s_1, hF_s_1, (by (try dsimp only); omega)⟩
  · rw [fa_le] at c_1
    refine ok_ix ⟨by omega, by omega⟩ ?_
    obtain ⟨t_2, ht_2, g_2⟩ : ∃ t : Int, (chS 10 x2_1).toInt = t ∧ -2147483648 ≤ t ∧ t ≤ 2147483647 := ⟨_, rfl, tI_rng _⟩
    refine ok_lt fun v_3 e_v_3 => ?_
    have b_v_3 : 0 ≤ v_3.toInt ∧ v_3.toInt ≤ 255 := by rw [e_v_3]; exact ch_rng _ _
    refine ok_cals (s_X6_writeSign (x1 := v_3) (σ := s_1) hB_s_1 (by omega) (by omega)) (fun s_4 h_3 => ?_)
    obtain ⟨hB_s_4, hG_s_4, x_s_4⟩ := h_3
    (try dsimp only at hB_s_4 hG_s_4 x_s_4)
    have hF_s_4 : FR [93, 94] [] σ s_4 := FR.cal hF_s_1 hG_s_4 rfl rfl
    obtain ⟨t_4, ht_4, g_4⟩ : ∃ t : Int, (x2_1 + 1).toInt = t ∧ t = x2_1.toInt + (1 : Int32).toInt := ⟨_, rfl, by have h9 := fb_addI (x := x2_1) (y := (1 : Int32)) (by omega) (by omega); exact h9⟩
    refine ok_lt fun x2_5 e_x2_5 => ?_
    have q_x2_5 : x2_5.toInt = t_4 := by rw [e_x2_5]; exact ht_4
    exact ih_a_2 _ x2_5 s_4 (by rw [hn_a_2]; omega) ⟨rfl, (by omega), hB_s_4, hF_s_4, (by omega)⟩

set_option maxHeartbeats 4000000 in
theorem s_X6_write_s11 {σ : Sto} (hB : BX σ) (hw : 0 ≤ (σ.1 94 0).toInt ∧ (σ.1 94 0).toInt ≤ 8000) : OK (f_X6_write_s11 σ) (fun s => BX s ∧ FR [93, 94] [] σ s ∧ ((σ.1 94 0).toInt ≤ (s.1 94 0).toInt ∧ (s.1 94 0).toInt ≤ (σ.1 94 0).toInt + 8)) := by
  unfold f_X6_write_s11
  have hF : FR [93, 94] [] σ σ := FR.rf
  have k_0 : (0 : Int32).toInt = 0 := by decide +kernel
  have k_1 : (1 : Int32).toInt = 1 := by decide +kernel
  have k_8 : (8 : Int32).toInt = 8 := by decide +kernel
  refine ok_itr2 (fun (n : Nat) (x2_1 : Int32) (s_1 : Sto) => n = (9 - x2_1.toInt).toNat ∧ (0 ≤ x2_1.toInt ∧ x2_1.toInt ≤ 8) ∧ (BX s_1) ∧ (FR [93, 94] [] σ s_1) ∧ ((σ.1 94 0).toInt ≤ (s_1.1 94 0).toInt ∧ (s_1.1 94 0).toInt ≤ (σ.1 94 0).toInt + x2_1.toInt)) ?_ (n := _) ⟨rfl, (by omega), hB, hF, (by omega)⟩ (show _ < 10000000 by omega)
  intro a_2 n x2_1 s_1 hI ih_a_2
  obtain ⟨hn_a_2, b_x2_1, hB_s_1, hF_s_1, hl⟩ := hI
  refine ok_ite (fun c_1 => ?_) (fun c_1 => ?_)
  · rw [fa_le] at c_1
    exact ok_ret ⟨hB_s_1, hF_s_1, (by (try dsimp only); omega)⟩
  · rw [fa_le] at c_1
    refine ok_ix ⟨by omega, by omega⟩ ?_
    obtain ⟨t_2, ht_2, g_2⟩ : ∃ t : Int, (chS 11 x2_1).toInt = t ∧ -2147483648 ≤ t ∧ t ≤ 2147483647 := ⟨_, rfl, tI_rng _⟩
    refine ok_lt fun v_3 e_v_3 => ?_
    have b_v_3 : 0 ≤ v_3.toInt ∧ v_3.toInt ≤ 255 := by rw [e_v_3]; exact ch_rng _ _
    refine ok_cals (s_X6_writeSign (x1 := v_3) (σ := s_1) hB_s_1 (by omega) (by omega)) (fun s_4 h_3 => ?_)
    obtain ⟨hB_s_4, hG_s_4, x_s_4⟩ := h_3
    (try dsimp only at hB_s_4 hG_s_4 x_s_4)
    have hF_s_4 : FR [93, 94] [] σ s_4 := FR.cal hF_s_1 hG_s_4 rfl rfl
    obtain ⟨t_4, ht_4, g_4⟩ : ∃ t : Int, (x2_1 + 1).toInt = t ∧ t = x2_1.toInt + (1 : Int32).toInt := ⟨_, rfl, by have h9 := fb_addI (x := x2_1) (y := (1 : Int32)) (by omega) (by omega); exact h9⟩
    refine ok_lt fun x2_5 e_x2_5 => ?_
    have q_x2_5 : x2_5.toInt = t_4 := by rw [e_x2_5]; exact ht_4
    exact ih_a_2 _ x2_5 s_4 (by rw [hn_a_2]; omega) ⟨rfl, (by omega), hB_s_4, hF_s_4, (by omega)⟩

set_option maxHeartbeats 4000000 in
theorem s_X6_writeBlock_s11_s7 {x2 : Int32} {σ : Sto} (hB : BX σ) (p_x2 : 0 ≤ x2.toInt ∧ x2.toInt ≤ 39) (hw : 0 ≤ (σ.1 94 0).toInt ∧ (σ.1 94 0).toInt ≤ 5000) : OK (f_X6_writeBlock_s11_s7 x2 σ) (fun s => BX s ∧ FR [93, 94] [] σ s ∧ ((σ.1 94 0).toInt ≤ (s.1 94 0).toInt ∧ (s.1 94 0).toInt ≤ (σ.1 94 0).toInt + 40)) := by
  unfold f_X6_writeBlock_s11_s7
  have hF : FR [93, 94] [] σ σ := FR.rf
  refine ok_cals (s_X6_write_s11  (σ := σ) hB (by omega)) (fun s_1 h_1 => ?_)
  obtain ⟨hB_s_1, hG_s_1, x_s_1⟩ := h_1
  (try dsimp only at hB_s_1 hG_s_1 x_s_1)
  have hF_s_1 : FR [93, 94] [] σ s_1 := FR.cal hF hG_s_1 rfl rfl
  refine ok_cals (s_X6_writeNumber (x1 := x2) (σ := s_1) hB_s_1 (by omega) (by omega)) (fun s_2 h_2 => ?_)
  obtain ⟨hB_s_2, hG_s_2, x_s_2⟩ := h_2
  (try dsimp only at hB_s_2 hG_s_2 x_s_2)
  have hF_s_2 : FR [93, 94] [] σ s_2 := FR.cal hF_s_1 hG_s_2 rfl rfl
  refine ok_cals (s_X6_write_s7  (σ := s_2) hB_s_2 (by omega)) (fun s_3 h_3 => ?_)
  obtain ⟨hB_s_3, hG_s_3, x_s_3⟩ := h_3
  (try dsimp only at hB_s_3 hG_s_3 x_s_3)
  have hF_s_3 : FR [93, 94] [] σ s_3 := FR.cal hF_s_2 hG_s_3 rfl rfl
  exact ok_ret ⟨hB_s_3, hF_s_3, (by (try dsimp only); omega)⟩

set_option maxHeartbeats 4000000 in
theorem s_X6_write_s12 {σ : Sto} (hB : BX σ) (hw : 0 ≤ (σ.1 94 0).toInt ∧ (σ.1 94 0).toInt ≤ 8000) : OK (f_X6_write_s12 σ) (fun s => BX s ∧ FR [93, 94] [] σ s ∧ ((σ.1 94 0).toInt ≤ (s.1 94 0).toInt ∧ (s.1 94 0).toInt ≤ (σ.1 94 0).toInt + 1)) := by
  unfold f_X6_write_s12
  have hF : FR [93, 94] [] σ σ := FR.rf
  have k_0 : (0 : Int32).toInt = 0 := by decide +kernel
  have k_1 : (1 : Int32).toInt = 1 := by decide +kernel
  refine ok_itr2 (fun (n : Nat) (x2_1 : Int32) (s_1 : Sto) => n = (2 - x2_1.toInt).toNat ∧ (0 ≤ x2_1.toInt ∧ x2_1.toInt ≤ 1) ∧ (BX s_1) ∧ (FR [93, 94] [] σ s_1) ∧ ((σ.1 94 0).toInt ≤ (s_1.1 94 0).toInt ∧ (s_1.1 94 0).toInt ≤ (σ.1 94 0).toInt + x2_1.toInt)) ?_ (n := _) ⟨rfl, (by omega), hB, hF, (by omega)⟩ (show _ < 10000000 by omega)
  intro a_2 n x2_1 s_1 hI ih_a_2
  obtain ⟨hn_a_2, b_x2_1, hB_s_1, hF_s_1, hl⟩ := hI
  refine ok_ite (fun c_1 => ?_) (fun c_1 => ?_)
  · rw [fa_le] at c_1
    exact ok_ret ⟨hB_s_1, hF_s_1, (by (try dsimp only); omega)⟩
  · rw [fa_le] at c_1
    refine ok_ix ⟨by omega, by omega⟩ ?_
    obtain ⟨t_2, ht_2, g_2⟩ : ∃ t : Int, (chS 12 x2_1).toInt = t ∧ -2147483648 ≤ t ∧ t ≤ 2147483647 := ⟨_, rfl, tI_rng _⟩
    refine ok_lt fun v_3 e_v_3 => ?_
    have b_v_3 : 0 ≤ v_3.toInt ∧ v_3.toInt ≤ 255 := by rw [e_v_3]; exact ch_rng _ _
    refine ok_cals (s_X6_writeSign (x1 := v_3) (σ := s_1) hB_s_1 (by omega) (by omega)) (fun s_4 h_3 => ?_)
    obtain ⟨hB_s_4, hG_s_4, x_s_4⟩ := h_3
    (try dsimp only at hB_s_4 hG_s_4 x_s_4)
    have hF_s_4 : FR [93, 94] [] σ s_4 := FR.cal hF_s_1 hG_s_4 rfl rfl
    obtain ⟨t_4, ht_4, g_4⟩ : ∃ t : Int, (x2_1 + 1).toInt = t ∧ t = x2_1.toInt + (1 : Int32).toInt := ⟨_, rfl, by have h9 := fb_addI (x := x2_1) (y := (1 : Int32)) (by omega) (by omega); exact h9⟩
    refine ok_lt fun x2_5 e_x2_5 => ?_
    have q_x2_5 : x2_5.toInt = t_4 := by rw [e_x2_5]; exact ht_4
    exact ih_a_2 _ x2_5 s_4 (by rw [hn_a_2]; omega) ⟨rfl, (by omega), hB_s_4, hF_s_4, (by omega)⟩

set_option maxHeartbeats 4000000 in
theorem s_X6_write_s13 {σ : Sto} (hB : BX σ) (hw : 0 ≤ (σ.1 94 0).toInt ∧ (σ.1 94 0).toInt ≤ 8000) : OK (f_X6_write_s13 σ) (fun s => BX s ∧ FR [93, 94] [] σ s ∧ ((σ.1 94 0).toInt ≤ (s.1 94 0).toInt ∧ (s.1 94 0).toInt ≤ (σ.1 94 0).toInt + 1)) := by
  unfold f_X6_write_s13
  have hF : FR [93, 94] [] σ σ := FR.rf
  have k_0 : (0 : Int32).toInt = 0 := by decide +kernel
  have k_1 : (1 : Int32).toInt = 1 := by decide +kernel
  refine ok_itr2 (fun (n : Nat) (x2_1 : Int32) (s_1 : Sto) => n = (2 - x2_1.toInt).toNat ∧ (0 ≤ x2_1.toInt ∧ x2_1.toInt ≤ 1) ∧ (BX s_1) ∧ (FR [93, 94] [] σ s_1) ∧ ((σ.1 94 0).toInt ≤ (s_1.1 94 0).toInt ∧ (s_1.1 94 0).toInt ≤ (σ.1 94 0).toInt + x2_1.toInt)) ?_ (n := _) ⟨rfl, (by omega), hB, hF, (by omega)⟩ (show _ < 10000000 by omega)
  intro a_2 n x2_1 s_1 hI ih_a_2
  obtain ⟨hn_a_2, b_x2_1, hB_s_1, hF_s_1, hl⟩ := hI
  refine ok_ite (fun c_1 => ?_) (fun c_1 => ?_)
  · rw [fa_le] at c_1
    exact ok_ret ⟨hB_s_1, hF_s_1, (by (try dsimp only); omega)⟩
  · rw [fa_le] at c_1
    refine ok_ix ⟨by omega, by omega⟩ ?_
    obtain ⟨t_2, ht_2, g_2⟩ : ∃ t : Int, (chS 13 x2_1).toInt = t ∧ -2147483648 ≤ t ∧ t ≤ 2147483647 := ⟨_, rfl, tI_rng _⟩
    refine ok_lt fun v_3 e_v_3 => ?_
    have b_v_3 : 0 ≤ v_3.toInt ∧ v_3.toInt ≤ 255 := by rw [e_v_3]; exact ch_rng _ _
    refine ok_cals (s_X6_writeSign (x1 := v_3) (σ := s_1) hB_s_1 (by omega) (by omega)) (fun s_4 h_3 => ?_)
    obtain ⟨hB_s_4, hG_s_4, x_s_4⟩ := h_3
    (try dsimp only at hB_s_4 hG_s_4 x_s_4)
    have hF_s_4 : FR [93, 94] [] σ s_4 := FR.cal hF_s_1 hG_s_4 rfl rfl
    obtain ⟨t_4, ht_4, g_4⟩ : ∃ t : Int, (x2_1 + 1).toInt = t ∧ t = x2_1.toInt + (1 : Int32).toInt := ⟨_, rfl, by have h9 := fb_addI (x := x2_1) (y := (1 : Int32)) (by omega) (by omega); exact h9⟩
    refine ok_lt fun x2_5 e_x2_5 => ?_
    have q_x2_5 : x2_5.toInt = t_4 := by rw [e_x2_5]; exact ht_4
    exact ih_a_2 _ x2_5 s_4 (by rw [hn_a_2]; omega) ⟨rfl, (by omega), hB_s_4, hF_s_4, (by omega)⟩

set_option maxHeartbeats 4000000 in
theorem s_X6_writeBlock_s12_s13 {x2 : Int32} {σ : Sto} (hB : BX σ) (p_x2 : 0 ≤ x2.toInt ∧ x2.toInt ≤ 39) (hw : 0 ≤ (σ.1 94 0).toInt ∧ (σ.1 94 0).toInt ≤ 5000) : OK (f_X6_writeBlock_s12_s13 x2 σ) (fun s => BX s ∧ FR [93, 94] [] σ s ∧ ((σ.1 94 0).toInt ≤ (s.1 94 0).toInt ∧ (s.1 94 0).toInt ≤ (σ.1 94 0).toInt + 40)) := by
  unfold f_X6_writeBlock_s12_s13
  have hF : FR [93, 94] [] σ σ := FR.rf
  refine ok_cals (s_X6_write_s12  (σ := σ) hB (by omega)) (fun s_1 h_1 => ?_)
  obtain ⟨hB_s_1, hG_s_1, x_s_1⟩ := h_1
  (try dsimp only at hB_s_1 hG_s_1 x_s_1)
  have hF_s_1 : FR [93, 94] [] σ s_1 := FR.cal hF hG_s_1 rfl rfl
  refine ok_cals (s_X6_writeNumber (x1 := x2) (σ := s_1) hB_s_1 (by omega) (by omega)) (fun s_2 h_2 => ?_)
  obtain ⟨hB_s_2, hG_s_2, x_s_2⟩ := h_2
  (try dsimp only at hB_s_2 hG_s_2 x_s_2)
  have hF_s_2 : FR [93, 94] [] σ s_2 := FR.cal hF_s_1 hG_s_2 rfl rfl
  refine ok_cals (s_X6_write_s13  (σ := s_2) hB_s_2 (by omega)) (fun s_3 h_3 => ?_)
  obtain ⟨hB_s_3, hG_s_3, x_s_3⟩ := h_3
  (try dsimp only at hB_s_3 hG_s_3 x_s_3)
  have hF_s_3 : FR [93, 94] [] σ s_3 := FR.cal hF_s_2 hG_s_3 rfl rfl
  exact ok_ret ⟨hB_s_3, hF_s_3, (by (try dsimp only); omega)⟩

set_option maxHeartbeats 4000000 in
theorem s_X6_widthOfLine {x1 : Int32} {σ : Sto} (hB : BX σ) (hPI : PI σ) (hPA : PA σ) (hSI : SI σ) (hES : ES σ) (hLQ : LQ σ) (p_x1 : 0 ≤ x1.toInt ∧ x1.toInt ≤ 799) (hx1 : x1.toInt < (σ.1 68 0).toInt) : OK (f_X6_widthOfLine x1 σ) (fun r => (0 ≤ r.1.toInt ∧ r.1.toInt ≤ 10000) ∧ BX r.2 ∧ FR [93, 94] [] σ r.2) := by
  unfold f_X6_widthOfLine
  have hF : FR [93, 94] [] σ σ := FR.rf
  have k_0 : (0 : Int32).toInt = 0 := by decide +kernel
  have k_1 : (1 : Int32).toInt = 1 := by decide +kernel
  have k_2 : (2 : Int32).toInt = 2 := by decide +kernel
  have k_3 : (3 : Int32).toInt = 3 := by decide +kernel
  have k_4 : (4 : Int32).toInt = 4 := by decide +kernel
  have k_5 : (5 : Int32).toInt = 5 := by decide +kernel
  have k_6 : (6 : Int32).toInt = 6 := by decide +kernel
  have k_7 : (7 : Int32).toInt = 7 := by decide +kernel
  have k_8 : (8 : Int32).toInt = 8 := by decide +kernel
  have k_9 : (9 : Int32).toInt = 9 := by decide +kernel
  have k_10 : (10 : Int32).toInt = 10 := by decide +kernel
  refine ok_lt fun s_1 e_s_1 => ?_
  have hB_s_1 : BX s_1 := by rw [e_s_1]; exact pX_94 hB (by omega)
  have hF_s_1 : FR [93, 94] [] σ s_1 := by rw [e_s_1]; exact FR.st hF (by decide)
  have w_s_1_94 : (s_1.1 94 0).toInt = (0 : Int32).toInt := by rw [e_s_1, sti_s]
  have hPI_s_1 : PI s_1 := by rw [e_s_1]; exact PI.st1 (by decide) hPI
  have hPA_s_1 : PA s_1 := by rw [e_s_1]; exact PA.st1 (by decide) hPA
  have hSI_s_1 : SI s_1 := by rw [e_s_1]; exact SI.st1 (by decide) hSI
  have hES_s_1 : ES s_1 := by rw [e_s_1]; exact ES.st1 (by decide) hES
  have hLQ_s_1 : LQ s_1 := by rw [e_s_1]; exact LQ.st1 (by decide) hLQ
  have l46 : (s_1.1 46 0).toInt = (σ.1 46 0).toInt := by rw [e_s_1]; rfl
  have l52 : (s_1.1 52 0).toInt = (σ.1 52 0).toInt := by rw [e_s_1]; rfl
  refine ok_ix ⟨by omega, by omega⟩ ?_
  have g_1 := gX_70 hB_s_1 (x1.toNatClampNeg)
  refine ok_lt fun v_2 e_v_2 => ?_
  have b_v_2 : 0 ≤ v_2.toInt ∧ v_2.toInt ≤ 39 := by rw [e_v_2]; exact gX_70 hB_s_1 _
  have cx1 := clamp_I (x := x1) (by omega)
  refine ok_ix ⟨by omega, by omega⟩ ?_
  have g_2 := gX_69 hB_s_1 (x1.toNatClampNeg)
  refine ok_lt fun v_3 e_v_3 => ?_
  have b_v_3 : 0 ≤ v_3.toInt ∧ v_3.toInt ≤ 12 := by rw [e_v_3]; exact gX_69 hB_s_1 _
  have lq := hLQ_s_1 x1.toNatClampNeg (by rw [show (s_1.1 68 0) = σ.1 68 0 by rw [e_s_1]; rfl]; omega)
  rw [← e_v_3, ← e_v_2] at lq
  refine ok_jn ?_
  refine ok_ite (fun c_3 => ?_) (fun c_3 => ?_)
  · have c_3 := c_3
    refine ok_ix ⟨by omega, by omega⟩ ?_
    have g_4 := gX_72 hB_s_1 (x1.toNatClampNeg)
    refine ok_lt fun v_6 e_v_6 => ?_
    have b_v_6 : (-1) ≤ v_6.toInt ∧ v_6.toInt ≤ 799 := by rw [e_v_6]; exact gX_72 hB_s_1 _
    have l6 := lq.1 (by omega)
    rw [← e_v_6] at l6
    have g52 := gX_52 hB 0
    refine ok_cals (s_X6_writeStatement (x1 := v_6) (σ := s_1) hB_s_1 hPI_s_1 hPA_s_1 hSI_s_1 hES_s_1 (by omega) (by omega) (by omega)) (fun s_7 h_5 => ?_)
    obtain ⟨hB_s_7, hG_s_7⟩ := h_5
    (try dsimp only at hB_s_7 hG_s_7)
    have hF_s_7 : FR [93, 94] [] σ s_7 := FR.cal hF_s_1 hG_s_7 rfl rfl
    have hPI_s_7 : PI s_7 := PI.fr hG_s_7 (by decide) hPI_s_1
    have hPA_s_7 : PA s_7 := PA.fr hG_s_7 (by decide) hPA_s_1
    have hSI_s_7 : SI s_7 := SI.fr hG_s_7 (by decide) hSI_s_1
    have hES_s_7 : ES s_7 := ES.fr hG_s_7 (by decide) hES_s_1
    have hLQ_s_7 : LQ s_7 := LQ.fr hG_s_7 (by decide) hLQ_s_1
    have g_6 := gX_94 hB_s_7 0
    exact ok_ret ⟨(by (try dsimp only); omega), hB_s_7, hF_s_7⟩
  · have c_3 := c_3
    refine ok_ite (fun c_7 => ?_) (fun c_7 => ?_)
    · have c_7 := c_7
      refine ok_cals (s_X6_writeBlock_s0_s1 (x2 := v_2) (σ := s_1) hB_s_1 (by omega) (by omega)) (fun s_8 h_8 => ?_)
      obtain ⟨hB_s_8, hG_s_8, x_s_8⟩ := h_8
      (try dsimp only at hB_s_8 hG_s_8 x_s_8)
      have hF_s_8 : FR [93, 94] [] σ s_8 := FR.cal hF_s_1 hG_s_8 rfl rfl
      have hPI_s_8 : PI s_8 := PI.fr hG_s_8 (by decide) hPI_s_1
      have hPA_s_8 : PA s_8 := PA.fr hG_s_8 (by decide) hPA_s_1
      have hSI_s_8 : SI s_8 := SI.fr hG_s_8 (by decide) hSI_s_1
      have hES_s_8 : ES s_8 := ES.fr hG_s_8 (by decide) hES_s_1
      have hLQ_s_8 : LQ s_8 := LQ.fr hG_s_8 (by decide) hLQ_s_1
      have g_9 := gX_94 hB_s_8 0
      exact ok_ret ⟨(by (try dsimp only); omega), hB_s_8, hF_s_8⟩
    · have c_7 := c_7
      refine ok_ite (fun c_10 => ?_) (fun c_10 => ?_)
      · have c_10 := c_10
        refine ok_cals (s_X6_writeBlock_s2_s1 (x2 := v_2) (σ := s_1) hB_s_1 (by omega) (by omega)) (fun s_9 h_11 => ?_)
        obtain ⟨hB_s_9, hG_s_9, x_s_9⟩ := h_11
        (try dsimp only at hB_s_9 hG_s_9 x_s_9)
        have hF_s_9 : FR [93, 94] [] σ s_9 := FR.cal hF_s_1 hG_s_9 rfl rfl
        have hPI_s_9 : PI s_9 := PI.fr hG_s_9 (by decide) hPI_s_1
        have hPA_s_9 : PA s_9 := PA.fr hG_s_9 (by decide) hPA_s_1
        have hSI_s_9 : SI s_9 := SI.fr hG_s_9 (by decide) hSI_s_1
        have hES_s_9 : ES s_9 := ES.fr hG_s_9 (by decide) hES_s_1
        have hLQ_s_9 : LQ s_9 := LQ.fr hG_s_9 (by decide) hLQ_s_1
        have g_12 := gX_94 hB_s_9 0
        exact ok_ret ⟨(by (try dsimp only); omega), hB_s_9, hF_s_9⟩
      · have c_10 := c_10
        refine ok_ite (fun c_13 => ?_) (fun c_13 => ?_)
        · have c_13 := c_13
          refine ok_cals (s_X6_write_s3  (σ := s_1) hB_s_1 (by omega)) (fun s_10 h_14 => ?_)
          obtain ⟨hB_s_10, hG_s_10, x_s_10⟩ := h_14
          (try dsimp only at hB_s_10 hG_s_10 x_s_10)
          have hF_s_10 : FR [93, 94] [] σ s_10 := FR.cal hF_s_1 hG_s_10 rfl rfl
          have hPI_s_10 : PI s_10 := PI.fr hG_s_10 (by decide) hPI_s_1
          have hPA_s_10 : PA s_10 := PA.fr hG_s_10 (by decide) hPA_s_1
          have hSI_s_10 : SI s_10 := SI.fr hG_s_10 (by decide) hSI_s_1
          have hES_s_10 : ES s_10 := ES.fr hG_s_10 (by decide) hES_s_1
          have hLQ_s_10 : LQ s_10 := LQ.fr hG_s_10 (by decide) hLQ_s_1
          refine ok_ix ⟨by omega, by omega⟩ ?_
          have g_15 := gX_57 hB_s_10 (v_2.toNatClampNeg)
          refine ok_lt fun v_11 e_v_11 => ?_
          have b_v_11 : (-1) ≤ v_11.toInt ∧ v_11.toInt ≤ 511 := by rw [e_v_11]; exact gX_57 hB_s_10 _
          have z11 : v_11.toInt < (s_10.1 46 0).toInt := by rw [e_v_11, hG_s_10.1 57 (by decide), hG_s_10.1 46 (by decide)]; exact lq.2 (by omega)
          have l10 : (s_10.1 46 0).toInt = (σ.1 46 0).toInt := by rw [hF_s_10.1 46 (by decide)]
          have PW : v_11.toInt ≠ -1 → 4 * (s_10.1 50 v_11.toNatClampNeg).toInt ≤ 240 := fun h => by have := (hPA_s_10.1 v_11.toNatClampNeg (by have := clamp_I (x := v_11) (by omega); omega)).2.1; omega
          have PW := Hid.i PW
          refine ok_cals (s_X6_writeExpression (x1 := v_11) (x2 := (0 : Int32)) (σ := s_10) hB_s_10 hPI_s_10 hPA_s_10 (by omega) (by omega) (by omega) ⟨by omega, by omega, fun h => by have := PW.o h; omega⟩ (by omega)) (fun s_12 h_16 => ?_)
          obtain ⟨hB_s_12, hG_s_12, x_s_12⟩ := h_16
          (try dsimp only at hB_s_12 hG_s_12 x_s_12)
          have hF_s_12 : FR [93, 94] [] σ s_12 := FR.cal hF_s_10 hG_s_12 rfl rfl
          have hPI_s_12 : PI s_12 := PI.fr hG_s_12 (by decide) hPI_s_10
          have hPA_s_12 : PA s_12 := PA.fr hG_s_12 (by decide) hPA_s_10
          have hSI_s_12 : SI s_12 := SI.fr hG_s_12 (by decide) hSI_s_10
          have hES_s_12 : ES s_12 := ES.fr hG_s_12 (by decide) hES_s_10
          have hLQ_s_12 : LQ s_12 := LQ.fr hG_s_12 (by decide) hLQ_s_10
          have y12 : (s_12.1 94 0).toInt ≤ (s_10.1 94 0).toInt + 240 := by rcases (show v_11.toInt = -1 ∨ v_11.toInt ≠ -1 by omega) with q | q; (have := x_s_12.2.2 q; omega); (have := x_s_12.2.1 q; have := PW.o q; omega)
          have y12a := x_s_12.1
          clear x_s_12 PW
          refine ok_cals (s_X6_write_s1  (σ := s_12) hB_s_12 (by omega)) (fun s_13 h_17 => ?_)
          obtain ⟨hB_s_13, hG_s_13, x_s_13⟩ := h_17
          (try dsimp only at hB_s_13 hG_s_13 x_s_13)
          have hF_s_13 : FR [93, 94] [] σ s_13 := FR.cal hF_s_12 hG_s_13 rfl rfl
          have hPI_s_13 : PI s_13 := PI.fr hG_s_13 (by decide) hPI_s_12
          have hPA_s_13 : PA s_13 := PA.fr hG_s_13 (by decide) hPA_s_12
          have hSI_s_13 : SI s_13 := SI.fr hG_s_13 (by decide) hSI_s_12
          have hES_s_13 : ES s_13 := ES.fr hG_s_13 (by decide) hES_s_12
          have hLQ_s_13 : LQ s_13 := LQ.fr hG_s_13 (by decide) hLQ_s_12
          have g_18 := gX_94 hB_s_13 0
          exact ok_ret ⟨(by (try dsimp only); omega), hB_s_13, hF_s_13⟩
        · have c_13 := c_13
          refine ok_ite (fun c_19 => ?_) (fun c_19 => ?_)
          · have c_19 := c_19
            refine ok_cals (s_X6_write_s4  (σ := s_1) hB_s_1 (by omega)) (fun s_14 h_20 => ?_)
            obtain ⟨hB_s_14, hG_s_14, x_s_14⟩ := h_20
            (try dsimp only at hB_s_14 hG_s_14 x_s_14)
            have hF_s_14 : FR [93, 94] [] σ s_14 := FR.cal hF_s_1 hG_s_14 rfl rfl
            have hPI_s_14 : PI s_14 := PI.fr hG_s_14 (by decide) hPI_s_1
            have hPA_s_14 : PA s_14 := PA.fr hG_s_14 (by decide) hPA_s_1
            have hSI_s_14 : SI s_14 := SI.fr hG_s_14 (by decide) hSI_s_1
            have hES_s_14 : ES s_14 := ES.fr hG_s_14 (by decide) hES_s_1
            have hLQ_s_14 : LQ s_14 := LQ.fr hG_s_14 (by decide) hLQ_s_1
            have g_21 := gX_94 hB_s_14 0
            exact ok_ret ⟨(by (try dsimp only); omega), hB_s_14, hF_s_14⟩
          · have c_19 := c_19
            refine ok_ite (fun c_22 => ?_) (fun c_22 => ?_)
            · have c_22 := c_22
              refine ok_cals (s_X6_write_s5  (σ := s_1) hB_s_1 (by omega)) (fun s_15 h_23 => ?_)
              obtain ⟨hB_s_15, hG_s_15, x_s_15⟩ := h_23
              (try dsimp only at hB_s_15 hG_s_15 x_s_15)
              have hF_s_15 : FR [93, 94] [] σ s_15 := FR.cal hF_s_1 hG_s_15 rfl rfl
              have hPI_s_15 : PI s_15 := PI.fr hG_s_15 (by decide) hPI_s_1
              have hPA_s_15 : PA s_15 := PA.fr hG_s_15 (by decide) hPA_s_1
              have hSI_s_15 : SI s_15 := SI.fr hG_s_15 (by decide) hSI_s_1
              have hES_s_15 : ES s_15 := ES.fr hG_s_15 (by decide) hES_s_1
              have hLQ_s_15 : LQ s_15 := LQ.fr hG_s_15 (by decide) hLQ_s_1
              have g_24 := gX_94 hB_s_15 0
              exact ok_ret ⟨(by (try dsimp only); omega), hB_s_15, hF_s_15⟩
            · have c_22 := c_22
              refine ok_ite (fun c_25 => ?_) (fun c_25 => ?_)
              · have c_25 := c_25
                refine ok_cals (s_X6_writeBlock_s6_s7 (x2 := v_2) (σ := s_1) hB_s_1 (by omega) (by omega)) (fun s_16 h_26 => ?_)
                obtain ⟨hB_s_16, hG_s_16, x_s_16⟩ := h_26
                (try dsimp only at hB_s_16 hG_s_16 x_s_16)
                have hF_s_16 : FR [93, 94] [] σ s_16 := FR.cal hF_s_1 hG_s_16 rfl rfl
                have hPI_s_16 : PI s_16 := PI.fr hG_s_16 (by decide) hPI_s_1
                have hPA_s_16 : PA s_16 := PA.fr hG_s_16 (by decide) hPA_s_1
                have hSI_s_16 : SI s_16 := SI.fr hG_s_16 (by decide) hSI_s_1
                have hES_s_16 : ES s_16 := ES.fr hG_s_16 (by decide) hES_s_1
                have hLQ_s_16 : LQ s_16 := LQ.fr hG_s_16 (by decide) hLQ_s_1
                have g_27 := gX_94 hB_s_16 0
                exact ok_ret ⟨(by (try dsimp only); omega), hB_s_16, hF_s_16⟩
              · have c_25 := c_25
                refine ok_ite (fun c_28 => ?_) (fun c_28 => ?_)
                · have c_28 := c_28
                  refine ok_cals (s_X6_writeBlock_s8_s7 (x2 := v_2) (σ := s_1) hB_s_1 (by omega) (by omega)) (fun s_17 h_29 => ?_)
                  obtain ⟨hB_s_17, hG_s_17, x_s_17⟩ := h_29
                  (try dsimp only at hB_s_17 hG_s_17 x_s_17)
                  have hF_s_17 : FR [93, 94] [] σ s_17 := FR.cal hF_s_1 hG_s_17 rfl rfl
                  have hPI_s_17 : PI s_17 := PI.fr hG_s_17 (by decide) hPI_s_1
                  have hPA_s_17 : PA s_17 := PA.fr hG_s_17 (by decide) hPA_s_1
                  have hSI_s_17 : SI s_17 := SI.fr hG_s_17 (by decide) hSI_s_1
                  have hES_s_17 : ES s_17 := ES.fr hG_s_17 (by decide) hES_s_1
                  have hLQ_s_17 : LQ s_17 := LQ.fr hG_s_17 (by decide) hLQ_s_1
                  have g_30 := gX_94 hB_s_17 0
                  exact ok_ret ⟨(by (try dsimp only); omega), hB_s_17, hF_s_17⟩
                · have c_28 := c_28
                  refine ok_ite (fun c_31 => ?_) (fun c_31 => ?_)
                  · have c_31 := c_31
                    refine ok_cals (s_X6_writeBlock_s9_s7 (x2 := v_2) (σ := s_1) hB_s_1 (by omega) (by omega)) (fun s_18 h_32 => ?_)
                    obtain ⟨hB_s_18, hG_s_18, x_s_18⟩ := h_32
                    (try dsimp only at hB_s_18 hG_s_18 x_s_18)
                    have hF_s_18 : FR [93, 94] [] σ s_18 := FR.cal hF_s_1 hG_s_18 rfl rfl
                    have hPI_s_18 : PI s_18 := PI.fr hG_s_18 (by decide) hPI_s_1
                    have hPA_s_18 : PA s_18 := PA.fr hG_s_18 (by decide) hPA_s_1
                    have hSI_s_18 : SI s_18 := SI.fr hG_s_18 (by decide) hSI_s_1
                    have hES_s_18 : ES s_18 := ES.fr hG_s_18 (by decide) hES_s_1
                    have hLQ_s_18 : LQ s_18 := LQ.fr hG_s_18 (by decide) hLQ_s_1
                    have g_33 := gX_94 hB_s_18 0
                    exact ok_ret ⟨(by (try dsimp only); omega), hB_s_18, hF_s_18⟩
                  · have c_31 := c_31
                    refine ok_ite (fun c_34 => ?_) (fun c_34 => ?_)
                    · have c_34 := c_34
                      refine ok_cals (s_X6_write_s10  (σ := s_1) hB_s_1 (by omega)) (fun s_19 h_35 => ?_)
                      obtain ⟨hB_s_19, hG_s_19, x_s_19⟩ := h_35
                      (try dsimp only at hB_s_19 hG_s_19 x_s_19)
                      have hF_s_19 : FR [93, 94] [] σ s_19 := FR.cal hF_s_1 hG_s_19 rfl rfl
                      have hPI_s_19 : PI s_19 := PI.fr hG_s_19 (by decide) hPI_s_1
                      have hPA_s_19 : PA s_19 := PA.fr hG_s_19 (by decide) hPA_s_1
                      have hSI_s_19 : SI s_19 := SI.fr hG_s_19 (by decide) hSI_s_1
                      have hES_s_19 : ES s_19 := ES.fr hG_s_19 (by decide) hES_s_1
                      have hLQ_s_19 : LQ s_19 := LQ.fr hG_s_19 (by decide) hLQ_s_1
                      have g_36 := gX_94 hB_s_19 0
                      exact ok_ret ⟨(by (try dsimp only); omega), hB_s_19, hF_s_19⟩
                    · have c_34 := c_34
                      refine ok_ite (fun c_37 => ?_) (fun c_37 => ?_)
                      · have c_37 := c_37
                        refine ok_cals (s_X6_writeBlock_s11_s7 (x2 := v_2) (σ := s_1) hB_s_1 (by omega) (by omega)) (fun s_20 h_38 => ?_)
                        obtain ⟨hB_s_20, hG_s_20, x_s_20⟩ := h_38
                        (try dsimp only at hB_s_20 hG_s_20 x_s_20)
                        have hF_s_20 : FR [93, 94] [] σ s_20 := FR.cal hF_s_1 hG_s_20 rfl rfl
                        have hPI_s_20 : PI s_20 := PI.fr hG_s_20 (by decide) hPI_s_1
                        have hPA_s_20 : PA s_20 := PA.fr hG_s_20 (by decide) hPA_s_1
                        have hSI_s_20 : SI s_20 := SI.fr hG_s_20 (by decide) hSI_s_1
                        have hES_s_20 : ES s_20 := ES.fr hG_s_20 (by decide) hES_s_1
                        have hLQ_s_20 : LQ s_20 := LQ.fr hG_s_20 (by decide) hLQ_s_1
                        have g_39 := gX_94 hB_s_20 0
                        exact ok_ret ⟨(by (try dsimp only); omega), hB_s_20, hF_s_20⟩
                      · have c_37 := c_37
                        refine ok_cals (s_X6_writeBlock_s12_s13 (x2 := v_2) (σ := s_1) hB_s_1 (by omega) (by omega)) (fun s_21 h_40 => ?_)
                        obtain ⟨hB_s_21, hG_s_21, x_s_21⟩ := h_40
                        (try dsimp only at hB_s_21 hG_s_21 x_s_21)
                        have hF_s_21 : FR [93, 94] [] σ s_21 := FR.cal hF_s_1 hG_s_21 rfl rfl
                        have hPI_s_21 : PI s_21 := PI.fr hG_s_21 (by decide) hPI_s_1
                        have hPA_s_21 : PA s_21 := PA.fr hG_s_21 (by decide) hPA_s_1
                        have hSI_s_21 : SI s_21 := SI.fr hG_s_21 (by decide) hSI_s_1
                        have hES_s_21 : ES s_21 := ES.fr hG_s_21 (by decide) hES_s_1
                        have hLQ_s_21 : LQ s_21 := LQ.fr hG_s_21 (by decide) hLQ_s_1
                        have g_41 := gX_94 hB_s_21 0
                        exact ok_ret ⟨(by (try dsimp only); omega), hB_s_21, hF_s_21⟩

set_option maxHeartbeats 4000000 in
theorem s_X11_spell {x1 : Int32} {x2 : Int32} {σ : Sto} (hB : BX σ) (hPI : PI σ) (hPA : PA σ) (hSI : SI σ) (hES : ES σ) (hLQ : LQ σ) : OK (f_X11_spell x1 x2 σ) (fun r => ((-1) ≤ r.1.toInt ∧ r.1.toInt ≤ 32767) ∧ BX r.2 ∧ FR [93, 94] [] σ r.2) := by
  unfold f_X11_spell
  have hF : FR [93, 94] [] σ σ := FR.rf
  have k_m1 : ((-1) : Int32).toInt = -1 := by decide +kernel
  have k_0 : (0 : Int32).toInt = 0 := by decide +kernel
  refine ok_calp (s_X11_isLine (x1 := x1) (σ := σ) hB) (fun v_1 h_1 => ?_)
  obtain ⟨b_v_1, x_v_1⟩ := h_1
  (try dsimp only at b_v_1 x_v_1)
  refine ok_ite (fun c_2 => ?_) (fun c_2 => ?_)
  · rw [fa_eq] at c_2
    exact ok_ret ⟨(by (try dsimp only); omega), hB, hF⟩
  · rw [fa_eq] at c_2
    have g68 := gX_68 hB 0
    have il := x_v_1 (by omega)
    refine ok_calv (s_X6_widthOfLine (x1 := x1) (σ := σ) hB hPI hPA hSI hES hLQ (by omega) (by omega)) (fun v_3 s_3 h_3 => ?_)
    obtain ⟨b_v_3, hB_s_3, hG_s_3⟩ := h_3
    (try dsimp only at b_v_3 hB_s_3 hG_s_3)
    have hF_s_3 : FR [93, 94] [] σ s_3 := FR.cal hF hG_s_3 rfl rfl
    have hPI_s_3 : PI s_3 := PI.fr hG_s_3 (by decide) hPI
    have hPA_s_3 : PA s_3 := PA.fr hG_s_3 (by decide) hPA
    have hSI_s_3 : SI s_3 := SI.fr hG_s_3 (by decide) hSI
    have hES_s_3 : ES s_3 := ES.fr hG_s_3 (by decide) hES
    have hLQ_s_3 : LQ s_3 := LQ.fr hG_s_3 (by decide) hLQ
    refine ok_ite (fun c_4 => ?_) (fun c_4 => ?_)
    · rw [fa_eq] at c_4
      exact ok_ret ⟨(by (try dsimp only); omega), hB_s_3, hF_s_3⟩
    · rw [fa_eq] at c_4
      refine ok_calp (s_X6_signAt (x1 := x2) (σ := s_3) hB_s_3) (fun v_5 h_5 => ?_)
      have b_v_5 := h_5
      (try dsimp only at b_v_5)
      exact ok_ret ⟨(by (try dsimp only); omega), hB_s_3, hF_s_3⟩

set_option maxHeartbeats 4000000 in
theorem s_X11_oneIf {x1 : Int32} (p_x1 : 0 ≤ x1.toInt ∧ x1.toInt ≤ 1) : OK (f_X11_oneIf x1) (fun v => (0 ≤ v.toInt ∧ v.toInt ≤ 1)) := by
  unfold f_X11_oneIf
  have k_0 : (0 : Int32).toInt = 0 := by decide +kernel
  have k_1 : (1 : Int32).toInt = 1 := by decide +kernel
  refine ok_ite (fun c_1 => ?_) (fun c_1 => ?_)
  · rw [fa_eq] at c_1
    exact ok_ret (by (try dsimp only); omega)
  · rw [fa_eq] at c_1
    exact ok_ret (by (try dsimp only); omega)

set_option maxHeartbeats 4000000 in
theorem s_X11_type {x1 : Int32} {x2 : Int32} {σ : Sto} (hB : BX σ) : OK (f_X11_type x1 x2 σ) (fun v => ((-1) ≤ v.toInt ∧ v.toInt ≤ 1)) := by
  unfold f_X11_type
  have hF : FR [] [] σ σ := FR.rf
  have k_m1 : ((-1) : Int32).toInt = -1 := by decide +kernel
  have k_0 : (0 : Int32).toInt = 0 := by decide +kernel
  have k_1 : (1 : Int32).toInt = 1 := by decide +kernel
  have k_2 : (2 : Int32).toInt = 2 := by decide +kernel
  have k_6 : (6 : Int32).toInt = 6 := by decide +kernel
  have g9 := gX_32 hB 0
  have g8 := gX_58 hB 0
  have g_2 := gX_0 hB 0
  refine ok_ite (fun c_1 => ?_) (fun c_1 => ?_)
  · rw [fa_eq] at c_1
    exact ok_ret (by (try dsimp only); omega)
  · rw [fa_eq] at c_1
    refine ok_ite (fun c_3 => ?_) (fun c_3 => ?_)
    · rw [fa_le] at c_3
      refine ok_ite (fun c_4 => ?_) (fun c_4 => ?_)
      · have c_4 := c_4
        refine ok_ite (fun c_5 => ?_) (fun c_5 => ?_)
        · rw [fa_le] at c_5
          exact ok_ret (by (try dsimp only); omega)
        · rw [fa_le] at c_5
          refine ok_ix ⟨by omega, by omega⟩ ?_
          have g_6 := gX_63 hB (x2.toNatClampNeg)
          refine ok_lt fun v_5 e_v_5 => ?_
          have b_v_5 : 0 ≤ v_5.toInt ∧ v_5.toInt ≤ 1 := by rw [e_v_5]; exact gX_63 hB _
          refine ok_calp (s_X11_oneIf (x1 := v_5) (by omega)) (fun v_6 h_7 => ?_)
          have b_v_6 := h_7
          (try dsimp only at b_v_6)
          exact ok_ret (by (try dsimp only); omega)
      · have c_4 := c_4
        refine ok_ite (fun c_8 => ?_) (fun c_8 => ?_)
        · have c_8 := c_8
          have g_10 := gX_32 hB 0
          refine ok_ite (fun c_9 => ?_) (fun c_9 => ?_)
          · rw [fa_le] at c_9
            exact ok_ret (by (try dsimp only); omega)
          · rw [fa_le] at c_9
            refine ok_ix ⟨by omega, by omega⟩ ?_
            have g_11 := gX_64 hB (x2.toNatClampNeg)
            refine ok_lt fun v_8 e_v_8 => ?_
            have b_v_8 : 0 ≤ v_8.toInt ∧ v_8.toInt ≤ 1 := by rw [e_v_8]; exact gX_64 hB _
            refine ok_calp (s_X11_oneIf (x1 := v_8) (by omega)) (fun v_9 h_12 => ?_)
            have b_v_9 := h_12
            (try dsimp only at b_v_9)
            exact ok_ret (by (try dsimp only); omega)
        · have c_8 := c_8
          refine ok_ite (fun c_13 => ?_) (fun c_13 => ?_)
          · have c_13 := c_13
            have g_15 := gX_58 hB 0
            refine ok_ite (fun c_14 => ?_) (fun c_14 => ?_)
            · rw [fa_le] at c_14
              exact ok_ret (by (try dsimp only); omega)
            · rw [fa_le] at c_14
              refine ok_ix ⟨by omega, by omega⟩ ?_
              have g_16 := gX_65 hB (x2.toNatClampNeg)
              refine ok_lt fun v_11 e_v_11 => ?_
              have b_v_11 : 0 ≤ v_11.toInt ∧ v_11.toInt ≤ 1 := by rw [e_v_11]; exact gX_65 hB _
              refine ok_calp (s_X11_oneIf (x1 := v_11) (by omega)) (fun v_12 h_17 => ?_)
              have b_v_12 := h_17
              (try dsimp only at b_v_12)
              exact ok_ret (by (try dsimp only); omega)
          · have c_13 := c_13
            exact ok_ret (by (try dsimp only); omega)
    · rw [fa_le] at c_3
      exact ok_ret (by (try dsimp only); omega)

set_option maxHeartbeats 4000000 in
theorem s_X11_canRun {x1 : Int32} {x2 : Int32} {σ : Sto} (hB : BX σ) : OK (f_X11_canRun x1 x2 σ) (fun v => (0 ≤ v.toInt ∧ v.toInt ≤ 1) ∧ ((v.toInt ≠ 0 → (σ.1 0 0).toInt ≠ 0))) := by
  unfold f_X11_canRun
  have hF : FR [] [] σ σ := FR.rf
  have k_0 : (0 : Int32).toInt = 0 := by decide +kernel
  have k_1 : (1 : Int32).toInt = 1 := by decide +kernel
  have k_200 : (200 : Int32).toInt = 200 := by decide +kernel
  have g_2 := gX_0 hB 0
  refine ok_ite (fun c_1 => ?_) (fun c_1 => ?_)
  · rw [fa_eq] at c_1
    exact ok_ret ⟨(by (try dsimp only); omega), (fun h => by (try dsimp only at h); omega)⟩
  · rw [fa_eq] at c_1
    refine ok_ite (fun c_3 => ?_) (fun c_3 => ?_)
    · rw [fa_lt] at c_3
      exact ok_ret ⟨(by (try dsimp only); omega), (fun h => by (try dsimp only at h); omega)⟩
    · rw [fa_lt] at c_3
      refine ok_ite (fun c_4 => ?_) (fun c_4 => ?_)
      · rw [fa_le] at c_4
        refine ok_jn ?_
        refine ok_ite (fun c_5 => ?_) (fun c_5 => ?_)
        · rw [fa_eq] at c_5
          exact ok_ret ⟨(by (try dsimp only); omega), (fun h => by (try dsimp only at h); omega)⟩
        · rw [fa_eq] at c_5
          refine ok_jn ?_
          refine ok_ite (fun c_6 => ?_) (fun c_6 => ?_)
          · rw [fa_eq] at c_6
            have g_8 := gX_34 hB 0
            refine ok_ite (fun c_7 => ?_) (fun c_7 => ?_)
            · rw [fa_eq] at c_7
              exact ok_ret ⟨(by (try dsimp only); omega), (fun h => by (try dsimp only at h); omega)⟩
            · rw [fa_eq] at c_7
              exact ok_ret ⟨(by (try dsimp only); omega), (fun h => by (try dsimp only at h); omega)⟩
          · rw [fa_eq] at c_6
            exact ok_ret ⟨(by (try dsimp only); omega), (fun h => by (try dsimp only at h); omega)⟩
      · rw [fa_le] at c_4
        exact ok_ret ⟨(by (try dsimp only); omega), (fun h => by (try dsimp only at h); omega)⟩

set_option maxHeartbeats 4000000 in
theorem s_X5_begin {x1 : Int32} {x2 : Int32} {x3 : Int32} {x4 : Int32} {x5 : Int32} {σ : Sto} (hB : BX σ) (p_x5 : (-1) ≤ x5.toInt) : OK (f_X5_begin x1 x2 x3 x4 x5 σ) (fun s => BX s ∧ FR [78, 81, 82, 83, 84, 85, 86, 87, 88, 89, 90, 91, 92] [] σ s) := by
  unfold f_X5_begin
  have hF : FR [78, 81, 82, 83, 84, 85, 86, 87, 88, 89, 90, 91, 92] [] σ σ := FR.rf
  have k_0 : (0 : Int32).toInt = 0 := by decide +kernel
  have k_1 : (1 : Int32).toInt = 1 := by decide +kernel
  have k_6 : (6 : Int32).toInt = 6 := by decide +kernel
  refine ok_itr2 (fun (n : Nat) (x6_1 : Int32) (s_1 : Sto) => n = (7 - x6_1.toInt).toNat ∧ (0 ≤ x6_1.toInt ∧ x6_1.toInt ≤ 6) ∧ (BX s_1) ∧ (FR [78, 81, 82, 83, 84, 85, 86, 87, 88, 89, 90, 91, 92] [] σ s_1)) ?_ (n := _) ⟨rfl, (by omega), hB, hF⟩ (show _ < 10000000 by omega)
  intro a_3 n x6_1 s_1 hI ih_a_3
  obtain ⟨hn_a_3, b_x6_1, hB_s_1, hF_s_1⟩ := hI
  refine ok_ite (fun c_1 => ?_) (fun c_1 => ?_)
  · rw [fa_le] at c_1
    refine ok_ix ⟨by omega, by omega⟩ ?_
    refine ok_lt fun s_3 e_s_3 => ?_
    have hB_s_3 : BX s_3 := by rw [e_s_3]; exact pX_78 hB_s_1 (tI_rng _)
    have hF_s_3 : FR [78, 81, 82, 83, 84, 85, 86, 87, 88, 89, 90, 91, 92] [] σ s_3 := by rw [e_s_3]; exact FR.st hF_s_1 (by decide)
    refine ok_ix ⟨by omega, by omega⟩ ?_
    refine ok_lt fun s_4 e_s_4 => ?_
    have hB_s_4 : BX s_4 := by rw [e_s_4]; exact pX_78 hB_s_3 (tI_rng _)
    have hF_s_4 : FR [78, 81, 82, 83, 84, 85, 86, 87, 88, 89, 90, 91, 92] [] σ s_4 := by rw [e_s_4]; exact FR.st hF_s_3 (by decide)
    refine ok_lt fun s_5 e_s_5 => ?_
    have hB_s_5 : BX s_5 := by rw [e_s_5]; exact pX_82 hB_s_4 (tI_rng _)
    have hF_s_5 : FR [78, 81, 82, 83, 84, 85, 86, 87, 88, 89, 90, 91, 92] [] σ s_5 := by rw [e_s_5]; exact FR.st hF_s_4 (by decide)
    refine ok_lt fun s_6 e_s_6 => ?_
    have hB_s_6 : BX s_6 := by rw [e_s_6]; exact pX_83 hB_s_5 (tI_rng _)
    have hF_s_6 : FR [78, 81, 82, 83, 84, 85, 86, 87, 88, 89, 90, 91, 92] [] σ s_6 := by rw [e_s_6]; exact FR.st hF_s_5 (by decide)
    refine ok_lt fun s_7 e_s_7 => ?_
    have hB_s_7 : BX s_7 := by rw [e_s_7]; exact pX_91 hB_s_6 (tI_rng _)
    have hF_s_7 : FR [78, 81, 82, 83, 84, 85, 86, 87, 88, 89, 90, 91, 92] [] σ s_7 := by rw [e_s_7]; exact FR.st hF_s_6 (by decide)
    refine ok_lt fun s_8 e_s_8 => ?_
    have hB_s_8 : BX s_8 := by rw [e_s_8]; exact pX_81 hB_s_7 (by omega)
    have hF_s_8 : FR [78, 81, 82, 83, 84, 85, 86, 87, 88, 89, 90, 91, 92] [] σ s_8 := by rw [e_s_8]; exact FR.st hF_s_7 (by decide)
    refine ok_lt fun s_9 e_s_9 => ?_
    have hB_s_9 : BX s_9 := by rw [e_s_9]; exact pX_84 hB_s_8 (by omega)
    have hF_s_9 : FR [78, 81, 82, 83, 84, 85, 86, 87, 88, 89, 90, 91, 92] [] σ s_9 := by rw [e_s_9]; exact FR.st hF_s_8 (by decide)
    refine ok_lt fun s_10 e_s_10 => ?_
    have hB_s_10 : BX s_10 := by rw [e_s_10]; exact pX_85 hB_s_9 (tI_rng _)
    have hF_s_10 : FR [78, 81, 82, 83, 84, 85, 86, 87, 88, 89, 90, 91, 92] [] σ s_10 := by rw [e_s_10]; exact FR.st hF_s_9 (by decide)
    refine ok_lt fun s_11 e_s_11 => ?_
    have hB_s_11 : BX s_11 := by rw [e_s_11]; exact pX_86 hB_s_10 (by omega)
    have hF_s_11 : FR [78, 81, 82, 83, 84, 85, 86, 87, 88, 89, 90, 91, 92] [] σ s_11 := by rw [e_s_11]; exact FR.st hF_s_10 (by decide)
    refine ok_lt fun s_12 e_s_12 => ?_
    have hB_s_12 : BX s_12 := by rw [e_s_12]; exact pX_87 hB_s_11 (tI_rng _)
    have hF_s_12 : FR [78, 81, 82, 83, 84, 85, 86, 87, 88, 89, 90, 91, 92] [] σ s_12 := by rw [e_s_12]; exact FR.st hF_s_11 (by decide)
    refine ok_lt fun s_13 e_s_13 => ?_
    have hB_s_13 : BX s_13 := by rw [e_s_13]; exact pX_88 hB_s_12 (tI_rng _)
    have hF_s_13 : FR [78, 81, 82, 83, 84, 85, 86, 87, 88, 89, 90, 91, 92] [] σ s_13 := by rw [e_s_13]; exact FR.st hF_s_12 (by decide)
    refine ok_lt fun s_14 e_s_14 => ?_
    have hB_s_14 : BX s_14 := by rw [e_s_14]; exact pX_89 hB_s_13 (tI_rng _)
    have hF_s_14 : FR [78, 81, 82, 83, 84, 85, 86, 87, 88, 89, 90, 91, 92] [] σ s_14 := by rw [e_s_14]; exact FR.st hF_s_13 (by decide)
    refine ok_lt fun s_15 e_s_15 => ?_
    have hB_s_15 : BX s_15 := by rw [e_s_15]; exact pX_90 hB_s_14 (tI_rng _)
    have hF_s_15 : FR [78, 81, 82, 83, 84, 85, 86, 87, 88, 89, 90, 91, 92] [] σ s_15 := by rw [e_s_15]; exact FR.st hF_s_14 (by decide)
    refine ok_lt fun s_16 e_s_16 => ?_
    have hB_s_16 : BX s_16 := by rw [e_s_16]; exact pX_92 hB_s_15 (tI_rng _)
    have hF_s_16 : FR [78, 81, 82, 83, 84, 85, 86, 87, 88, 89, 90, 91, 92] [] σ s_16 := by rw [e_s_16]; exact FR.st hF_s_15 (by decide)
    exact ok_ret ⟨hB_s_16, hF_s_16⟩
  · rw [fa_le] at c_1
    refine ok_ix ⟨by omega, by omega⟩ ?_
    refine ok_lt fun s_17 e_s_17 => ?_
    have hB_s_17 : BX s_17 := by rw [e_s_17]; exact pX_78 hB_s_1 (tI_rng _)
    have hF_s_17 : FR [78, 81, 82, 83, 84, 85, 86, 87, 88, 89, 90, 91, 92] [] σ s_17 := by rw [e_s_17]; exact FR.st hF_s_1 (by decide)
    obtain ⟨t_2, ht_2, g_2⟩ : ∃ t : Int, (x6_1 + 1).toInt = t ∧ t = x6_1.toInt + (1 : Int32).toInt := ⟨_, rfl, by have h9 := fb_addI (x := x6_1) (y := (1 : Int32)) (by omega) (by omega); exact h9⟩
    refine ok_lt fun x6_18 e_x6_18 => ?_
    have q_x6_18 : x6_18.toInt = t_2 := by rw [e_x6_18]; exact ht_2
    exact ih_a_3 _ x6_18 s_17 (by rw [hn_a_3]; omega) ⟨rfl, (by omega), hB_s_17, hF_s_17⟩

set_option maxHeartbeats 4000000 in
theorem s_X5_pop {σ : Sto} (hB : BX σ) : OK (f_X5_pop σ) (fun r => True ∧ BX r.2 ∧ FR [81] [] σ r.2) := by
  unfold f_X5_pop
  have hF : FR [81] [] σ σ := FR.rf
  have k_0 : (0 : Int32).toInt = 0 := by decide +kernel
  have k_1 : (1 : Int32).toInt = 1 := by decide +kernel
  refine ok_jn ?_
  have g_2 := gX_81 hB 0
  refine ok_ite (fun c_1 => ?_) (fun c_1 => ?_)
  · rw [fa_le] at c_1
    refine ok_ix ⟨by omega, by omega⟩ ?_
    refine ok_lt fun v_2 e_v_2 => ?_
    exact ok_ret ⟨trivial, hB, hF⟩
  · rw [fa_le] at c_1
    obtain ⟨t_3, ht_3, g_3⟩ : ∃ t : Int, ((σ.1 81 0) - 1).toInt = t ∧ t = (σ.1 81 0).toInt - (1 : Int32).toInt := ⟨_, rfl, by have h9 := fb_subI (x := (σ.1 81 0)) (y := (1 : Int32)) (by omega) (by omega); exact h9⟩
    refine ok_lt fun s_4 e_s_4 => ?_
    have hB_s_4 : BX s_4 := by rw [e_s_4]; exact pX_81 hB (by rw [ht_3]; omega)
    have hF_s_4 : FR [81] [] σ s_4 := by rw [e_s_4]; exact FR.st hF (by decide)
    have w_s_4_81 : (s_4.1 81 0).toInt = t_3 := by rw [e_s_4, sti_s, ht_3]
    have g_4 := gX_81 hB_s_4 0
    refine ok_ix ⟨by omega, by omega⟩ ?_
    refine ok_lt fun v_2 e_v_2 => ?_
    exact ok_ret ⟨trivial, hB_s_4, hF_s_4⟩

set_option maxHeartbeats 4000000 in
theorem s_X5_push {x1 : Int32} {σ : Sto} (hB : BX σ) : OK (f_X5_push x1 σ) (fun s => BX s ∧ FR [79, 81] [] σ s) := by
  unfold f_X5_push
  have hF : FR [79, 81] [] σ σ := FR.rf
  have k_1 : (1 : Int32).toInt = 1 := by decide +kernel
  have k_8 : (8 : Int32).toInt = 8 := by decide +kernel
  have g_2 := gX_81 hB 0
  refine ok_ite (fun c_1 => ?_) (fun c_1 => ?_)
  · rw [fa_le] at c_1
    exact ok_ret ⟨hB, hF⟩
  · rw [fa_le] at c_1
    refine ok_ix ⟨by omega, by omega⟩ ?_
    refine ok_lt fun s_2 e_s_2 => ?_
    have hB_s_2 : BX s_2 := by rw [e_s_2]; exact pX_79 hB (tI_rng _)
    have hF_s_2 : FR [79, 81] [] σ s_2 := by rw [e_s_2]; exact FR.st hF (by decide)
    have w_s_2_81 : (s_2.1 81 0).toInt = (σ.1 81 0).toInt := by rw [e_s_2]; rfl
    have g_3 := gX_81 hB_s_2 0
    obtain ⟨t_4, ht_4, g_4⟩ : ∃ t : Int, ((s_2.1 81 0) + 1).toInt = t ∧ t = (s_2.1 81 0).toInt + (1 : Int32).toInt := ⟨_, rfl, by have h9 := fb_addI (x := (s_2.1 81 0)) (y := (1 : Int32)) (by omega) (by omega); exact h9⟩
    refine ok_lt fun s_3 e_s_3 => ?_
    have hB_s_3 : BX s_3 := by rw [e_s_3]; exact pX_81 hB_s_2 (by rw [ht_4]; omega)
    have hF_s_3 : FR [79, 81] [] σ s_3 := by rw [e_s_3]; exact FR.st hF_s_2 (by decide)
    have w_s_3_81 : (s_3.1 81 0).toInt = t_4 := by rw [e_s_3, sti_s, ht_4]
    exact ok_ret ⟨hB_s_3, hF_s_3⟩

set_option maxHeartbeats 4000000 in
theorem s_X5_shuffle {x1 : Int32} {σ : Sto} (hB : BX σ) (p_x1 : 100 ≤ x1.toInt ∧ x1.toInt ≤ 119) : OK (f_X5_shuffle x1 σ) (fun s => BX s ∧ FR [79, 81] [] σ s) := by
  unfold f_X5_shuffle
  have hF : FR [79, 81] [] σ σ := FR.rf
  have k_119 : (119 : Int32).toInt = 119 := by decide +kernel
  refine ok_calv (s_X5_pop  (σ := σ) hB) (fun v_1 s_1 h_1 => ?_)
  obtain ⟨b_v_1, hB_s_1, hG_s_1⟩ := h_1
  (try dsimp only at b_v_1 hB_s_1 hG_s_1)
  have hF_s_1 : FR [79, 81] [] σ s_1 := FR.cal hF hG_s_1 rfl rfl
  refine ok_jn ?_
  refine ok_ite (fun c_2 => ?_) (fun c_2 => ?_)
  · rw [fa_eq] at c_2
    refine ok_calv (s_X5_pop  (σ := s_1) hB_s_1) (fun v_6 s_6 h_3 => ?_)
    obtain ⟨b_v_6, hB_s_6, hG_s_6⟩ := h_3
    (try dsimp only at b_v_6 hB_s_6 hG_s_6)
    have hF_s_6 : FR [79, 81] [] σ s_6 := FR.cal hF_s_1 hG_s_6 rfl rfl
    refine ok_cals (s_X5_push (x1 := v_1) (σ := s_6) hB_s_6) (fun s_3 h_4 => ?_)
    obtain ⟨hB_s_3, hG_s_3⟩ := h_4
    (try dsimp only at hB_s_3 hG_s_3)
    have hF_s_3 : FR [79, 81] [] σ s_3 := FR.cal hF_s_6 hG_s_3 rfl rfl
    refine ok_cals (s_X5_push (x1 := v_6) (σ := s_3) hB_s_3) (fun s_4 h_5 => ?_)
    obtain ⟨hB_s_4, hG_s_4⟩ := h_5
    (try dsimp only at hB_s_4 hG_s_4)
    have hF_s_4 : FR [79, 81] [] σ s_4 := FR.cal hF_s_3 hG_s_4 rfl rfl
    exact ok_ret ⟨hB_s_4, hF_s_4⟩
  · rw [fa_eq] at c_2
    refine ok_cals (s_X5_push (x1 := v_1) (σ := s_1) hB_s_1) (fun s_3 h_6 => ?_)
    obtain ⟨hB_s_3, hG_s_3⟩ := h_6
    (try dsimp only at hB_s_3 hG_s_3)
    have hF_s_3 : FR [79, 81] [] σ s_3 := FR.cal hF_s_1 hG_s_3 rfl rfl
    refine ok_cals (s_X5_push (x1 := v_1) (σ := s_3) hB_s_3) (fun s_4 h_7 => ?_)
    obtain ⟨hB_s_4, hG_s_4⟩ := h_7
    (try dsimp only at hB_s_4 hG_s_4)
    have hF_s_4 : FR [79, 81] [] σ s_4 := FR.cal hF_s_3 hG_s_4 rfl rfl
    exact ok_ret ⟨hB_s_4, hF_s_4⟩

set_option maxHeartbeats 4000000 in
theorem s_X5_draw {σ : Sto} (hB : BX σ) : OK (f_X5_draw σ) (fun r => (0 ≤ r.1.toInt ∧ r.1.toInt ≤ 4) ∧ BX r.2 ∧ FR [82, 88] [] σ r.2) := by
  unfold f_X5_draw
  have hF : FR [82, 88] [] σ σ := FR.rf
  have k_1 : (1 : Int32).toInt = 1 := by decide +kernel
  have k_12345 : (12345 : Int32).toInt = 12345 := by decide +kernel
  have k_1103515245 : (1103515245 : Int32).toInt = 1103515245 := by decide +kernel
  obtain ⟨t_1, ht_1, g_1⟩ : ∃ t : Int, ((σ.1 82 0) * 1103515245).toInt = t ∧ -2147483648 ≤ t ∧ t ≤ 2147483647 := ⟨_, rfl, tI_rng _⟩
  obtain ⟨t_2, ht_2, g_2⟩ : ∃ t : Int, (((σ.1 82 0) * 1103515245) + 12345).toInt = t ∧ -2147483648 ≤ t ∧ t ≤ 2147483647 := ⟨_, rfl, tI_rng _⟩
  refine ok_lt fun s_1 e_s_1 => ?_
  have hB_s_1 : BX s_1 := by rw [e_s_1]; exact pX_82 hB (tI_rng _)
  have hF_s_1 : FR [82, 88] [] σ s_1 := by rw [e_s_1]; exact FR.st hF (by decide)
  have w_s_1_82 : (s_1.1 82 0).toInt = t_2 := by rw [e_s_1, sti_s, ht_2]
  have w_s_1_88 : (s_1.1 88 0).toInt = (σ.1 88 0).toInt := by rw [e_s_1]; rfl
  obtain ⟨t_3, ht_3, g_3⟩ : ∃ t : Int, ((s_1.1 88 0) + 1).toInt = t ∧ -2147483648 ≤ t ∧ t ≤ 2147483647 := ⟨_, rfl, tI_rng _⟩
  refine ok_lt fun s_2 e_s_2 => ?_
  have hB_s_2 : BX s_2 := by rw [e_s_2]; exact pX_88 hB_s_1 (tI_rng _)
  have hF_s_2 : FR [82, 88] [] σ s_2 := by rw [e_s_2]; exact FR.st hF_s_1 (by decide)
  have w_s_2_82 : (s_2.1 82 0).toInt = (s_1.1 82 0).toInt := by rw [e_s_2]; rfl
  have w_s_2_88 : (s_2.1 88 0).toInt = t_3 := by rw [e_s_2, sti_s, ht_3]
  obtain ⟨t_4, ht_4, g_4⟩ : ∃ t : Int, (((s_2.1 82 0).toUInt32 >>> ((16 : Int32).toUInt32 &&& (31 : Int32).toUInt32)).toInt32 &&& 32767).toInt = t ∧ 0 ≤ t ∧ t ≤ 32767 := ⟨_, rfl, and_rng (x := ((s_2.1 82 0).toUInt32 >>> ((16 : Int32).toUInt32 &&& (31 : Int32).toUInt32)).toInt32) 32767 rfl (by decide)⟩
  obtain ⟨t_5, ht_5, g_5⟩ : ∃ t : Int, ((((s_2.1 82 0).toUInt32 >>> ((16 : Int32).toUInt32 &&& (31 : Int32).toUInt32)).toInt32 &&& 32767) - (((((s_2.1 82 0).toUInt32 >>> ((16 : Int32).toUInt32 &&& (31 : Int32).toUInt32)).toInt32 &&& 32767) / 5) * 5)).toInt = t ∧ t = t_4 % 5 := ⟨_, rfl, by have h9 := rem_I (x := (((s_2.1 82 0).toUInt32 >>> ((16 : Int32).toUInt32 &&& (31 : Int32).toUInt32)).toInt32 &&& 32767)) (n := 5) (by rw [ht_4]; omega) (by decide) (by decide); rw [ht_4] at h9; exact h9⟩
  exact ok_ret ⟨(by (try dsimp only); rw [ht_5]; omega), hB_s_2, hF_s_2⟩

set_option maxHeartbeats 4000000 in
theorem s_X5_tellOut {x1 : Int32} {σ : Sto} (hB : BX σ) : OK (f_X5_tellOut x1 σ) (fun s => BX s ∧ FR [89, 90, 92] [] σ s) := by
  unfold f_X5_tellOut
  have hF : FR [89, 90, 92] [] σ σ := FR.rf
  have k_1 : (1 : Int32).toInt = 1 := by decide +kernel
  have k_31 : (31 : Int32).toInt = 31 := by decide +kernel
  refine ok_jn ?_
  refine ok_ite (fun c_1 => ?_) (fun c_1 => ?_)
  · rw [fa_eq] at c_1
    refine ok_lt fun s_5 e_s_5 => ?_
    have hB_s_5 : BX s_5 := by rw [e_s_5]; exact pX_92 hB (tI_rng _)
    have hF_s_5 : FR [89, 90, 92] [] σ s_5 := by rw [e_s_5]; exact FR.st hF (by decide)
    have w_s_5_89 : (s_5.1 89 0).toInt = (σ.1 89 0).toInt := by rw [e_s_5]; rfl
    have w_s_5_90 : (s_5.1 90 0).toInt = (σ.1 90 0).toInt := by rw [e_s_5]; rfl
    obtain ⟨t_2, ht_2, g_2⟩ : ∃ t : Int, ((s_5.1 89 0) + 1).toInt = t ∧ -2147483648 ≤ t ∧ t ≤ 2147483647 := ⟨_, rfl, tI_rng _⟩
    refine ok_lt fun s_2 e_s_2 => ?_
    have hB_s_2 : BX s_2 := by rw [e_s_2]; exact pX_89 hB_s_5 (tI_rng _)
    have hF_s_2 : FR [89, 90, 92] [] σ s_2 := by rw [e_s_2]; exact FR.st hF_s_5 (by decide)
    have w_s_2_89 : (s_2.1 89 0).toInt = t_2 := by rw [e_s_2, sti_s, ht_2]
    have w_s_2_90 : (s_2.1 90 0).toInt = (s_5.1 90 0).toInt := by rw [e_s_2]; rfl
    obtain ⟨t_3, ht_3, g_3⟩ : ∃ t : Int, ((31 : Int32) * (s_2.1 90 0)).toInt = t ∧ -2147483648 ≤ t ∧ t ≤ 2147483647 := ⟨_, rfl, tI_rng _⟩
    obtain ⟨t_4, ht_4, g_4⟩ : ∃ t : Int, (((31 : Int32) * (s_2.1 90 0)) + x1).toInt = t ∧ -2147483648 ≤ t ∧ t ≤ 2147483647 := ⟨_, rfl, tI_rng _⟩
    refine ok_lt fun s_3 e_s_3 => ?_
    have hB_s_3 : BX s_3 := by rw [e_s_3]; exact pX_90 hB_s_2 (tI_rng _)
    have hF_s_3 : FR [89, 90, 92] [] σ s_3 := by rw [e_s_3]; exact FR.st hF_s_2 (by decide)
    have w_s_3_89 : (s_3.1 89 0).toInt = (s_2.1 89 0).toInt := by rw [e_s_3]; rfl
    have w_s_3_90 : (s_3.1 90 0).toInt = t_4 := by rw [e_s_3, sti_s, ht_4]
    exact ok_ret ⟨hB_s_3, hF_s_3⟩
  · rw [fa_eq] at c_1
    obtain ⟨t_5, ht_5, g_5⟩ : ∃ t : Int, ((σ.1 89 0) + 1).toInt = t ∧ -2147483648 ≤ t ∧ t ≤ 2147483647 := ⟨_, rfl, tI_rng _⟩
    refine ok_lt fun s_2 e_s_2 => ?_
    have hB_s_2 : BX s_2 := by rw [e_s_2]; exact pX_89 hB (tI_rng _)
    have hF_s_2 : FR [89, 90, 92] [] σ s_2 := by rw [e_s_2]; exact FR.st hF (by decide)
    have w_s_2_89 : (s_2.1 89 0).toInt = t_5 := by rw [e_s_2, sti_s, ht_5]
    have w_s_2_90 : (s_2.1 90 0).toInt = (σ.1 90 0).toInt := by rw [e_s_2]; rfl
    obtain ⟨t_6, ht_6, g_6⟩ : ∃ t : Int, ((31 : Int32) * (s_2.1 90 0)).toInt = t ∧ -2147483648 ≤ t ∧ t ≤ 2147483647 := ⟨_, rfl, tI_rng _⟩
    obtain ⟨t_7, ht_7, g_7⟩ : ∃ t : Int, (((31 : Int32) * (s_2.1 90 0)) + x1).toInt = t ∧ -2147483648 ≤ t ∧ t ≤ 2147483647 := ⟨_, rfl, tI_rng _⟩
    refine ok_lt fun s_3 e_s_3 => ?_
    have hB_s_3 : BX s_3 := by rw [e_s_3]; exact pX_90 hB_s_2 (tI_rng _)
    have hF_s_3 : FR [89, 90, 92] [] σ s_3 := by rw [e_s_3]; exact FR.st hF_s_2 (by decide)
    have w_s_3_89 : (s_3.1 89 0).toInt = (s_2.1 89 0).toInt := by rw [e_s_3]; rfl
    have w_s_3_90 : (s_3.1 90 0).toInt = t_7 := by rw [e_s_3, sti_s, ht_7]
    exact ok_ret ⟨hB_s_3, hF_s_3⟩

set_option maxHeartbeats 4000000 in
theorem s_X5_throwOut {x1 : Int32} {σ : Sto} (hB : BX σ) : OK (f_X5_throwOut x1 σ) (fun s => BX s ∧ FR [85, 86] [] σ s) := by
  unfold f_X5_throwOut
  have hF : FR [85, 86] [] σ σ := FR.rf
  have k_1 : (1 : Int32).toInt = 1 := by decide +kernel
  refine ok_lt fun s_1 e_s_1 => ?_
  have hB_s_1 : BX s_1 := by rw [e_s_1]; exact pX_86 hB (by omega)
  have hF_s_1 : FR [85, 86] [] σ s_1 := by rw [e_s_1]; exact FR.st hF (by decide)
  refine ok_lt fun s_2 e_s_2 => ?_
  have hB_s_2 : BX s_2 := by rw [e_s_2]; exact pX_85 hB_s_1 (tI_rng _)
  have hF_s_2 : FR [85, 86] [] σ s_2 := by rw [e_s_2]; exact FR.st hF_s_1 (by decide)
  exact ok_ret ⟨hB_s_2, hF_s_2⟩

set_option maxHeartbeats 4000000 in
theorem s_X5_throwFrom {x1 : Int32} {x2 : Int32} {σ : Sto} (hB : BX σ) (hLV : LV σ) (p_x1 : 0 ≤ x1.toInt ∧ x1.toInt ≤ 39) : OK (f_X5_throwFrom x1 x2 σ) (fun r => ((-1) ≤ r.1.toInt ∧ r.1.toInt ≤ 39) ∧ BX r.2 ∧ FR [79, 81, 84, 85, 86] [] σ r.2 ∧ ((r.1.toInt ≠ -1 → r.1.toInt < (σ.1 4 0).toInt))) := by
  unfold f_X5_throwFrom
  have hF : FR [79, 81, 84, 85, 86] [] σ σ := FR.rf
  have k_m1 : ((-1) : Int32).toInt = -1 := by decide +kernel
  have k_0 : (0 : Int32).toInt = 0 := by decide +kernel
  have g4 := gX_4 hB 0
  have g5 := gX_5 hB 0
  refine ok_calp (s_X3_handlerOf (x1 := x1) (σ := σ) hB (by omega)) (fun v_1 h_1 => ?_)
  obtain ⟨b_v_1, x_v_1⟩ := h_1
  (try dsimp only at b_v_1 x_v_1)
  refine ok_ite (fun c_2 => ?_) (fun c_2 => ?_)
  · rw [fa_eq] at c_2
    refine ok_cals (s_X5_throwOut (x1 := x2) (σ := σ) hB) (fun s_3 h_3 => ?_)
    obtain ⟨hB_s_3, hG_s_3⟩ := h_3
    (try dsimp only at hB_s_3 hG_s_3)
    have hF_s_3 : FR [79, 81, 84, 85, 86] [] σ s_3 := FR.cal hF hG_s_3 rfl rfl
    have hLV_s_3 : LV s_3 := LV.fr hG_s_3 (by decide) hLV
    exact ok_ret ⟨(by (try dsimp only); omega), hB_s_3, hF_s_3, (fun h => by (try dsimp only at h); (try dsimp only); omega)⟩
  · rw [fa_eq] at c_2
    refine ok_lt fun s_4 e_s_4 => ?_
    have hB_s_4 : BX s_4 := by rw [e_s_4]; exact pX_84 hB (by omega)
    have hF_s_4 : FR [79, 81, 84, 85, 86] [] σ s_4 := by rw [e_s_4]; exact FR.st hF (by decide)
    have hLV_s_4 : LV s_4 := by rw [e_s_4]; exact LV.st1 (by decide) hLV
    refine ok_lt fun s_5 e_s_5 => ?_
    have hB_s_5 : BX s_5 := by rw [e_s_5]; exact pX_81 hB_s_4 (by omega)
    have hF_s_5 : FR [79, 81, 84, 85, 86] [] σ s_5 := by rw [e_s_5]; exact FR.st hF_s_4 (by decide)
    have hLV_s_5 : LV s_5 := by rw [e_s_5]; exact LV.st1 (by decide) hLV_s_4
    refine ok_cals (s_X5_push (x1 := x2) (σ := s_5) hB_s_5) (fun s_6 h_4 => ?_)
    obtain ⟨hB_s_6, hG_s_6⟩ := h_4
    (try dsimp only at hB_s_6 hG_s_6)
    have hF_s_6 : FR [79, 81, 84, 85, 86] [] σ s_6 := FR.cal hF_s_5 hG_s_6 rfl rfl
    have hLV_s_6 : LV s_6 := LV.fr hG_s_6 (by decide) hLV_s_5
    refine ok_ix ⟨by omega, by omega⟩ ?_
    have g_5 := gX_11 hB_s_6 (v_1.toNatClampNeg)
    refine ok_lt fun v_7 e_v_7 => ?_
    have b_v_7 : 0 ≤ v_7.toInt ∧ v_7.toInt ≤ 40 := by rw [e_v_7]; exact gX_11 hB_s_6 _
    have y7 : v_7.toInt < (σ.1 4 0).toInt := by rw [e_v_7, hF_s_6.1 11 (by decide)]; exact (hLV.2 v_1.toNatClampNeg (by have := clamp_I (x := v_1) (by omega); omega)).2.2
    exact ok_ret ⟨(by (try dsimp only); omega), hB_s_6, hF_s_6, (fun h => by (try dsimp only at h); (try dsimp only); omega)⟩

set_option maxHeartbeats 4000000 in
theorem s_X11_outcome {x1 : Int32} {x2 : Int32} {x3 : Int32} (p_x1 : 0 ≤ x1.toInt ∧ x1.toInt ≤ 255) : OK (f_X11_outcome x1 x2 x3) (fun v => True) := by
  unfold f_X11_outcome
  have k_0 : (0 : Int32).toInt = 0 := by decide +kernel
  have k_1 : (1 : Int32).toInt = 1 := by decide +kernel
  have k_33 : (33 : Int32).toInt = 33 := by decide +kernel
  have k_37 : (37 : Int32).toInt = 37 := by decide +kernel
  have k_42 : (42 : Int32).toInt = 42 := by decide +kernel
  have k_43 : (43 : Int32).toInt = 43 := by decide +kernel
  have k_45 : (45 : Int32).toInt = 45 := by decide +kernel
  have k_47 : (47 : Int32).toInt = 47 := by decide +kernel
  have k_60 : (60 : Int32).toInt = 60 := by decide +kernel
  have k_61 : (61 : Int32).toInt = 61 := by decide +kernel
  refine ok_ite (fun c_1 => ?_) (fun c_1 => ?_)
  · have c_1 := c_1
    refine ok_ite (fun c_2 => ?_) (fun c_2 => ?_)
    · rw [fa_eq] at c_2
      exact ok_ret trivial
    · rw [fa_eq] at c_2
      exact ok_ret trivial
  · have c_1 := c_1
    refine ok_ite (fun c_3 => ?_) (fun c_3 => ?_)
    · have c_3 := c_3
      refine ok_ite (fun c_4 => ?_) (fun c_4 => ?_)
      · rw [fa_eq] at c_4
        exact ok_ret trivial
      · rw [fa_eq] at c_4
        refine ok_nz (by rw [fa_eq]; omega) ?_
        obtain ⟨t_5, ht_5, g_5⟩ : ∃ t : Int, (x2 - ((x2 / x3) * x3)).toInt = t ∧ -2147483648 ≤ t ∧ t ≤ 2147483647 := ⟨_, rfl, tI_rng _⟩
        exact ok_ret trivial
    · have c_3 := c_3
      refine ok_ite (fun c_6 => ?_) (fun c_6 => ?_)
      · have c_6 := c_6
        obtain ⟨t_7, ht_7, g_7⟩ : ∃ t : Int, (x2 * x3).toInt = t ∧ -2147483648 ≤ t ∧ t ≤ 2147483647 := ⟨_, rfl, tI_rng _⟩
        exact ok_ret trivial
      · have c_6 := c_6
        refine ok_ite (fun c_8 => ?_) (fun c_8 => ?_)
        · have c_8 := c_8
          obtain ⟨t_9, ht_9, g_9⟩ : ∃ t : Int, (x2 + x3).toInt = t ∧ -2147483648 ≤ t ∧ t ≤ 2147483647 := ⟨_, rfl, tI_rng _⟩
          exact ok_ret trivial
        · have c_8 := c_8
          refine ok_ite (fun c_10 => ?_) (fun c_10 => ?_)
          · have c_10 := c_10
            obtain ⟨t_11, ht_11, g_11⟩ : ∃ t : Int, (x2 - x3).toInt = t ∧ -2147483648 ≤ t ∧ t ≤ 2147483647 := ⟨_, rfl, tI_rng _⟩
            exact ok_ret trivial
          · have c_10 := c_10
            refine ok_ite (fun c_12 => ?_) (fun c_12 => ?_)
            · have c_12 := c_12
              refine ok_ite (fun c_13 => ?_) (fun c_13 => ?_)
              · rw [fa_eq] at c_13
                exact ok_ret trivial
              · rw [fa_eq] at c_13
                refine ok_nz (by rw [fa_eq]; omega) ?_
                obtain ⟨t_14, ht_14, g_14⟩ : ∃ t : Int, (x2 / x3).toInt = t ∧ -2147483648 ≤ t ∧ t ≤ 2147483647 := ⟨_, rfl, tI_rng _⟩
                exact ok_ret trivial
            · have c_12 := c_12
              refine ok_ite (fun c_15 => ?_) (fun c_15 => ?_)
              · have c_15 := c_15
                refine ok_ite (fun c_16 => ?_) (fun c_16 => ?_)
                · rw [fa_le] at c_16
                  exact ok_ret trivial
                · rw [fa_le] at c_16
                  exact ok_ret trivial
              · have c_15 := c_15
                refine ok_ite (fun c_17 => ?_) (fun c_17 => ?_)
                · have c_17 := c_17
                  refine ok_ite (fun c_18 => ?_) (fun c_18 => ?_)
                  · rw [fa_eq] at c_18
                    exact ok_ret trivial
                  · rw [fa_eq] at c_18
                    exact ok_ret trivial
                · have c_17 := c_17
                  obtain ⟨t_19, ht_19, g_19⟩ : ∃ t : Int, (-x2).toInt = t ∧ -2147483648 ≤ t ∧ t ≤ 2147483647 := ⟨_, rfl, tI_rng _⟩
                  exact ok_ret trivial

