set_option maxHeartbeats 4000000 in
theorem s_X10_holds {x1 : Int32} {σ : Sto} (hB : BX σ) (hPI : PI σ) (p_x1 : 0 ≤ x1.toInt ∧ x1.toInt ≤ 511) : OK (f_X10_holds x1 σ) (fun v => (0 ≤ v.toInt ∧ v.toInt ≤ 1)) := by
  unfold f_X10_holds
  have hF : FR [] [] σ σ := FR.rf
  have k_0 : (0 : Int32).toInt = 0 := by decide +kernel
  have k_1 : (1 : Int32).toInt = 1 := by decide +kernel
  have k_84 : (84 : Int32).toInt = 84 := by decide +kernel
  have k_88 : (88 : Int32).toInt = 88 := by decide +kernel
  have k_107 : (107 : Int32).toInt = 107 := by decide +kernel
  have k_108 : (108 : Int32).toInt = 108 := by decide +kernel
  have k_160 : (160 : Int32).toInt = 160 := by decide +kernel
  refine ok_ix ⟨by omega, by omega⟩ ?_
  have g_1 := gX_48 hB (x1.toNatClampNeg)
  refine ok_lt fun v_1 e_v_1 => ?_
  have b_v_1 : 0 ≤ v_1.toInt ∧ v_1.toInt ≤ 999 := by rw [e_v_1]; exact gX_48 hB _
  refine ok_ix ⟨by omega, by omega⟩ ?_
  have g_2 := gX_47 hB (x1.toNatClampNeg)
  refine ok_lt fun v_2 e_v_2 => ?_
  have b_v_2 : 0 ≤ v_2.toInt ∧ v_2.toInt ≤ 255 := by rw [e_v_2]; exact gX_47 hB _
  have y2 : v_2.toInt = 108 → v_1.toInt ≤ 5 := by rw [e_v_2, e_v_1]; exact (hPI _).2.1
  have y3 : v_2.toInt = 84 → v_1.toInt ≤ 5 := by rw [e_v_2, e_v_1]; exact (hPI _).2.2.1
  refine ok_ite (fun c_3 => ?_) (fun c_3 => ?_)
  · have c_3 := c_3
    exact ok_ret (by (try dsimp only); omega)
  · have c_3 := c_3
    refine ok_ite (fun c_4 => ?_) (fun c_4 => ?_)
    · have c_4 := c_4
      refine ok_ix ⟨by omega, by omega⟩ ?_
      have g_5 := gX_64 hB (v_1.toNatClampNeg)
      refine ok_lt fun v_4 e_v_4 => ?_
      have b_v_4 : 0 ≤ v_4.toInt ∧ v_4.toInt ≤ 1 := by rw [e_v_4]; exact gX_64 hB _
      refine ok_bz (by rw [fa_eq, fa_eq]; omega) ?_
      exact ok_ret (by (try dsimp only); omega)
    · have c_4 := c_4
      refine ok_ite (fun c_6 => ?_) (fun c_6 => ?_)
      · have c_6 := c_6
        refine ok_jn ?_
        refine ok_ite (fun c_7 => ?_) (fun c_7 => ?_)
        · rw [fa_le] at c_7
          exact ok_ret (by (try dsimp only); omega)
        · rw [fa_le] at c_7
          refine ok_ix ⟨by omega, by omega⟩ ?_
          have g_8 := gX_65 hB (v_1.toNatClampNeg)
          refine ok_lt fun v_8 e_v_8 => ?_
          have b_v_8 : 0 ≤ v_8.toInt ∧ v_8.toInt ≤ 1 := by rw [e_v_8]; exact gX_65 hB _
          refine ok_ite (fun c_9 => ?_) (fun c_9 => ?_)
          · rw [fa_eq] at c_9
            exact ok_ret (by (try dsimp only); omega)
          · rw [fa_eq] at c_9
            exact ok_ret (by (try dsimp only); omega)
      · have c_6 := c_6
        refine ok_ite (fun c_10 => ?_) (fun c_10 => ?_)
        · have c_10 := c_10
          refine ok_ite (fun c_11 => ?_) (fun c_11 => ?_)
          · rw [fa_lt] at c_11
            exact ok_ret (by (try dsimp only); omega)
          · rw [fa_lt] at c_11
            exact ok_ret (by (try dsimp only); omega)
        · have c_10 := c_10
          refine ok_ite (fun c_12 => ?_) (fun c_12 => ?_)
          · have c_12 := c_12
            refine ok_ix ⟨by omega, by omega⟩ ?_
            have g_13 := gX_63 hB (v_1.toNatClampNeg)
            refine ok_lt fun v_11 e_v_11 => ?_
            have b_v_11 : 0 ≤ v_11.toInt ∧ v_11.toInt ≤ 1 := by rw [e_v_11]; exact gX_63 hB _
            refine ok_bz (by rw [fa_eq, fa_eq]; omega) ?_
            exact ok_ret (by (try dsimp only); omega)
          · have c_12 := c_12
            exact ok_ret (by (try dsimp only); omega)

set_option maxHeartbeats 4000000 in
theorem s_X10_isTaken {x1 : Int32} {σ : Sto} (hB : BX σ) (hSI : SI σ) (p_x1 : 0 ≤ x1.toInt ∧ x1.toInt ≤ 319) (hk : (σ.1 53 x1.toNatClampNeg).toInt ≤ 2) : OK (f_X10_isTaken x1 σ) (fun v => (0 ≤ v.toInt ∧ v.toInt ≤ 1) ∧ ((v.toInt = 1 → (σ.1 53 x1.toNatClampNeg).toInt = 2 → (σ.1 54 x1.toNatClampNeg).toInt < 160))) := by
  unfold f_X10_isTaken
  have hF : FR [] [] σ σ := FR.rf
  have k_0 : (0 : Int32).toInt = 0 := by decide +kernel
  have k_1 : (1 : Int32).toInt = 1 := by decide +kernel
  have k_160 : (160 : Int32).toInt = 160 := by decide +kernel
  refine ok_ix ⟨by omega, by omega⟩ ?_
  have g_1 := gX_54 hB (x1.toNatClampNeg)
  refine ok_lt fun v_1 e_v_1 => ?_
  have b_v_1 : (-1) ≤ v_1.toInt ∧ v_1.toInt ≤ 160 := by rw [e_v_1]; exact gX_54 hB _
  refine ok_ix ⟨by omega, by omega⟩ ?_
  have g_2 := gX_53 hB (x1.toNatClampNeg)
  refine ok_lt fun v_2 e_v_2 => ?_
  have b_v_2 : 0 ≤ v_2.toInt ∧ v_2.toInt ≤ 6 := by rw [e_v_2]; exact gX_53 hB _
  have z1 : v_1.toInt = (σ.1 54 x1.toNatClampNeg).toInt := by rw [e_v_1]
  have z2 : v_2.toInt = (σ.1 53 x1.toNatClampNeg).toInt := by rw [e_v_2]
  have y1 := (hSI x1.toNatClampNeg).1
  have y2 := (hSI x1.toNatClampNeg).2.1
  have y3 := (hSI x1.toNatClampNeg).2.2.1
  refine ok_ite (fun c_3 => ?_) (fun c_3 => ?_)
  · have c_3 := c_3
    refine ok_ix ⟨by omega, by omega⟩ ?_
    have g_4 := gX_63 hB (v_1.toNatClampNeg)
    refine ok_lt fun v_4 e_v_4 => ?_
    have b_v_4 : 0 ≤ v_4.toInt ∧ v_4.toInt ≤ 1 := by rw [e_v_4]; exact gX_63 hB _
    refine ok_bz (by rw [fa_eq, fa_eq]; omega) ?_
    exact ok_ret ⟨(by (try dsimp only); omega), (by (try dsimp only); omega)⟩
  · have c_3 := c_3
    refine ok_ite (fun c_5 => ?_) (fun c_5 => ?_)
    · have c_5 := c_5
      refine ok_ix ⟨by omega, by omega⟩ ?_
      have g_6 := gX_64 hB (v_1.toNatClampNeg)
      refine ok_lt fun v_6 e_v_6 => ?_
      have b_v_6 : 0 ≤ v_6.toInt ∧ v_6.toInt ≤ 1 := by rw [e_v_6]; exact gX_64 hB _
      refine ok_bz (by rw [fa_eq, fa_eq]; omega) ?_
      exact ok_ret ⟨(by (try dsimp only); omega), (by (try dsimp only); omega)⟩
    · have c_5 := c_5
      refine ok_jn ?_
      refine ok_ite (fun c_7 => ?_) (fun c_7 => ?_)
      · rw [fa_le] at c_7
        exact ok_ret ⟨(by (try dsimp only); omega), (by (try dsimp only); omega)⟩
      · rw [fa_le] at c_7
        refine ok_ix ⟨by omega, by omega⟩ ?_
        have g_8 := gX_65 hB (v_1.toNatClampNeg)
        refine ok_lt fun v_10 e_v_10 => ?_
        have b_v_10 : 0 ≤ v_10.toInt ∧ v_10.toInt ≤ 1 := by rw [e_v_10]; exact gX_65 hB _
        refine ok_ite (fun c_9 => ?_) (fun c_9 => ?_)
        · rw [fa_eq] at c_9
          exact ok_ret ⟨(by (try dsimp only); omega), (by (try dsimp only); omega)⟩
        · rw [fa_eq] at c_9
          exact ok_ret ⟨(by (try dsimp only); omega), (by (try dsimp only); omega)⟩

set_option maxHeartbeats 4000000 in
theorem s_X10_deny {x1 : Int32} {σ : Sto} (hB : BX σ) (hSI : SI σ) (p_x1 : 0 ≤ x1.toInt ∧ x1.toInt ≤ 319) (hk : (σ.1 53 x1.toNatClampNeg).toInt ≤ 2) (hw : (σ.1 53 x1.toNatClampNeg).toInt = 2 → (σ.1 54 x1.toNatClampNeg).toInt < 160) : OK (f_X10_deny x1 σ) (fun s => BX s ∧ FR [63, 64, 65] [] σ s) := by
  unfold f_X10_deny
  have hF : FR [63, 64, 65] [] σ σ := FR.rf
  have k_0 : (0 : Int32).toInt = 0 := by decide +kernel
  have k_1 : (1 : Int32).toInt = 1 := by decide +kernel
  refine ok_ix ⟨by omega, by omega⟩ ?_
  have g_1 := gX_54 hB (x1.toNatClampNeg)
  refine ok_lt fun v_1 e_v_1 => ?_
  have b_v_1 : (-1) ≤ v_1.toInt ∧ v_1.toInt ≤ 160 := by rw [e_v_1]; exact gX_54 hB _
  refine ok_ix ⟨by omega, by omega⟩ ?_
  have g_2 := gX_53 hB (x1.toNatClampNeg)
  refine ok_lt fun v_2 e_v_2 => ?_
  have b_v_2 : 0 ≤ v_2.toInt ∧ v_2.toInt ≤ 6 := by rw [e_v_2]; exact gX_53 hB _
  have z1 : v_1.toInt = (σ.1 54 x1.toNatClampNeg).toInt := by rw [e_v_1]
  have z2 : v_2.toInt = (σ.1 53 x1.toNatClampNeg).toInt := by rw [e_v_2]
  have y1 := (hSI x1.toNatClampNeg).1
  have y2 := (hSI x1.toNatClampNeg).2.1
  have y3 := (hSI x1.toNatClampNeg).2.2.1
  refine ok_ite (fun c_3 => ?_) (fun c_3 => ?_)
  · have c_3 := c_3
    refine ok_ix ⟨by omega, by omega⟩ ?_
    refine ok_lt fun s_4 e_s_4 => ?_
    have hB_s_4 : BX s_4 := by rw [e_s_4]; exact pX_63 hB (by omega)
    have hF_s_4 : FR [63, 64, 65] [] σ s_4 := by rw [e_s_4]; exact FR.st hF (by decide)
    have hSI_s_4 : SI s_4 := by rw [e_s_4]; exact SI.st1 (by decide) hSI
    exact ok_ret ⟨hB_s_4, hF_s_4⟩
  · have c_3 := c_3
    refine ok_ite (fun c_4 => ?_) (fun c_4 => ?_)
    · have c_4 := c_4
      refine ok_ix ⟨by omega, by omega⟩ ?_
      refine ok_lt fun s_5 e_s_5 => ?_
      have hB_s_5 : BX s_5 := by rw [e_s_5]; exact pX_64 hB (by omega)
      have hF_s_5 : FR [63, 64, 65] [] σ s_5 := by rw [e_s_5]; exact FR.st hF (by decide)
      have hSI_s_5 : SI s_5 := by rw [e_s_5]; exact SI.st1 (by decide) hSI
      exact ok_ret ⟨hB_s_5, hF_s_5⟩
    · have c_4 := c_4
      refine ok_ix ⟨by omega, by omega⟩ ?_
      refine ok_lt fun s_6 e_s_6 => ?_
      have hB_s_6 : BX s_6 := by rw [e_s_6]; exact pX_65 hB (by omega)
      have hF_s_6 : FR [63, 64, 65] [] σ s_6 := by rw [e_s_6]; exact FR.st hF (by decide)
      have hSI_s_6 : SI s_6 := by rw [e_s_6]; exact SI.st1 (by decide) hSI
      exact ok_ret ⟨hB_s_6, hF_s_6⟩

set_option maxHeartbeats 4000000 in
theorem s_X10_judge {σ : Sto} (hB : BX σ) (hPI : PI σ) (hSI : SI σ) : OK (f_X10_judge σ) (fun s => BX s ∧ FR [63, 64, 65] [] σ s) := by
  unfold f_X10_judge
  have hF : FR [63, 64, 65] [] σ σ := FR.rf
  have k_0 : (0 : Int32).toInt = 0 := by decide +kernel
  have k_1 : (1 : Int32).toInt = 1 := by decide +kernel
  have k_2 : (2 : Int32).toInt = 2 := by decide +kernel
  have k_1000000 : (1000000 : Int32).toInt = 1000000 := by decide +kernel
  refine ok_cals (s_X10_assumeAll  (σ := σ) hB) (fun s_1 h_1 => ?_)
  obtain ⟨hB_s_1, hG_s_1⟩ := h_1
  (try dsimp only at hB_s_1 hG_s_1)
  have hF_s_1 : FR [63, 64, 65] [] σ s_1 := FR.cal hF hG_s_1 rfl rfl
  have hPI_s_1 : PI s_1 := PI.fr hG_s_1 (by decide) hPI
  have hSI_s_1 : SI s_1 := SI.fr hG_s_1 (by decide) hSI
  refine ok_itr3 (fun (n : Nat) (x1_2 : Int32) (x2_2 : Int32) (s_2 : Sto) => n = (1000001 - x2_2.toInt).toNat ∧ (0 ≤ x1_2.toInt ∧ x1_2.toInt ≤ 1) ∧ (0 ≤ x2_2.toInt ∧ x2_2.toInt ≤ 1000000) ∧ (BX s_2) ∧ (FR [63, 64, 65] [] σ s_2) ∧ (PI s_2) ∧ (SI s_2)) ?_ (n := _) ⟨rfl, (by omega), (by omega), hB_s_1, hF_s_1, hPI_s_1, hSI_s_1⟩ (show _ < 10000000 by omega)
  intro a_8 n x1_2 x2_2 s_2 hI ih_a_8
  obtain ⟨hn_a_8, b_x1_2, b_x2_2, hB_s_2, hF_s_2, hPI_s_2, hSI_s_2⟩ := hI
  refine ok_ite (fun c_2 => ?_) (fun c_2 => ?_)
  · rw [fa_le] at c_2
    exact ok_ret ⟨hB_s_2, hF_s_2⟩
  · rw [fa_le] at c_2
    refine ok_ite (fun c_3 => ?_) (fun c_3 => ?_)
    · rw [fa_eq] at c_3
      exact ok_ret ⟨hB_s_2, hF_s_2⟩
    · rw [fa_eq] at c_3
      refine ok_itr3 (fun (n : Nat) (x1_5 : Int32) (x3_5 : Int32) (s_5 : Sto) => n = (321 - x3_5.toInt).toNat ∧ (0 ≤ x1_5.toInt ∧ x1_5.toInt ≤ 1) ∧ (0 ≤ x3_5.toInt ∧ x3_5.toInt ≤ 320) ∧ (BX s_5) ∧ (FR [63, 64, 65] [] σ s_5) ∧ (PI s_5) ∧ (SI s_5)) ?_ (n := _) ⟨rfl, (by omega), (by omega), hB_s_2, hF_s_2, hPI_s_2, hSI_s_2⟩ (show _ < 10000000 by omega)
      intro a_22 n x1_5 x3_5 s_5 hI ih_a_22
      obtain ⟨hn_a_22, b_x1_5, b_x3_5, hB_s_5, hF_s_5, hPI_s_5, hSI_s_5⟩ := hI
      have g_5 := gX_52 hB_s_5 0
      have g_6 : (s_5.1 52 0).toInt = (σ.1 52 0).toInt := by rw [hF_s_5.1 52 (by decide)]
      have g_7 := gX_52 hB 0
      refine ok_ite (fun c_4 => ?_) (fun c_4 => ?_)
      · rw [fa_le] at c_4
        obtain ⟨t_8, ht_8, g_8⟩ : ∃ t : Int, (x2_2 + 1).toInt = t ∧ t = x2_2.toInt + (1 : Int32).toInt := ⟨_, rfl, by have h9 := fb_addI (x := x2_2) (y := (1 : Int32)) (by omega) (by omega); exact h9⟩
        refine ok_lt fun x2_7 e_x2_7 => ?_
        have q_x2_7 : x2_7.toInt = t_8 := by rw [e_x2_7]; exact ht_8
        exact ih_a_8 _ x1_5 x2_7 s_5 (by rw [hn_a_8]; omega) ⟨rfl, (by omega), (by omega), hB_s_5, hF_s_5, hPI_s_5, hSI_s_5⟩
      · rw [fa_le] at c_4
        refine ok_ix ⟨by omega, by omega⟩ ?_
        have g_9 := gX_53 hB_s_5 (x3_5.toNatClampNeg)
        refine ok_lt fun v_8 e_v_8 => ?_
        have b_v_8 : 0 ≤ v_8.toInt ∧ v_8.toInt ≤ 6 := by rw [e_v_8]; exact gX_53 hB_s_5 _
        refine ok_jn ?_
        refine ok_ite (fun c_10 => ?_) (fun c_10 => ?_)
        · rw [fa_lt] at c_10
          refine ok_jn ?_
          refine ok_ite (fun c_11 => ?_) (fun c_11 => ?_)
          · rw [fa_eq] at c_11
            obtain ⟨t_12, ht_12, g_12⟩ : ∃ t : Int, (x3_5 + 1).toInt = t ∧ t = x3_5.toInt + (1 : Int32).toInt := ⟨_, rfl, by have h9 := fb_addI (x := x3_5) (y := (1 : Int32)) (by omega) (by omega); exact h9⟩
            refine ok_lt fun x3_11 e_x3_11 => ?_
            have q_x3_11 : x3_11.toInt = t_12 := by rw [e_x3_11]; exact ht_12
            exact ih_a_22 _ x1_5 x3_11 s_5 (by rw [hn_a_22]; omega) ⟨rfl, (by omega), (by omega), hB_s_5, hF_s_5, hPI_s_5, hSI_s_5⟩
          · rw [fa_eq] at c_11
            exfalso; omega
        · rw [fa_lt] at c_10
          refine ok_jn ?_
          refine ok_ite (fun c_13 => ?_) (fun c_13 => ?_)
          · rw [fa_eq] at c_13
            exfalso; omega
          · rw [fa_eq] at c_13
            refine ok_ix ⟨by omega, by omega⟩ ?_
            have g_14 := gX_55 hB_s_5 (x3_5.toNatClampNeg)
            refine ok_lt fun v_13 e_v_13 => ?_
            have b_v_13 : (-1) ≤ v_13.toInt ∧ v_13.toInt ≤ 511 := by rw [e_v_13]; exact gX_55 hB_s_5 _
            have y4 : v_8.toInt ≤ 2 → 0 ≤ v_13.toInt := by rw [e_v_8, e_v_13]; exact (hSI_s_5 _).2.2.2
            have z8 : v_8.toInt = (s_5.1 53 x3_5.toNatClampNeg).toInt := by rw [e_v_8]
            refine ok_calp (s_X10_holds (x1 := v_13) (σ := s_5) hB_s_5 hPI_s_5 (by omega)) (fun v_14 h_15 => ?_)
            have b_v_14 := h_15
            (try dsimp only at b_v_14)
            refine ok_ite (fun c_16 => ?_) (fun c_16 => ?_)
            · rw [fa_eq] at c_16
              refine ok_calp (s_X10_isTaken (x1 := x3_5) (σ := s_5) hB_s_5 hSI_s_5 (by omega) (by omega)) (fun v_16 h_17 => ?_)
              obtain ⟨b_v_16, x_v_16⟩ := h_17
              (try dsimp only at b_v_16 x_v_16)
              refine ok_ite (fun c_18 => ?_) (fun c_18 => ?_)
              · rw [fa_eq] at c_18
                obtain ⟨t_19, ht_19, g_19⟩ : ∃ t : Int, (x3_5 + 1).toInt = t ∧ t = x3_5.toInt + (1 : Int32).toInt := ⟨_, rfl, by have h9 := fb_addI (x := x3_5) (y := (1 : Int32)) (by omega) (by omega); exact h9⟩
                refine ok_lt fun x3_11 e_x3_11 => ?_
                have q_x3_11 : x3_11.toInt = t_19 := by rw [e_x3_11]; exact ht_19
                exact ih_a_22 _ x1_5 x3_11 s_5 (by rw [hn_a_22]; omega) ⟨rfl, (by omega), (by omega), hB_s_5, hF_s_5, hPI_s_5, hSI_s_5⟩
              · rw [fa_eq] at c_18
                refine ok_cals (s_X10_deny (x1 := x3_5) (σ := s_5) hB_s_5 hSI_s_5 (by omega) (by omega) (by omega)) (fun s_18 h_20 => ?_)
                obtain ⟨hB_s_18, hG_s_18⟩ := h_20
                (try dsimp only at hB_s_18 hG_s_18)
                have hF_s_18 : FR [63, 64, 65] [] σ s_18 := FR.cal hF_s_5 hG_s_18 rfl rfl
                have hPI_s_18 : PI s_18 := PI.fr hG_s_18 (by decide) hPI_s_5
                have hSI_s_18 : SI s_18 := SI.fr hG_s_18 (by decide) hSI_s_5
                obtain ⟨t_21, ht_21, g_21⟩ : ∃ t : Int, (x3_5 + 1).toInt = t ∧ t = x3_5.toInt + (1 : Int32).toInt := ⟨_, rfl, by have h9 := fb_addI (x := x3_5) (y := (1 : Int32)) (by omega) (by omega); exact h9⟩
                refine ok_lt fun x3_11 e_x3_11 => ?_
                have q_x3_11 : x3_11.toInt = t_21 := by rw [e_x3_11]; exact ht_21
                exact ih_a_22 _ (1 : Int32) x3_11 s_18 (by rw [hn_a_22]; omega) ⟨rfl, (by omega), (by omega), hB_s_18, hF_s_18, hPI_s_18, hSI_s_18⟩
            · rw [fa_eq] at c_16
              obtain ⟨t_22, ht_22, g_22⟩ : ∃ t : Int, (x3_5 + 1).toInt = t ∧ t = x3_5.toInt + (1 : Int32).toInt := ⟨_, rfl, by have h9 := fb_addI (x := x3_5) (y := (1 : Int32)) (by omega) (by omega); exact h9⟩
              refine ok_lt fun x3_11 e_x3_11 => ?_
              have q_x3_11 : x3_11.toInt = t_22 := by rw [e_x3_11]; exact ht_22
              exact ih_a_22 _ x1_5 x3_11 s_5 (by rw [hn_a_22]; omega) ⟨rfl, (by omega), (by omega), hB_s_5, hF_s_5, hPI_s_5, hSI_s_5⟩

set_option maxHeartbeats 4000000 in
theorem s_X4_flowThrough {x1 : Int32} {σ : Sto} (hB : BX σ) (p_x1 : 0 ≤ x1.toInt ∧ x1.toInt ≤ 39) : OK (f_X4_flowThrough x1 σ) (fun s => BX s ∧ FR [66, 67] [6] σ s) := by
  unfold f_X4_flowThrough
  have hF : FR [66, 67] [6] σ σ := FR.rf
  have k_m1 : ((-1) : Int32).toInt = -1 := by decide +kernel
  have k_0 : (0 : Int32).toInt = 0 := by decide +kernel
  have k_1 : (1 : Int32).toInt = 1 := by decide +kernel
  have k_108 : (108 : Int32).toInt = 108 := by decide +kernel
  have k_115 : (115 : Int32).toInt = 115 := by decide +kernel
  refine ok_ix ⟨by omega, by omega⟩ ?_
  refine ok_lt fun s_1 e_s_1 => ?_
  have hB_s_1 : BX s_1 := by rw [e_s_1]; exact pX_67 hB (tI_rng _)
  have hF_s_1 : FR [66, 67] [6] σ s_1 := by rw [e_s_1]; exact FR.st hF (by decide)
  refine ok_ix ⟨by omega, by omega⟩ ?_
  have g_1 := gX_28 hB_s_1 (x1.toNatClampNeg)
  refine ok_lt fun v_2 e_v_2 => ?_
  have b_v_2 : 0 ≤ v_2.toInt ∧ v_2.toInt ≤ 120 := by rw [e_v_2]; exact gX_28 hB_s_1 _
  refine ok_itr2 (fun (n : Nat) (x2_3 : Int32) (s_3 : Sto) => n = (121 - x2_3.toInt).toNat ∧ (0 ≤ x2_3.toInt ∧ x2_3.toInt ≤ 120) ∧ (BX s_3) ∧ (FR [66, 67] [6] σ s_3)) ?_ (n := _) ⟨rfl, (by omega), hB_s_1, hF_s_1⟩ (show _ < 10000000 by omega)
  intro a_17 n x2_3 s_3 hI ih_a_17
  obtain ⟨hn_a_17, b_x2_3, hB_s_3, hF_s_3⟩ := hI
  obtain ⟨t_2, ht_2, g_2⟩ : ∃ t : Int, (x1 + 1).toInt = t ∧ t = x1.toInt + (1 : Int32).toInt := ⟨_, rfl, by have h9 := fb_addI (x := x1) (y := (1 : Int32)) (by omega) (by omega); exact h9⟩
  refine ok_ix ⟨by rw [ht_2]; omega, by rw [ht_2]; omega⟩ ?_
  have g_3 := gX_28 hB_s_3 ((x1 + 1).toNatClampNeg)
  refine ok_lt fun v_4 e_v_4 => ?_
  have b_v_4 : 0 ≤ v_4.toInt ∧ v_4.toInt ≤ 120 := by rw [e_v_4]; exact gX_28 hB_s_3 _
  refine ok_ite (fun c_4 => ?_) (fun c_4 => ?_)
  · rw [fa_le] at c_4
    refine ok_ix ⟨by omega, by omega⟩ ?_
    have g_5 := gX_26 hB_s_3 (x1.toNatClampNeg)
    refine ok_lt fun v_6 e_v_6 => ?_
    have b_v_6 : (-1) ≤ v_6.toInt ∧ v_6.toInt ≤ 39 := by rw [e_v_6]; exact gX_26 hB_s_3 _
    have q_v_6 : v_6.toInt = (σ.1 26 (x1.toNatClampNeg)).toInt := by rw [e_v_6, hF_s_3.1 26 (by decide)]
    refine ok_jn ?_
    refine ok_ite (fun c_6 => ?_) (fun c_6 => ?_)
    · rw [fa_eq] at c_6
      refine ok_ix ⟨by omega, by omega⟩ ?_
      refine ok_lt fun v_8 e_v_8 => ?_
      have q_v_8 : v_8.toInt = (s_3.1 67 x1.toNatClampNeg).toInt := by rw [e_v_8]
      refine ok_ix ⟨by omega, by omega⟩ ?_
      have g_7 := gX_22 hB_s_3 (x1.toNatClampNeg)
      refine ok_lt fun v_9 e_v_9 => ?_
      have b_v_9 : 0 ≤ v_9.toInt ∧ v_9.toInt ≤ 39 := by rw [e_v_9]; exact gX_22 hB_s_3 _
      refine ok_itr3 (fun (n : Nat) (x3_10 : Int32) (x4_10 : Int32) (s_10 : Sto) => n = (x4_10.toInt - (-2)).toNat ∧ ((-1) ≤ x4_10.toInt ∧ x4_10.toInt ≤ 39) ∧ (BX s_10) ∧ (FR [66, 67] [6] σ s_10)) ?_ (n := _) ⟨rfl, (by omega), hB_s_3, hF_s_3⟩ (show _ < 10000000 by omega)
      intro a_111 n x3_10 x4_10 s_10 hI ih_a_111
      obtain ⟨hn_a_111, b_x4_10, hB_s_10, hF_s_10⟩ := hI
      refine ok_ix ⟨by omega, by omega⟩ ?_
      have g_8 := gX_21 hB_s_10 (x1.toNatClampNeg)
      refine ok_lt fun v_11 e_v_11 => ?_
      have b_v_11 : 0 ≤ v_11.toInt ∧ v_11.toInt ≤ 39 := by rw [e_v_11]; exact gX_21 hB_s_10 _
      refine ok_ite (fun c_9 => ?_) (fun c_9 => ?_)
      · rw [fa_lt] at c_9
        refine ok_ix ⟨by omega, by omega⟩ ?_
        obtain ⟨t_10, ht_10, g_10⟩ : ∃ t : Int, (x3_10 ||| (0 : Int32)).toInt = t ∧ -2147483648 ≤ t ∧ t ≤ 2147483647 := ⟨_, rfl, tI_rng _⟩
        refine ok_lt fun s_13 e_s_13 => ?_
        have hB_s_13 : BX s_13 := by rw [e_s_13]; exact pX_66 hB_s_10 (tI_rng _)
        have hF_s_13 : FR [66, 67] [6] σ s_13 := by rw [e_s_13]; exact FR.st hF_s_10 (by decide)
        exact ok_ret ⟨hB_s_13, hF_s_13⟩
      · rw [fa_lt] at c_9
        refine ok_ix ⟨by omega, by omega⟩ ?_
        have g_11 := gX_7 hB_s_10 (x4_10.toNatClampNeg)
        refine ok_lt fun v_14 e_v_14 => ?_
        have b_v_14 : 0 ≤ v_14.toInt ∧ v_14.toInt ≤ 999 := by rw [e_v_14]; exact gX_7 hB_s_10 _
        obtain ⟨t_12, ht_12, g_12⟩ : ∃ t : Int, ((1 : Int32) <<< (v_14 &&& 31)).toInt = t ∧ -2147483648 ≤ t ∧ t ≤ 2147483647 := ⟨_, rfl, tI_rng _⟩
        refine ok_lt fun x5_15 e_x5_15 => ?_
        have q_x5_15 : x5_15.toInt = t_12 := by rw [e_x5_15]; exact ht_12
        refine ok_ix ⟨by omega, by omega⟩ ?_
        have g_13 := gX_6 hB_s_10 (x4_10.toNatClampNeg)
        refine ok_lt fun v_16 e_v_16 => ?_
        have b_v_16 : 0 ≤ v_16.toInt ∧ v_16.toInt ≤ 255 := by rw [e_v_16]; exact gX_6 hB_s_10 _
        have q_v_16 : v_16.toInt = (σ.1 6 (x4_10.toNatClampNeg)).toInt := by rw [e_v_16, hF_s_10.1 6 (by decide)]
        refine ok_jn ?_
        refine ok_ite (fun c_14 => ?_) (fun c_14 => ?_)
        · rw [fa_eq] at c_14
          obtain ⟨t_15, ht_15, g_15⟩ : ∃ t : Int, (x3_10 ||| x5_15).toInt = t ∧ -2147483648 ≤ t ∧ t ≤ 2147483647 := ⟨_, rfl, tI_rng _⟩
          refine ok_lt fun x3_20 e_x3_20 => ?_
          have q_x3_20 : x3_20.toInt = t_15 := by rw [e_x3_20]; exact ht_15
          obtain ⟨t_16, ht_16, g_16⟩ : ∃ t : Int, (x4_10 + (-1)).toInt = t ∧ t = x4_10.toInt + ((-1) : Int32).toInt := ⟨_, rfl, by have h9 := fb_addI (x := x4_10) (y := ((-1) : Int32)) (by omega) (by omega); exact h9⟩
          refine ok_lt fun x4_18 e_x4_18 => ?_
          have q_x4_18 : x4_18.toInt = t_16 := by rw [e_x4_18]; exact ht_16
          exact ih_a_111 _ x3_20 x4_18 s_10 (by rw [hn_a_111]; omega) ⟨rfl, (by omega), hB_s_10, hF_s_10⟩
        · rw [fa_eq] at c_14
          refine ok_ix ⟨by omega, by omega⟩ ?_
          refine ok_lt fun v_21 e_v_21 => ?_
          have b_v_21 : 0 ≤ v_21.toInt ∧ v_21.toInt ≤ 255 := by rw [e_v_21]; exact gX_6 hB_s_10 _
          have q_v_21 : v_21.toInt = (σ.1 6 (x4_10.toNatClampNeg)).toInt := by rw [e_v_21, hF_s_10.1 6 (by decide)]
          refine ok_ite (fun c_17 => ?_) (fun c_17 => ?_)
          · rw [fa_eq] at c_17
            refine ok_jn ?_
            obtain ⟨t_19, ht_19, g_19⟩ : ∃ t : Int, (x3_10 &&& x5_15).toInt = t ∧ -2147483648 ≤ t ∧ t ≤ 2147483647 := ⟨_, rfl, tI_rng _⟩
            refine ok_ite (fun c_18 => ?_) (fun c_18 => ?_)
            · rw [fa_eq, ht_19] at c_18
              refine ok_lt fun s_26 e_s_26 => ?_
              have hB_s_26 : BX s_26 := by rw [e_s_26]; exact BD.stl hB_s_10
              have hF_s_26 : FR [66, 67] [6] σ s_26 := by rw [e_s_26]; exact FR.stl hF_s_10 (by decide)
              obtain ⟨t_20, ht_20, g_20⟩ : ∃ t : Int, ((x3_10 &&& (x5_15 ^^^ (-1))) ||| (0 : Int32)).toInt = t ∧ -2147483648 ≤ t ∧ t ≤ 2147483647 := ⟨_, rfl, tI_rng _⟩
              refine ok_lt fun x3_24 e_x3_24 => ?_
              have q_x3_24 : x3_24.toInt = t_20 := by rw [e_x3_24]; exact ht_20
              obtain ⟨t_21, ht_21, g_21⟩ : ∃ t : Int, (x4_10 + (-1)).toInt = t ∧ t = x4_10.toInt + ((-1) : Int32).toInt := ⟨_, rfl, by have h9 := fb_addI (x := x4_10) (y := ((-1) : Int32)) (by omega) (by omega); exact h9⟩
              refine ok_lt fun x4_18 e_x4_18 => ?_
              have q_x4_18 : x4_18.toInt = t_21 := by rw [e_x4_18]; exact ht_21
              exact ih_a_111 _ x3_24 x4_18 s_26 (by rw [hn_a_111]; omega) ⟨rfl, (by omega), hB_s_26, hF_s_26⟩
            · rw [fa_eq, ht_19] at c_18
              obtain ⟨t_22, ht_22, g_22⟩ : ∃ t : Int, ((x3_10 &&& (x5_15 ^^^ (-1))) ||| (0 : Int32)).toInt = t ∧ -2147483648 ≤ t ∧ t ≤ 2147483647 := ⟨_, rfl, tI_rng _⟩
              refine ok_lt fun x3_24 e_x3_24 => ?_
              have q_x3_24 : x3_24.toInt = t_22 := by rw [e_x3_24]; exact ht_22
              obtain ⟨t_23, ht_23, g_23⟩ : ∃ t : Int, (x4_10 + (-1)).toInt = t ∧ t = x4_10.toInt + ((-1) : Int32).toInt := ⟨_, rfl, by have h9 := fb_addI (x := x4_10) (y := ((-1) : Int32)) (by omega) (by omega); exact h9⟩
              refine ok_lt fun x4_18 e_x4_18 => ?_
              have q_x4_18 : x4_18.toInt = t_23 := by rw [e_x4_18]; exact ht_23
              exact ih_a_111 _ x3_24 x4_18 s_10 (by rw [hn_a_111]; omega) ⟨rfl, (by omega), hB_s_10, hF_s_10⟩
          · rw [fa_eq] at c_17
            obtain ⟨t_24, ht_24, g_24⟩ : ∃ t : Int, (x4_10 + (-1)).toInt = t ∧ t = x4_10.toInt + ((-1) : Int32).toInt := ⟨_, rfl, by have h9 := fb_addI (x := x4_10) (y := ((-1) : Int32)) (by omega) (by omega); exact h9⟩
            refine ok_lt fun x4_18 e_x4_18 => ?_
            have q_x4_18 : x4_18.toInt = t_24 := by rw [e_x4_18]; exact ht_24
            exact ih_a_111 _ x3_10 x4_18 s_10 (by rw [hn_a_111]; omega) ⟨rfl, (by omega), hB_s_10, hF_s_10⟩
    · rw [fa_eq] at c_6
      refine ok_ix ⟨by omega, by omega⟩ ?_
      refine ok_lt fun v_28 e_v_28 => ?_
      have b_v_28 : (-1) ≤ v_28.toInt ∧ v_28.toInt ≤ 39 := by rw [e_v_28]; exact gX_26 hB_s_3 _
      have q_v_28 : v_28.toInt = (σ.1 26 (x1.toNatClampNeg)).toInt := by rw [e_v_28, hF_s_3.1 26 (by decide)]
      refine ok_ix ⟨by omega, by omega⟩ ?_
      refine ok_lt fun v_29 e_v_29 => ?_
      refine ok_ix ⟨by omega, by omega⟩ ?_
      refine ok_lt fun v_8 e_v_8 => ?_
      have q_v_8 : v_8.toInt = (s_3.1 67 x1.toNatClampNeg).toInt := by rw [e_v_8]
      refine ok_ix ⟨by omega, by omega⟩ ?_
      have g_25 := gX_22 hB_s_3 (x1.toNatClampNeg)
      refine ok_lt fun v_9 e_v_9 => ?_
      have b_v_9 : 0 ≤ v_9.toInt ∧ v_9.toInt ≤ 39 := by rw [e_v_9]; exact gX_22 hB_s_3 _
      refine ok_itr3 (fun (n : Nat) (x3_10 : Int32) (x4_10 : Int32) (s_10 : Sto) => n = (x4_10.toInt - (-2)).toNat ∧ ((-1) ≤ x4_10.toInt ∧ x4_10.toInt ≤ 39) ∧ (BX s_10) ∧ (FR [66, 67] [6] σ s_10)) ?_ (n := _) ⟨rfl, (by omega), hB_s_3, hF_s_3⟩ (show _ < 10000000 by omega)
      intro a_111 n x3_10 x4_10 s_10 hI ih_a_111
      obtain ⟨hn_a_111, b_x4_10, hB_s_10, hF_s_10⟩ := hI
      refine ok_ix ⟨by omega, by omega⟩ ?_
      have g_26 := gX_21 hB_s_10 (x1.toNatClampNeg)
      refine ok_lt fun v_11 e_v_11 => ?_
      have b_v_11 : 0 ≤ v_11.toInt ∧ v_11.toInt ≤ 39 := by rw [e_v_11]; exact gX_21 hB_s_10 _
      refine ok_ite (fun c_27 => ?_) (fun c_27 => ?_)
      · rw [fa_lt] at c_27
        refine ok_ix ⟨by omega, by omega⟩ ?_
        obtain ⟨t_28, ht_28, g_28⟩ : ∃ t : Int, (x3_10 ||| v_29).toInt = t ∧ -2147483648 ≤ t ∧ t ≤ 2147483647 := ⟨_, rfl, tI_rng _⟩
        refine ok_lt fun s_13 e_s_13 => ?_
        have hB_s_13 : BX s_13 := by rw [e_s_13]; exact pX_66 hB_s_10 (tI_rng _)
        have hF_s_13 : FR [66, 67] [6] σ s_13 := by rw [e_s_13]; exact FR.st hF_s_10 (by decide)
        exact ok_ret ⟨hB_s_13, hF_s_13⟩
      · rw [fa_lt] at c_27
        refine ok_ix ⟨by omega, by omega⟩ ?_
        have g_29 := gX_7 hB_s_10 (x4_10.toNatClampNeg)
        refine ok_lt fun v_14 e_v_14 => ?_
        have b_v_14 : 0 ≤ v_14.toInt ∧ v_14.toInt ≤ 999 := by rw [e_v_14]; exact gX_7 hB_s_10 _
        obtain ⟨t_30, ht_30, g_30⟩ : ∃ t : Int, ((1 : Int32) <<< (v_14 &&& 31)).toInt = t ∧ -2147483648 ≤ t ∧ t ≤ 2147483647 := ⟨_, rfl, tI_rng _⟩
        refine ok_lt fun x5_15 e_x5_15 => ?_
        have q_x5_15 : x5_15.toInt = t_30 := by rw [e_x5_15]; exact ht_30
        refine ok_ix ⟨by omega, by omega⟩ ?_
        have g_31 := gX_6 hB_s_10 (x4_10.toNatClampNeg)
        refine ok_lt fun v_16 e_v_16 => ?_
        have b_v_16 : 0 ≤ v_16.toInt ∧ v_16.toInt ≤ 255 := by rw [e_v_16]; exact gX_6 hB_s_10 _
        have q_v_16 : v_16.toInt = (σ.1 6 (x4_10.toNatClampNeg)).toInt := by rw [e_v_16, hF_s_10.1 6 (by decide)]
        refine ok_jn ?_
        refine ok_ite (fun c_32 => ?_) (fun c_32 => ?_)
        · rw [fa_eq] at c_32
          obtain ⟨t_33, ht_33, g_33⟩ : ∃ t : Int, (x3_10 ||| x5_15).toInt = t ∧ -2147483648 ≤ t ∧ t ≤ 2147483647 := ⟨_, rfl, tI_rng _⟩
          refine ok_lt fun x3_20 e_x3_20 => ?_
          have q_x3_20 : x3_20.toInt = t_33 := by rw [e_x3_20]; exact ht_33
          obtain ⟨t_34, ht_34, g_34⟩ : ∃ t : Int, (x4_10 + (-1)).toInt = t ∧ t = x4_10.toInt + ((-1) : Int32).toInt := ⟨_, rfl, by have h9 := fb_addI (x := x4_10) (y := ((-1) : Int32)) (by omega) (by omega); exact h9⟩
          refine ok_lt fun x4_18 e_x4_18 => ?_
          have q_x4_18 : x4_18.toInt = t_34 := by rw [e_x4_18]; exact ht_34
          exact ih_a_111 _ x3_20 x4_18 s_10 (by rw [hn_a_111]; omega) ⟨rfl, (by omega), hB_s_10, hF_s_10⟩
        · rw [fa_eq] at c_32
          refine ok_ix ⟨by omega, by omega⟩ ?_
          refine ok_lt fun v_21 e_v_21 => ?_
          have b_v_21 : 0 ≤ v_21.toInt ∧ v_21.toInt ≤ 255 := by rw [e_v_21]; exact gX_6 hB_s_10 _
          have q_v_21 : v_21.toInt = (σ.1 6 (x4_10.toNatClampNeg)).toInt := by rw [e_v_21, hF_s_10.1 6 (by decide)]
          refine ok_ite (fun c_35 => ?_) (fun c_35 => ?_)
          · rw [fa_eq] at c_35
            refine ok_jn ?_
            obtain ⟨t_37, ht_37, g_37⟩ : ∃ t : Int, (x3_10 &&& x5_15).toInt = t ∧ -2147483648 ≤ t ∧ t ≤ 2147483647 := ⟨_, rfl, tI_rng _⟩
            refine ok_ite (fun c_36 => ?_) (fun c_36 => ?_)
            · rw [fa_eq, ht_37] at c_36
              refine ok_lt fun s_26 e_s_26 => ?_
              have hB_s_26 : BX s_26 := by rw [e_s_26]; exact BD.stl hB_s_10
              have hF_s_26 : FR [66, 67] [6] σ s_26 := by rw [e_s_26]; exact FR.stl hF_s_10 (by decide)
              obtain ⟨t_38, ht_38, g_38⟩ : ∃ t : Int, ((x3_10 &&& (x5_15 ^^^ (-1))) ||| v_29).toInt = t ∧ -2147483648 ≤ t ∧ t ≤ 2147483647 := ⟨_, rfl, tI_rng _⟩
              refine ok_lt fun x3_24 e_x3_24 => ?_
              have q_x3_24 : x3_24.toInt = t_38 := by rw [e_x3_24]; exact ht_38
              obtain ⟨t_39, ht_39, g_39⟩ : ∃ t : Int, (x4_10 + (-1)).toInt = t ∧ t = x4_10.toInt + ((-1) : Int32).toInt := ⟨_, rfl, by have h9 := fb_addI (x := x4_10) (y := ((-1) : Int32)) (by omega) (by omega); exact h9⟩
              refine ok_lt fun x4_18 e_x4_18 => ?_
              have q_x4_18 : x4_18.toInt = t_39 := by rw [e_x4_18]; exact ht_39
              exact ih_a_111 _ x3_24 x4_18 s_26 (by rw [hn_a_111]; omega) ⟨rfl, (by omega), hB_s_26, hF_s_26⟩
            · rw [fa_eq, ht_37] at c_36
              obtain ⟨t_40, ht_40, g_40⟩ : ∃ t : Int, ((x3_10 &&& (x5_15 ^^^ (-1))) ||| v_29).toInt = t ∧ -2147483648 ≤ t ∧ t ≤ 2147483647 := ⟨_, rfl, tI_rng _⟩
              refine ok_lt fun x3_24 e_x3_24 => ?_
              have q_x3_24 : x3_24.toInt = t_40 := by rw [e_x3_24]; exact ht_40
              obtain ⟨t_41, ht_41, g_41⟩ : ∃ t : Int, (x4_10 + (-1)).toInt = t ∧ t = x4_10.toInt + ((-1) : Int32).toInt := ⟨_, rfl, by have h9 := fb_addI (x := x4_10) (y := ((-1) : Int32)) (by omega) (by omega); exact h9⟩
              refine ok_lt fun x4_18 e_x4_18 => ?_
              have q_x4_18 : x4_18.toInt = t_41 := by rw [e_x4_18]; exact ht_41
              exact ih_a_111 _ x3_24 x4_18 s_10 (by rw [hn_a_111]; omega) ⟨rfl, (by omega), hB_s_10, hF_s_10⟩
          · rw [fa_eq] at c_35
            obtain ⟨t_42, ht_42, g_42⟩ : ∃ t : Int, (x4_10 + (-1)).toInt = t ∧ t = x4_10.toInt + ((-1) : Int32).toInt := ⟨_, rfl, by have h9 := fb_addI (x := x4_10) (y := ((-1) : Int32)) (by omega) (by omega); exact h9⟩
            refine ok_lt fun x4_18 e_x4_18 => ?_
            have q_x4_18 : x4_18.toInt = t_42 := by rw [e_x4_18]; exact ht_42
            exact ih_a_111 _ x3_10 x4_18 s_10 (by rw [hn_a_111]; omega) ⟨rfl, (by omega), hB_s_10, hF_s_10⟩
  · rw [fa_le] at c_4
    refine ok_ix ⟨by omega, by omega⟩ ?_
    refine ok_lt fun v_30 e_v_30 => ?_
    have q_v_30 : v_30.toInt = (s_3.1 67 x1.toNatClampNeg).toInt := by rw [e_v_30]
    refine ok_ix ⟨by omega, by omega⟩ ?_
    have g_43 := gX_30 hB_s_3 (x2_3.toNatClampNeg)
    refine ok_lt fun v_31 e_v_31 => ?_
    have b_v_31 : 0 ≤ v_31.toInt ∧ v_31.toInt ≤ 39 := by rw [e_v_31]; exact gX_30 hB_s_3 _
    refine ok_ix ⟨by omega, by omega⟩ ?_
    refine ok_lt fun v_32 e_v_32 => ?_
    refine ok_ix ⟨by omega, by omega⟩ ?_
    obtain ⟨t_44, ht_44, g_44⟩ : ∃ t : Int, (v_30 ||| v_32).toInt = t ∧ -2147483648 ≤ t ∧ t ≤ 2147483647 := ⟨_, rfl, tI_rng _⟩
    refine ok_lt fun s_33 e_s_33 => ?_
    have hB_s_33 : BX s_33 := by rw [e_s_33]; exact pX_67 hB_s_3 (tI_rng _)
    have hF_s_33 : FR [66, 67] [6] σ s_33 := by rw [e_s_33]; exact FR.st hF_s_3 (by decide)
    obtain ⟨t_45, ht_45, g_45⟩ : ∃ t : Int, (x2_3 + 1).toInt = t ∧ t = x2_3.toInt + (1 : Int32).toInt := ⟨_, rfl, by have h9 := fb_addI (x := x2_3) (y := (1 : Int32)) (by omega) (by omega); exact h9⟩
    refine ok_lt fun x2_34 e_x2_34 => ?_
    have q_x2_34 : x2_34.toInt = t_45 := by rw [e_x2_34]; exact ht_45
    exact ih_a_17 _ x2_34 s_33 (by rw [hn_a_17]; omega) ⟨rfl, (by omega), hB_s_33, hF_s_33⟩

set_option maxHeartbeats 4000000 in
theorem s_X4_flow {σ : Sto} (hB : BX σ) : OK (f_X4_flow σ) (fun s => BX s ∧ FR [66, 67] [6] σ s) := by
  unfold f_X4_flow
  have hF : FR [66, 67] [6] σ σ := FR.rf
  have k_m1 : ((-1) : Int32).toInt = -1 := by decide +kernel
  have k_0 : (0 : Int32).toInt = 0 := by decide +kernel
  have k_1 : (1 : Int32).toInt = 1 := by decide +kernel
  have k_1000000 : (1000000 : Int32).toInt = 1000000 := by decide +kernel
  refine ok_itr2 (fun (n : Nat) (x1_1 : Int32) (s_1 : Sto) => n = (41 - x1_1.toInt).toNat ∧ (0 ≤ x1_1.toInt ∧ x1_1.toInt ≤ 40) ∧ (BX s_1) ∧ (FR [66, 67] [6] σ s_1)) ?_ (n := _) ⟨rfl, (by omega), hB, hF⟩ (show _ < 10000000 by omega)
  intro a_2 n x1_1 s_1 hI ih_a_2
  obtain ⟨hn_a_2, b_x1_1, hB_s_1, hF_s_1⟩ := hI
  have g_2 := gX_20 hB_s_1 0
  have g_3 : (s_1.1 20 0).toInt = (σ.1 20 0).toInt := by rw [hF_s_1.1 20 (by decide)]
  have g_4 := gX_20 hB 0
  refine ok_ite (fun c_1 => ?_) (fun c_1 => ?_)
  · rw [fa_le] at c_1
    refine ok_itr3 (fun (n : Nat) (x1_3 : Int32) (x2_3 : Int32) (s_3 : Sto) => n = (1000001 - x2_3.toInt).toNat ∧ (0 ≤ x1_3.toInt ∧ x1_3.toInt ≤ 1) ∧ (0 ≤ x2_3.toInt ∧ x2_3.toInt ≤ 1000000) ∧ (BX s_3) ∧ (FR [66, 67] [6] σ s_3)) ?_ (n := _) ⟨rfl, (by omega), (by omega), hB_s_1, hF_s_1⟩ (show _ < 10000000 by omega)
    intro a_30 n x1_3 x2_3 s_3 hI ih_a_30
    obtain ⟨hn_a_30, b_x1_3, b_x2_3, hB_s_3, hF_s_3⟩ := hI
    refine ok_ite (fun c_5 => ?_) (fun c_5 => ?_)
    · rw [fa_le] at c_5
      exact ok_ret ⟨hB_s_3, hF_s_3⟩
    · rw [fa_le] at c_5
      refine ok_ite (fun c_6 => ?_) (fun c_6 => ?_)
      · rw [fa_eq] at c_6
        exact ok_ret ⟨hB_s_3, hF_s_3⟩
      · rw [fa_eq] at c_6
        refine ok_lt fun s_6 e_s_6 => ?_
        have hB_s_6 : BX s_6 := by rw [e_s_6]; exact BD.stl hB_s_3
        have hF_s_6 : FR [66, 67] [6] σ s_6 := by rw [e_s_6]; exact FR.stl hF_s_3 (by decide)
        have g_7 := gX_20 hB_s_6 0
        have g_8 : (s_6.1 20 0).toInt = (σ.1 20 0).toInt := by rw [hF_s_6.1 20 (by decide)]
        obtain ⟨t_9, ht_9, g_9⟩ : ∃ t : Int, ((s_6.1 20 0) - 1).toInt = t ∧ t = (s_6.1 20 0).toInt - (1 : Int32).toInt := ⟨_, rfl, by have h9 := fb_subI (x := (s_6.1 20 0)) (y := (1 : Int32)) (by omega) (by omega); exact h9⟩
        refine ok_lt fun x3_7 e_x3_7 => ?_
        have q_x3_7 : x3_7.toInt = t_9 := by rw [e_x3_7]; exact ht_9
        refine ok_itr3 (fun (n : Nat) (x1_8 : Int32) (x3_8 : Int32) (s_8 : Sto) => n = (x3_8.toInt - (-2)).toNat ∧ (0 ≤ x1_8.toInt ∧ x1_8.toInt ≤ 1) ∧ ((-1) ≤ x3_8.toInt ∧ x3_8.toInt ≤ 39) ∧ (BX s_8) ∧ (FR [66, 67] [6] σ s_8)) ?_ (n := _) ⟨rfl, (by omega), (by omega), hB_s_6, hF_s_6⟩ (show _ < 10000000 by omega)
        intro a_57 n x1_8 x3_8 s_8 hI ih_a_57
        obtain ⟨hn_a_57, b_x1_8, b_x3_8, hB_s_8, hF_s_8⟩ := hI
        refine ok_ite (fun c_10 => ?_) (fun c_10 => ?_)
        · rw [fa_lt] at c_10
          obtain ⟨t_11, ht_11, g_11⟩ : ∃ t : Int, (x2_3 + 1).toInt = t ∧ t = x2_3.toInt + (1 : Int32).toInt := ⟨_, rfl, by have h9 := fb_addI (x := x2_3) (y := (1 : Int32)) (by omega) (by omega); exact h9⟩
          refine ok_lt fun x2_10 e_x2_10 => ?_
          have q_x2_10 : x2_10.toInt = t_11 := by rw [e_x2_10]; exact ht_11
          exact ih_a_30 _ x1_8 x2_10 s_8 (by rw [hn_a_30]; omega) ⟨rfl, (by omega), (by omega), hB_s_8, hF_s_8⟩
        · rw [fa_lt] at c_10
          refine ok_ix ⟨by omega, by omega⟩ ?_
          refine ok_lt fun v_11 e_v_11 => ?_
          refine ok_cals (s_X4_flowThrough (x1 := x3_8) (σ := s_8) hB_s_8 (by omega)) (fun s_12 h_12 => ?_)
          obtain ⟨hB_s_12, hG_s_12⟩ := h_12
          (try dsimp only at hB_s_12 hG_s_12)
          have hF_s_12 : FR [66, 67] [6] σ s_12 := FR.cal hF_s_8 hG_s_12 rfl rfl
          refine ok_jn ?_
          refine ok_jn ?_
          refine ok_ite (fun c_13 => ?_) (fun c_13 => ?_)
          · rw [fa_eq] at c_13
            refine ok_ix ⟨by omega, by omega⟩ ?_
            refine ok_lt fun v_17 e_v_17 => ?_
            refine ok_ite (fun c_14 => ?_) (fun c_14 => ?_)
            · rw [fa_eq] at c_14
              obtain ⟨t_15, ht_15, g_15⟩ : ∃ t : Int, (x3_8 + (-1)).toInt = t ∧ t = x3_8.toInt + ((-1) : Int32).toInt := ⟨_, rfl, by have h9 := fb_addI (x := x3_8) (y := ((-1) : Int32)) (by omega) (by omega); exact h9⟩
              refine ok_lt fun x3_14 e_x3_14 => ?_
              have q_x3_14 : x3_14.toInt = t_15 := by rw [e_x3_14]; exact ht_15
              exact ih_a_57 _ (0 : Int32) x3_14 s_12 (by rw [hn_a_57]; omega) ⟨rfl, (by omega), (by omega), hB_s_12, hF_s_12⟩
            · rw [fa_eq] at c_14
              obtain ⟨t_16, ht_16, g_16⟩ : ∃ t : Int, (x3_8 + (-1)).toInt = t ∧ t = x3_8.toInt + ((-1) : Int32).toInt := ⟨_, rfl, by have h9 := fb_addI (x := x3_8) (y := ((-1) : Int32)) (by omega) (by omega); exact h9⟩
              refine ok_lt fun x3_14 e_x3_14 => ?_
              have q_x3_14 : x3_14.toInt = t_16 := by rw [e_x3_14]; exact ht_16
              exact ih_a_57 _ (1 : Int32) x3_14 s_12 (by rw [hn_a_57]; omega) ⟨rfl, (by omega), (by omega), hB_s_12, hF_s_12⟩
          · rw [fa_eq] at c_13
            obtain ⟨t_17, ht_17, g_17⟩ : ∃ t : Int, (x3_8 + (-1)).toInt = t ∧ t = x3_8.toInt + ((-1) : Int32).toInt := ⟨_, rfl, by have h9 := fb_addI (x := x3_8) (y := ((-1) : Int32)) (by omega) (by omega); exact h9⟩
            refine ok_lt fun x3_14 e_x3_14 => ?_
            have q_x3_14 : x3_14.toInt = t_17 := by rw [e_x3_14]; exact ht_17
            exact ih_a_57 _ (1 : Int32) x3_14 s_12 (by rw [hn_a_57]; omega) ⟨rfl, (by omega), (by omega), hB_s_12, hF_s_12⟩
  · rw [fa_le] at c_1
    refine ok_ix ⟨by omega, by omega⟩ ?_
    refine ok_lt fun s_19 e_s_19 => ?_
    have hB_s_19 : BX s_19 := by rw [e_s_19]; exact pX_66 hB_s_1 (tI_rng _)
    have hF_s_19 : FR [66, 67] [6] σ s_19 := by rw [e_s_19]; exact FR.st hF_s_1 (by decide)
    obtain ⟨t_18, ht_18, g_18⟩ : ∃ t : Int, (x1_1 + 1).toInt = t ∧ t = x1_1.toInt + (1 : Int32).toInt := ⟨_, rfl, by have h9 := fb_addI (x := x1_1) (y := (1 : Int32)) (by omega) (by omega); exact h9⟩
    refine ok_lt fun x1_20 e_x1_20 => ?_
    have q_x1_20 : x1_20.toInt = t_18 := by rw [e_x1_20]; exact ht_18
    exact ih_a_2 _ x1_20 s_19 (by rw [hn_a_2]; omega) ⟨rfl, (by omega), hB_s_19, hF_s_19⟩

set_option maxHeartbeats 4000000 in
theorem s_X2_add {x1 : Int32} {x2 : Int32} {x3 : Int32} {σ : Sto} (hB : BX σ) (hLI : LI σ) (hLQ : LQ σ) (p_x1 : 0 ≤ x1.toInt ∧ x1.toInt ≤ 12) (p_x2 : 0 ≤ x2.toInt ∧ x2.toInt ≤ 39) (p_x3 : (-1) ≤ x3.toInt ∧ x3.toInt ≤ 319) (hT : T3 x1 x3) (hL : L1 x1 (σ.1 57 x2.toNatClampNeg).toInt x3.toInt (σ.1 46 0).toInt (σ.1 52 0).toInt) : OK (f_X2_add x1 x2 x3 σ) (fun s => BX s ∧ FR [68, 69, 70, 71, 72] [] σ s ∧ LI s ∧ LQ s) := by
  unfold f_X2_add
  have hF : FR [68, 69, 70, 71, 72] [] σ σ := FR.rf
  have k_1 : (1 : Int32).toInt = 1 := by decide +kernel
  have k_800 : (800 : Int32).toInt = 800 := by decide +kernel
  have g9 := gX_68 hB 0
  have g_2 := gX_68 hB 0
  refine ok_ite (fun c_1 => ?_) (fun c_1 => ?_)
  · rw [fa_le] at c_1
    exact ok_ret ⟨hB, hF, hLI, hLQ⟩
  · rw [fa_le] at c_1
    refine ok_ix ⟨by omega, by omega⟩ ?_
    refine ok_lt fun s_2 e_s_2 => ?_
    have hB_s_2 : BX s_2 := by rw [e_s_2]; exact pX_69 hB (by omega)
    have hF_s_2 : FR [68, 69, 70, 71, 72] [] σ s_2 := by rw [e_s_2]; exact FR.st hF (by decide)
    have w_s_2_68 : (s_2.1 68 0).toInt = (σ.1 68 0).toInt := by rw [e_s_2]; rfl
    have g_3 := gX_68 hB_s_2 0
    refine ok_ix ⟨by omega, by omega⟩ ?_
    refine ok_lt fun s_3 e_s_3 => ?_
    have hB_s_3 : BX s_3 := by rw [e_s_3]; exact pX_70 hB_s_2 (by omega)
    have hF_s_3 : FR [68, 69, 70, 71, 72] [] σ s_3 := by rw [e_s_3]; exact FR.st hF_s_2 (by decide)
    have w_s_3_68 : (s_3.1 68 0).toInt = (s_2.1 68 0).toInt := by rw [e_s_3]; rfl
    have g_4 := gX_68 hB_s_3 0
    refine ok_ix ⟨by omega, by omega⟩ ?_
    have g_5 : (s_3.1 77 0).toInt = (σ.1 77 0).toInt := by rw [hF_s_3.1 77 (by decide)]
    refine ok_lt fun s_4 e_s_4 => ?_
    have hB_s_4 : BX s_4 := by rw [e_s_4]; exact pX_71 hB_s_3 (tI_rng _)
    have hF_s_4 : FR [68, 69, 70, 71, 72] [] σ s_4 := by rw [e_s_4]; exact FR.st hF_s_3 (by decide)
    have w_s_4_68 : (s_4.1 68 0).toInt = (s_3.1 68 0).toInt := by rw [e_s_4]; rfl
    have g_6 := gX_68 hB_s_4 0
    refine ok_ix ⟨by omega, by omega⟩ ?_
    refine ok_lt fun s_5 e_s_5 => ?_
    have hB_s_5 : BX s_5 := by rw [e_s_5]; exact pX_72 hB_s_4 (by omega)
    have hF_s_5 : FR [68, 69, 70, 71, 72] [] σ s_5 := by rw [e_s_5]; exact FR.st hF_s_4 (by decide)
    have w_s_5_68 : (s_5.1 68 0).toInt = (s_4.1 68 0).toInt := by rw [e_s_5]; rfl
    have hLI_s_5 : LI s_5 := LI.two hLI e_s_2 (by rw [e_s_4, e_s_3]; rfl) (by rw [e_s_4, e_s_3, e_s_2]; rfl) e_s_5 (by rw [show s_4.1 68 = σ.1 68 by rw [e_s_4, e_s_3, e_s_2]; rfl]) hT
    have g_7 := gX_68 hB_s_5 0
    obtain ⟨t_8, ht_8, g_8⟩ : ∃ t : Int, ((s_5.1 68 0) + 1).toInt = t ∧ t = (s_5.1 68 0).toInt + (1 : Int32).toInt := ⟨_, rfl, by have h9 := fb_addI (x := (s_5.1 68 0)) (y := (1 : Int32)) (by omega) (by omega); exact h9⟩
    refine ok_lt fun s_6 e_s_6 => ?_
    have hB_s_6 : BX s_6 := by rw [e_s_6]; exact pX_68 hB_s_5 (by rw [ht_8]; omega)
    have hF_s_6 : FR [68, 69, 70, 71, 72] [] σ s_6 := by rw [e_s_6]; exact FR.st hF_s_5 (by decide)
    have w_s_6_68 : (s_6.1 68 0).toInt = t_8 := by rw [e_s_6, sti_s, ht_8]
    have hLI_s_6 : LI s_6 := by rw [e_s_6]; exact LI.st1 (by decide) hLI_s_5
    have hLQ_s_6 : LQ s_6 := LQ.add hLQ (n := (σ.1 68 0).toNatClampNeg) (k := x1) (b := x2) (l := x3) (by rw [e_s_6, e_s_5, e_s_4, e_s_3, e_s_2]; rfl) (by rw [e_s_6, e_s_5, e_s_4, e_s_3, e_s_2]; rfl) (by rw [e_s_6, e_s_5, e_s_4, e_s_3, e_s_2]; rfl) (by rw [e_s_6, e_s_5, e_s_4, e_s_3, e_s_2]; rfl) (by rw [e_s_6, e_s_5, e_s_4, e_s_3, e_s_2]; rfl) (by rw [e_s_6, e_s_5, e_s_4, e_s_3, e_s_2]; rfl) (by omega) (clamp_I (by omega)) hL
    exact ok_ret ⟨hB_s_6, hF_s_6, hLI_s_6, hLQ_s_6⟩

set_option maxHeartbeats 4000000 in
theorem s_X2_openLine {x1 : Int32} {x2 : Int32} {σ : Sto} (hB : BX σ) (hLI : LI σ) (hLQ : LQ σ) (p_x1 : 1 ≤ x1.toInt ∧ x1.toInt ≤ 12) (p_x2 : 0 ≤ x2.toInt ∧ x2.toInt ≤ 39) (hO : x1.toInt = 3 → (σ.1 57 x2.toNatClampNeg).toInt < (σ.1 46 0).toInt) : OK (f_X2_openLine x1 x2 σ) (fun s => BX s ∧ FR [68, 69, 70, 71, 72, 77] [] σ s ∧ LI s ∧ LQ s) := by
  unfold f_X2_openLine
  have hF : FR [68, 69, 70, 71, 72, 77] [] σ σ := FR.rf
  have k_m1 : ((-1) : Int32).toInt = -1 := by decide +kernel
  have k_1 : (1 : Int32).toInt = 1 := by decide +kernel
  refine ok_cals (s_X2_add (x1 := x1) (x2 := x2) (x3 := ((-1) : Int32)) (σ := σ) hB hLI hLQ (by omega) (by omega) (by omega) (fun h => by omega) ⟨fun h => by exfalso; omega, hO⟩) (fun s_1 h_1 => ?_)
  obtain ⟨hB_s_1, hG_s_1, hLI_s_1, hLQ_s_1⟩ := h_1
  (try dsimp only at hB_s_1 hG_s_1 hLI_s_1 hLQ_s_1)
  have hF_s_1 : FR [68, 69, 70, 71, 72, 77] [] σ s_1 := FR.cal hF hG_s_1 rfl rfl
  have w_s_1_77 : (s_1.1 77 0).toInt = (σ.1 77 0).toInt := by rw [hG_s_1.1 77 (by decide)]
  obtain ⟨t_2, ht_2, g_2⟩ : ∃ t : Int, ((s_1.1 77 0) + 1).toInt = t ∧ -2147483648 ≤ t ∧ t ≤ 2147483647 := ⟨_, rfl, tI_rng _⟩
  refine ok_lt fun s_2 e_s_2 => ?_
  have hB_s_2 : BX s_2 := by rw [e_s_2]; exact pX_77 hB_s_1 (tI_rng _)
  have hF_s_2 : FR [68, 69, 70, 71, 72, 77] [] σ s_2 := by rw [e_s_2]; exact FR.st hF_s_1 (by decide)
  have w_s_2_77 : (s_2.1 77 0).toInt = t_2 := by rw [e_s_2, sti_s, ht_2]
  have hLI_s_2 : LI s_2 := by rw [e_s_2]; exact LI.st1 (by decide) hLI_s_1
  have hLQ_s_2 : LQ s_2 := by rw [e_s_2]; exact LQ.st1 (by decide) hLQ_s_1
  exact ok_ret ⟨hB_s_2, hF_s_2, hLI_s_2, hLQ_s_2⟩

set_option maxHeartbeats 4000000 in
theorem s_X2_tellStatements {x1 : Int32} {σ : Sto} (hB : BX σ) (hLI : LI σ) (hLQ : LQ σ) (hFS : FS σ) (p_x1 : 0 ≤ x1.toInt ∧ x1.toInt ≤ 39) (hnb : x1.toInt < (σ.1 20 0).toInt) : OK (f_X2_tellStatements x1 σ) (fun s => BX s ∧ FR [68, 69, 70, 71, 72, 77] [] σ s ∧ LI s ∧ LQ s) := by
  unfold f_X2_tellStatements
  have hF : FR [68, 69, 70, 71, 72, 77] [] σ σ := FR.rf
  have k_m1 : ((-1) : Int32).toInt = -1 := by decide +kernel
  have k_0 : (0 : Int32).toInt = 0 := by decide +kernel
  have k_1 : (1 : Int32).toInt = 1 := by decide +kernel
  have k_9 : (9 : Int32).toInt = 9 := by decide +kernel
  have k_10 : (10 : Int32).toInt = 10 := by decide +kernel
  have k_11 : (11 : Int32).toInt = 11 := by decide +kernel
  refine ok_cals (s_X2_add (x1 := (11 : Int32)) (x2 := x1) (x3 := ((-1) : Int32)) (σ := σ) hB hLI hLQ (by omega) (by omega) (by omega) (fun h => by omega) ⟨fun h => by first | (exfalso; omega) | exact ⟨by omega, by omega⟩, fun h => by exfalso; omega⟩) (fun s_1 h_1 => ?_)
  obtain ⟨hB_s_1, hG_s_1, hLI_s_1, hLQ_s_1⟩ := h_1
  (try dsimp only at hB_s_1 hG_s_1 hLI_s_1 hLQ_s_1)
  have hF_s_1 : FR [68, 69, 70, 71, 72, 77] [] σ s_1 := FR.cal hF hG_s_1 rfl rfl
  have w_s_1_77 : (s_1.1 77 0).toInt = (σ.1 77 0).toInt := by rw [hG_s_1.1 77 (by decide)]
  have f_s_1_20 : (s_1.1 20 0).toInt = (σ.1 20 0).toInt := by rw [hF_s_1.1 20 (by decide)]
  have f_s_1_52 : (s_1.1 52 0).toInt = (σ.1 52 0).toInt := by rw [hF_s_1.1 52 (by decide)]
  have hFS_s_1 : FS s_1 := FS.fr hG_s_1 (by decide) hFS
  refine ok_ix ⟨by omega, by omega⟩ ?_
  have g_2 := gX_26 hB_s_1 (x1.toNatClampNeg)
  refine ok_lt fun v_2 e_v_2 => ?_
  have b_v_2 : (-1) ≤ v_2.toInt ∧ v_2.toInt ≤ 39 := by rw [e_v_2]; exact gX_26 hB_s_1 _
  have q_v_2 : v_2.toInt = (σ.1 26 (x1.toNatClampNeg)).toInt := by rw [e_v_2, hF_s_1.1 26 (by decide)]
  refine ok_jn ?_
  refine ok_ite (fun c_3 => ?_) (fun c_3 => ?_)
  · rw [fa_eq] at c_3
    refine ok_jnI1 (fun (s_4 : Sto) => True ∧ (BX s_4) ∧ (FR [68, 69, 70, 71, 72, 77] [] σ s_4) ∧ (LI s_4) ∧ (LQ s_4) ∧ (FS s_4)) ?_ ?_
    · intro s_4 hJ
      obtain ⟨-, hB_s_4, hF_s_4, hLI_s_4, hLQ_s_4, hFS_s_4⟩ := hJ
      have f_s_4_20 : (s_4.1 20 0).toInt = (σ.1 20 0).toInt := by rw [hF_s_4.1 20 (by decide)]
      have f_s_4_52 : (s_4.1 52 0).toInt = (σ.1 52 0).toInt := by rw [hF_s_4.1 52 (by decide)]
      refine ok_ix ⟨by omega, by omega⟩ ?_
      have g_4 := gX_56 hB_s_4 (x1.toNatClampNeg)
      refine ok_lt fun v_5 e_v_5 => ?_
      have b_v_5 : 0 ≤ v_5.toInt ∧ v_5.toInt ≤ 320 := by rw [e_v_5]; exact gX_56 hB_s_4 _
      refine ok_itr2 (fun (n : Nat) (x3_6 : Int32) (s_6 : Sto) => n = (321 - x3_6.toInt).toNat ∧ (0 ≤ x3_6.toInt ∧ x3_6.toInt ≤ 320) ∧ (BX s_6) ∧ (FR [68, 69, 70, 71, 72, 77] [] σ s_6) ∧ (LI s_6) ∧ (LQ s_6) ∧ (FS s_6)) ?_ (n := _) ⟨rfl, (by omega), hB_s_4, hF_s_4, hLI_s_4, hLQ_s_4, hFS_s_4⟩ (show _ < 10000000 by omega)
      intro a_48 n x3_6 s_6 hI ih_a_48
      obtain ⟨hn_a_48, b_x3_6, hB_s_6, hF_s_6, hLI_s_6, hLQ_s_6, hFS_s_6⟩ := hI
      have f_s_6_20 : (s_6.1 20 0).toInt = (σ.1 20 0).toInt := by rw [hF_s_6.1 20 (by decide)]
      have f_s_6_52 : (s_6.1 52 0).toInt = (σ.1 52 0).toInt := by rw [hF_s_6.1 52 (by decide)]
      obtain ⟨t_5, ht_5, g_5⟩ : ∃ t : Int, (x1 + 1).toInt = t ∧ t = x1.toInt + (1 : Int32).toInt := ⟨_, rfl, by have h9 := fb_addI (x := x1) (y := (1 : Int32)) (by omega) (by omega); exact h9⟩
      refine ok_ix ⟨by rw [ht_5]; omega, by rw [ht_5]; omega⟩ ?_
      have g_6 := gX_56 hB_s_6 ((x1 + 1).toNatClampNeg)
      refine ok_lt fun v_7 e_v_7 => ?_
      have b_v_7 : 0 ≤ v_7.toInt ∧ v_7.toInt ≤ 320 := by rw [e_v_7]; exact gX_56 hB_s_6 _
      have y7 : v_7.toInt ≤ (s_6.1 52 0).toInt := by rw [e_v_7, c_s (by omega) (by omega)]; exact hFS_s_6 _ (by have := clamp_I (x := x1) (by omega); omega)
      refine ok_ite (fun c_7 => ?_) (fun c_7 => ?_)
      · rw [fa_le] at c_7
        refine ok_ite (fun c_8 => ?_) (fun c_8 => ?_)
        · rw [fa_eq] at c_8
          exact ok_ret ⟨hB_s_6, hF_s_6, hLI_s_6, hLQ_s_6⟩
        · rw [fa_eq] at c_8
          exfalso; omega
      · rw [fa_le] at c_7
        refine ok_cals (s_X2_add (x1 := (0 : Int32)) (x2 := x1) (x3 := x3_6) (σ := s_6) hB_s_6 hLI_s_6 hLQ_s_6 (by omega) (by omega) (by omega) (fun h => by omega) ⟨fun h => by first | (exfalso; omega) | exact ⟨by omega, by omega⟩, fun h => by exfalso; omega⟩) (fun s_13 h_9 => ?_)
        obtain ⟨hB_s_13, hG_s_13, hLI_s_13, hLQ_s_13⟩ := h_9
        (try dsimp only at hB_s_13 hG_s_13 hLI_s_13 hLQ_s_13)
        have hF_s_13 : FR [68, 69, 70, 71, 72, 77] [] σ s_13 := FR.cal hF_s_6 hG_s_13 rfl rfl
        have w_s_13_77 : (s_13.1 77 0).toInt = (s_6.1 77 0).toInt := by rw [hG_s_13.1 77 (by decide)]
        have f_s_13_20 : (s_13.1 20 0).toInt = (σ.1 20 0).toInt := by rw [hF_s_13.1 20 (by decide)]
        have f_s_13_52 : (s_13.1 52 0).toInt = (σ.1 52 0).toInt := by rw [hF_s_13.1 52 (by decide)]
        have hFS_s_13 : FS s_13 := FS.fr hG_s_13 (by decide) hFS_s_6
        obtain ⟨t_10, ht_10, g_10⟩ : ∃ t : Int, (x3_6 + 1).toInt = t ∧ t = x3_6.toInt + (1 : Int32).toInt := ⟨_, rfl, by have h9 := fb_addI (x := x3_6) (y := (1 : Int32)) (by omega) (by omega); exact h9⟩
        refine ok_lt fun x3_14 e_x3_14 => ?_
        have q_x3_14 : x3_14.toInt = t_10 := by rw [e_x3_14]; exact ht_10
        exact ih_a_48 _ x3_14 s_13 (by rw [hn_a_48]; omega) ⟨rfl, (by omega), hB_s_13, hF_s_13, hLI_s_13, hLQ_s_13, hFS_s_13⟩
    · intro k_38 hk_k_38
      refine ok_ite (fun c_11 => ?_) (fun c_11 => ?_)
      · rw [fa_eq] at c_11
        exact hk_k_38 s_1 ⟨trivial, hB_s_1, hF_s_1, hLI_s_1, hLQ_s_1, hFS_s_1⟩
      · rw [fa_eq] at c_11
        exfalso; omega
  · rw [fa_eq] at c_3
    refine ok_jnI1 (fun (s_4 : Sto) => True ∧ (BX s_4) ∧ (FR [68, 69, 70, 71, 72, 77] [] σ s_4) ∧ (LI s_4) ∧ (LQ s_4) ∧ (FS s_4)) ?_ ?_
    · intro s_4 hJ
      obtain ⟨-, hB_s_4, hF_s_4, hLI_s_4, hLQ_s_4, hFS_s_4⟩ := hJ
      have f_s_4_20 : (s_4.1 20 0).toInt = (σ.1 20 0).toInt := by rw [hF_s_4.1 20 (by decide)]
      have f_s_4_52 : (s_4.1 52 0).toInt = (σ.1 52 0).toInt := by rw [hF_s_4.1 52 (by decide)]
      refine ok_ix ⟨by omega, by omega⟩ ?_
      have g_12 := gX_56 hB_s_4 (x1.toNatClampNeg)
      refine ok_lt fun v_5 e_v_5 => ?_
      have b_v_5 : 0 ≤ v_5.toInt ∧ v_5.toInt ≤ 320 := by rw [e_v_5]; exact gX_56 hB_s_4 _
      refine ok_itr2 (fun (n : Nat) (x3_6 : Int32) (s_6 : Sto) => n = (321 - x3_6.toInt).toNat ∧ (0 ≤ x3_6.toInt ∧ x3_6.toInt ≤ 320) ∧ (BX s_6) ∧ (FR [68, 69, 70, 71, 72, 77] [] σ s_6) ∧ (LI s_6) ∧ (LQ s_6) ∧ (FS s_6)) ?_ (n := _) ⟨rfl, (by omega), hB_s_4, hF_s_4, hLI_s_4, hLQ_s_4, hFS_s_4⟩ (show _ < 10000000 by omega)
      intro a_48 n x3_6 s_6 hI ih_a_48
      obtain ⟨hn_a_48, b_x3_6, hB_s_6, hF_s_6, hLI_s_6, hLQ_s_6, hFS_s_6⟩ := hI
      have f_s_6_20 : (s_6.1 20 0).toInt = (σ.1 20 0).toInt := by rw [hF_s_6.1 20 (by decide)]
      have f_s_6_52 : (s_6.1 52 0).toInt = (σ.1 52 0).toInt := by rw [hF_s_6.1 52 (by decide)]
      obtain ⟨t_13, ht_13, g_13⟩ : ∃ t : Int, (x1 + 1).toInt = t ∧ t = x1.toInt + (1 : Int32).toInt := ⟨_, rfl, by have h9 := fb_addI (x := x1) (y := (1 : Int32)) (by omega) (by omega); exact h9⟩
      refine ok_ix ⟨by rw [ht_13]; omega, by rw [ht_13]; omega⟩ ?_
      have g_14 := gX_56 hB_s_6 ((x1 + 1).toNatClampNeg)
      refine ok_lt fun v_7 e_v_7 => ?_
      have b_v_7 : 0 ≤ v_7.toInt ∧ v_7.toInt ≤ 320 := by rw [e_v_7]; exact gX_56 hB_s_6 _
      have y7 : v_7.toInt ≤ (s_6.1 52 0).toInt := by rw [e_v_7, c_s (by omega) (by omega)]; exact hFS_s_6 _ (by have := clamp_I (x := x1) (by omega); omega)
      refine ok_ite (fun c_15 => ?_) (fun c_15 => ?_)
      · rw [fa_le] at c_15
        refine ok_ite (fun c_16 => ?_) (fun c_16 => ?_)
        · rw [fa_eq] at c_16
          exfalso; omega
        · rw [fa_eq] at c_16
          obtain ⟨t_17, ht_17, g_17⟩ : ∃ t : Int, ((s_6.1 77 0) - 1).toInt = t ∧ -2147483648 ≤ t ∧ t ≤ 2147483647 := ⟨_, rfl, tI_rng _⟩
          refine ok_lt fun s_10 e_s_10 => ?_
          have hB_s_10 : BX s_10 := by rw [e_s_10]; exact pX_77 hB_s_6 (tI_rng _)
          have hF_s_10 : FR [68, 69, 70, 71, 72, 77] [] σ s_10 := by rw [e_s_10]; exact FR.st hF_s_6 (by decide)
          have w_s_10_77 : (s_10.1 77 0).toInt = t_17 := by rw [e_s_10, sti_s, ht_17]
          have f_s_10_20 : (s_10.1 20 0).toInt = (σ.1 20 0).toInt := by rw [hF_s_10.1 20 (by decide)]
          have f_s_10_52 : (s_10.1 52 0).toInt = (σ.1 52 0).toInt := by rw [hF_s_10.1 52 (by decide)]
          have hLI_s_10 : LI s_10 := by rw [e_s_10]; exact LI.st1 (by decide) hLI_s_6
          have hLQ_s_10 : LQ s_10 := by rw [e_s_10]; exact LQ.st1 (by decide) hLQ_s_6
          have hFS_s_10 : FS s_10 := by rw [e_s_10]; exact FS.st1 (by decide) hFS_s_6
          refine ok_ix ⟨by omega, by omega⟩ ?_
          have g_18 := gX_26 hB_s_10 (x1.toNatClampNeg)
          refine ok_lt fun v_11 e_v_11 => ?_
          have b_v_11 : (-1) ≤ v_11.toInt ∧ v_11.toInt ≤ 39 := by rw [e_v_11]; exact gX_26 hB_s_10 _
          have q_v_11 : v_11.toInt = (σ.1 26 (x1.toNatClampNeg)).toInt := by rw [e_v_11, hF_s_10.1 26 (by decide)]
          refine ok_cals (s_X2_add (x1 := (10 : Int32)) (x2 := v_11) (x3 := ((-1) : Int32)) (σ := s_10) hB_s_10 hLI_s_10 hLQ_s_10 (by omega) (by omega) (by omega) (fun h => by omega) ⟨fun h => by first | (exfalso; omega) | exact ⟨by omega, by omega⟩, fun h => by exfalso; omega⟩) (fun s_12 h_19 => ?_)
          obtain ⟨hB_s_12, hG_s_12, hLI_s_12, hLQ_s_12⟩ := h_19
          (try dsimp only at hB_s_12 hG_s_12 hLI_s_12 hLQ_s_12)
          have hF_s_12 : FR [68, 69, 70, 71, 72, 77] [] σ s_12 := FR.cal hF_s_10 hG_s_12 rfl rfl
          have w_s_12_77 : (s_12.1 77 0).toInt = (s_10.1 77 0).toInt := by rw [hG_s_12.1 77 (by decide)]
          have f_s_12_20 : (s_12.1 20 0).toInt = (σ.1 20 0).toInt := by rw [hF_s_12.1 20 (by decide)]
          have f_s_12_52 : (s_12.1 52 0).toInt = (σ.1 52 0).toInt := by rw [hF_s_12.1 52 (by decide)]
          have hFS_s_12 : FS s_12 := FS.fr hG_s_12 (by decide) hFS_s_10
          exact ok_ret ⟨hB_s_12, hF_s_12, hLI_s_12, hLQ_s_12⟩
      · rw [fa_le] at c_15
        refine ok_cals (s_X2_add (x1 := (0 : Int32)) (x2 := x1) (x3 := x3_6) (σ := s_6) hB_s_6 hLI_s_6 hLQ_s_6 (by omega) (by omega) (by omega) (fun h => by omega) ⟨fun h => by first | (exfalso; omega) | exact ⟨by omega, by omega⟩, fun h => by exfalso; omega⟩) (fun s_13 h_20 => ?_)
        obtain ⟨hB_s_13, hG_s_13, hLI_s_13, hLQ_s_13⟩ := h_20
        (try dsimp only at hB_s_13 hG_s_13 hLI_s_13 hLQ_s_13)
        have hF_s_13 : FR [68, 69, 70, 71, 72, 77] [] σ s_13 := FR.cal hF_s_6 hG_s_13 rfl rfl
        have w_s_13_77 : (s_13.1 77 0).toInt = (s_6.1 77 0).toInt := by rw [hG_s_13.1 77 (by decide)]
        have f_s_13_20 : (s_13.1 20 0).toInt = (σ.1 20 0).toInt := by rw [hF_s_13.1 20 (by decide)]
        have f_s_13_52 : (s_13.1 52 0).toInt = (σ.1 52 0).toInt := by rw [hF_s_13.1 52 (by decide)]
        have hFS_s_13 : FS s_13 := FS.fr hG_s_13 (by decide) hFS_s_6
        obtain ⟨t_21, ht_21, g_21⟩ : ∃ t : Int, (x3_6 + 1).toInt = t ∧ t = x3_6.toInt + (1 : Int32).toInt := ⟨_, rfl, by have h9 := fb_addI (x := x3_6) (y := (1 : Int32)) (by omega) (by omega); exact h9⟩
        refine ok_lt fun x3_14 e_x3_14 => ?_
        have q_x3_14 : x3_14.toInt = t_21 := by rw [e_x3_14]; exact ht_21
        exact ih_a_48 _ x3_14 s_13 (by rw [hn_a_48]; omega) ⟨rfl, (by omega), hB_s_13, hF_s_13, hLI_s_13, hLQ_s_13, hFS_s_13⟩
    · intro k_38 hk_k_38
      refine ok_ite (fun c_22 => ?_) (fun c_22 => ?_)
      · rw [fa_eq] at c_22
        exfalso; omega
      · rw [fa_eq] at c_22
        refine ok_cals (s_X2_openLine (x1 := (9 : Int32)) (x2 := x1) (σ := s_1) hB_s_1 hLI_s_1 hLQ_s_1 (by omega) (by omega) (fun h => by exfalso; omega)) (fun s_16 h_23 => ?_)
        obtain ⟨hB_s_16, hG_s_16, hLI_s_16, hLQ_s_16⟩ := h_23
        (try dsimp only at hB_s_16 hG_s_16 hLI_s_16 hLQ_s_16)
        have hF_s_16 : FR [68, 69, 70, 71, 72, 77] [] σ s_16 := FR.cal hF_s_1 hG_s_16 rfl rfl
        have f_s_16_20 : (s_16.1 20 0).toInt = (σ.1 20 0).toInt := by rw [hF_s_16.1 20 (by decide)]
        have f_s_16_52 : (s_16.1 52 0).toInt = (σ.1 52 0).toInt := by rw [hF_s_16.1 52 (by decide)]
        have hFS_s_16 : FS s_16 := FS.fr hG_s_16 (by decide) hFS_s_1
        exact hk_k_38 s_16 ⟨trivial, hB_s_16, hF_s_16, hLI_s_16, hLQ_s_16, hFS_s_16⟩

set_option maxHeartbeats 4000000 in
theorem s_X2_closeLine {x1 : Int32} {σ : Sto} (hB : BX σ) (hLI : LI σ) (hLQ : LQ σ) (p_x1 : 0 ≤ x1.toInt ∧ x1.toInt ≤ 39) : OK (f_X2_closeLine x1 σ) (fun s => BX s ∧ FR [68, 69, 70, 71, 72, 77] [] σ s ∧ LI s ∧ LQ s) := by
  unfold f_X2_closeLine
  have hF : FR [68, 69, 70, 71, 72, 77] [] σ σ := FR.rf
  have k_m1 : ((-1) : Int32).toInt = -1 := by decide +kernel
  have k_1 : (1 : Int32).toInt = 1 := by decide +kernel
  have k_5 : (5 : Int32).toInt = 5 := by decide +kernel
  obtain ⟨t_1, ht_1, g_1⟩ : ∃ t : Int, ((σ.1 77 0) - 1).toInt = t ∧ -2147483648 ≤ t ∧ t ≤ 2147483647 := ⟨_, rfl, tI_rng _⟩
  refine ok_lt fun s_1 e_s_1 => ?_
  have hB_s_1 : BX s_1 := by rw [e_s_1]; exact pX_77 hB (tI_rng _)
  have hF_s_1 : FR [68, 69, 70, 71, 72, 77] [] σ s_1 := by rw [e_s_1]; exact FR.st hF (by decide)
  have w_s_1_77 : (s_1.1 77 0).toInt = t_1 := by rw [e_s_1, sti_s, ht_1]
  have hLI_s_1 : LI s_1 := by rw [e_s_1]; exact LI.st1 (by decide) hLI
  have hLQ_s_1 : LQ s_1 := by rw [e_s_1]; exact LQ.st1 (by decide) hLQ
  refine ok_cals (s_X2_add (x1 := (5 : Int32)) (x2 := x1) (x3 := ((-1) : Int32)) (σ := s_1) hB_s_1 hLI_s_1 hLQ_s_1 (by omega) (by omega) (by omega) (fun h => by omega) ⟨fun h => by exfalso; omega, fun h => by exfalso; omega⟩) (fun s_2 h_2 => ?_)
  obtain ⟨hB_s_2, hG_s_2, hLI_s_2, hLQ_s_2⟩ := h_2
  (try dsimp only at hB_s_2 hG_s_2 hLI_s_2 hLQ_s_2)
  have hF_s_2 : FR [68, 69, 70, 71, 72, 77] [] σ s_2 := FR.cal hF_s_1 hG_s_2 rfl rfl
  have w_s_2_77 : (s_2.1 77 0).toInt = (s_1.1 77 0).toInt := by rw [hG_s_2.1 77 (by decide)]
  exact ok_ret ⟨hB_s_2, hF_s_2, hLI_s_2, hLQ_s_2⟩

set_option maxHeartbeats 4000000 in
theorem s_X2_isMergeUnder {x1 : Int32} {x2 : Int32} {σ : Sto} (hB : BX σ) (p_x1 : 0 ≤ x1.toInt ∧ x1.toInt ≤ 39) (p_x2 : 0 ≤ x2.toInt ∧ x2.toInt ≤ 39) : OK (f_X2_isMergeUnder x1 x2 σ) (fun v => (0 ≤ v.toInt ∧ v.toInt ≤ 1) ∧ (v.toInt = 1 → bL (σ.2 4 0) x1.toNatClampNeg = true)) := by
  unfold f_X2_isMergeUnder
  have hF : FR [] [] σ σ := FR.rf
  have k_0 : (0 : Int32).toInt = 0 := by decide +kernel
  have k_1 : (1 : Int32).toInt = 1 := by decide +kernel
  refine ok_calp (s_X11_isIn (x1 := (σ.2 4 0)) (x2 := x1) ) (fun v_1 h_1 => ?_)
  obtain ⟨b_v_1, x_v_1⟩ := h_1
  (try dsimp only at b_v_1 x_v_1)
  refine ok_jn ?_
  refine ok_ite (fun c_2 => ?_) (fun c_2 => ?_)
  · rw [fa_eq] at c_2
    exact ok_ret ⟨(by (try dsimp only); omega), (fun h => by (try dsimp only at h); first | (exfalso; omega) | exact (x_v_1 (by omega) (by omega)).mp (by omega))⟩
  · rw [fa_eq] at c_2
    refine ok_ix ⟨by omega, by omega⟩ ?_
    have g_3 := gX_41 hB (x1.toNatClampNeg)
    refine ok_lt fun v_4 e_v_4 => ?_
    have b_v_4 : (-1) ≤ v_4.toInt ∧ v_4.toInt ≤ 39 := by rw [e_v_4]; exact gX_41 hB _
    refine ok_ite (fun c_4 => ?_) (fun c_4 => ?_)
    · rw [fa_eq] at c_4
      exact ok_ret ⟨(by (try dsimp only); omega), (fun h => by (try dsimp only at h); first | (exfalso; omega) | exact (x_v_1 (by omega) (by omega)).mp (by omega))⟩
    · rw [fa_eq] at c_4
      exact ok_ret ⟨(by (try dsimp only); omega), (fun h => by (try dsimp only at h); first | (exfalso; omega) | exact (x_v_1 (by omega) (by omega)).mp (by omega))⟩

set_option maxHeartbeats 4000000 in
theorem sg_X2_goOn : ∀ d : Nat, (∀ {x1 : Int32} {x2 : Int32} {x3 : Int32} {σ : Sto} (hB : BX σ) (hLI : LI σ) (hLQ : LQ σ) (hFE : FE σ) (hFS : FS σ) (hTS : TS σ) (hON : ON σ) (hMB : MB σ) (p_x1 : 0 ≤ x1.toInt ∧ x1.toInt ≤ 39) (p_x2 : (-1) ≤ x2.toInt ∧ x2.toInt ≤ 39) (p_x3 : 0 ≤ x3.toInt ∧ x3.toInt ≤ 60) (hnb : x1.toInt < (σ.1 20 0).toInt) (hgl : x2.toInt < (σ.1 20 0).toInt), (3 * (62 - x3.toInt) - 2).toNat ≤ d → OK (f_X2_goOn d x1 x2 x3 σ) (fun s => BX s ∧ FR [68, 69, 70, 71, 72, 77] [] σ s ∧ LI s ∧ LQ s)) ∧ (∀ {x1 : Int32} {x2 : Int32} {σ : Sto} (hB : BX σ) (hLI : LI σ) (hLQ : LQ σ) (hFE : FE σ) (hFS : FS σ) (hTS : TS σ) (hON : ON σ) (hMB : MB σ) (p_x1 : 0 ≤ x1.toInt ∧ x1.toInt ≤ 39) (p_x2 : 0 ≤ x2.toInt ∧ x2.toInt ≤ 60) (hnb : x1.toInt < (σ.1 20 0).toInt), (3 * (62 - x2.toInt) - 1).toNat ≤ d → OK (f_X2_tellEnd d x1 x2 σ) (fun s => BX s ∧ FR [68, 69, 70, 71, 72, 77] [] σ s ∧ LI s ∧ LQ s)) ∧ (∀ {x1 : Int32} {x2 : Int32} {σ : Sto} (hB : BX σ) (hLI : LI σ) (hLQ : LQ σ) (hFE : FE σ) (hFS : FS σ) (hTS : TS σ) (hON : ON σ) (hMB : MB σ) (p_x1 : 0 ≤ x1.toInt ∧ x1.toInt ≤ 39) (p_x2 : 0 ≤ x2.toInt ∧ x2.toInt ≤ 61) (hnb : x1.toInt < (σ.1 20 0).toInt), (3 * (62 - x2.toInt)).toNat ≤ d → OK (f_X2_tell d x1 x2 σ) (fun s => BX s ∧ FR [68, 69, 70, 71, 72, 77] [] σ s ∧ LI s ∧ LQ s)) := by
  intro d
  induction d with
  | zero => exact ⟨by intro x1 x2 x3 σ hB hLI hLQ hFE hFS hTS hON hMB p_x1 p_x2 p_x3 hnb hgl hmu; omega, by intro x1 x2 σ hB hLI hLQ hFE hFS hTS hON hMB p_x1 p_x2 hnb hmu; omega, by intro x1 x2 σ hB hLI hLQ hFE hFS hTS hON hMB p_x1 p_x2 hnb hmu; omega⟩
  | succ d ih =>
  obtain ⟨ih_X2_goOn, ih_X2_tellEnd, ih_X2_tell⟩ := ih
  refine ⟨?_, ?_, ?_⟩
  · intro x1 x2 x3 σ hB hLI hLQ hFE hFS hTS hON hMB p_x1 p_x2 p_x3 hnb hgl hmu
    show OK (b_X2_goOn (f_X2_goOn d) (f_X2_tellEnd d) (f_X2_tell d) x1 x2 x3 σ) _
    unfold b_X2_goOn
    have hF : FR [68, 69, 70, 71, 72, 77] [] σ σ := FR.rf
    have k_m1 : ((-1) : Int32).toInt = -1 := by decide +kernel
    have k_0 : (0 : Int32).toInt = 0 := by decide +kernel
    have k_1 : (1 : Int32).toInt = 1 := by decide +kernel
    have k_6 : (6 : Int32).toInt = 6 := by decide +kernel
    have k_7 : (7 : Int32).toInt = 7 := by decide +kernel
    have k_8 : (8 : Int32).toInt = 8 := by decide +kernel
    refine ok_ite (fun c_1 => ?_) (fun c_1 => ?_)
    · rw [fa_eq] at c_1
      exact ok_ret ⟨hB, hF, hLI, hLQ⟩
    · rw [fa_eq] at c_1
      refine ok_calp (s_X0_edgeTo (x1 := x1) (x2 := x2) (σ := σ) hB (by omega) (by omega) (hFE x1.toNatClampNeg (by have := clamp_I (x := x1) (by omega); omega))) (fun v_2 h_2 => ?_)
      have b_v_2 := h_2
      (try dsimp only at b_v_2)
      refine ok_ix ⟨by omega, by omega⟩ ?_
      have g_3 := gX_37 hB (v_2.toNatClampNeg)
      refine ok_lt fun v_3 e_v_3 => ?_
      have b_v_3 : 0 ≤ v_3.toInt ∧ v_3.toInt ≤ 1 := by rw [e_v_3]; exact gX_37 hB _
      refine ok_ite (fun c_4 => ?_) (fun c_4 => ?_)
      · rw [fa_eq] at c_4
        refine ok_ix ⟨by omega, by omega⟩ ?_
        have g_5 := gX_38 hB (v_2.toNatClampNeg)
        refine ok_lt fun v_5 e_v_5 => ?_
        have b_v_5 : 0 ≤ v_5.toInt ∧ v_5.toInt ≤ 1 := by rw [e_v_5]; exact gX_38 hB _
        refine ok_ite (fun c_6 => ?_) (fun c_6 => ?_)
        · rw [fa_eq] at c_6
          refine ok_calp (s_X11_isIn (x1 := (σ.2 4 0)) (x2 := x2) ) (fun v_7 h_7 => ?_)
          obtain ⟨b_v_7, x_v_7⟩ := h_7
          (try dsimp only at b_v_7 x_v_7)
          refine ok_ite (fun c_8 => ?_) (fun c_8 => ?_)
          · rw [fa_eq] at c_8
            obtain ⟨t_9, ht_9, g_9⟩ : ∃ t : Int, (x3 + 1).toInt = t ∧ t = x3.toInt + (1 : Int32).toInt := ⟨_, rfl, by have h9 := fb_addI (x := x3) (y := (1 : Int32)) (by omega) (by omega); exact h9⟩
            refine ok_cals (ih_X2_tell (x1 := x2) (x2 := (x3 + 1)) (σ := σ) hB hLI hLQ hFE hFS hTS hON hMB (by omega) (by rw [ht_9]; omega) (by omega) (by rw [ht_9]; omega)) (fun s_9 h_10 => ?_)
            obtain ⟨hB_s_9, hG_s_9, hLI_s_9, hLQ_s_9⟩ := h_10
            (try dsimp only at hB_s_9 hG_s_9 hLI_s_9 hLQ_s_9)
            have hF_s_9 : FR [68, 69, 70, 71, 72, 77] [] σ s_9 := FR.cal hF hG_s_9 rfl rfl
            have f_s_9_20 : (s_9.1 20 0).toInt = (σ.1 20 0).toInt := by rw [hF_s_9.1 20 (by decide)]
            have f_s_9_46 : (s_9.1 46 0).toInt = (σ.1 46 0).toInt := by rw [hF_s_9.1 46 (by decide)]
            have hFE_s_9 : FE s_9 := FE.fr hG_s_9 (by decide) hFE
            have hFS_s_9 : FS s_9 := FS.fr hG_s_9 (by decide) hFS
            have hTS_s_9 : TS s_9 := TS.fr hG_s_9 (by decide) hTS
            have hON_s_9 : ON s_9 := ON.fr hG_s_9 (by decide) hON
            have hMB_s_9 : MB s_9 := MB.fr hG_s_9 (by decide) hMB
            exact ok_ret ⟨hB_s_9, hF_s_9, hLI_s_9, hLQ_s_9⟩
          · rw [fa_eq] at c_8
            refine ok_cals (s_X2_add (x1 := (6 : Int32)) (x2 := x2) (x3 := ((-1) : Int32)) (σ := σ) hB hLI hLQ (by omega) (by omega) (by omega) (fun h => by omega) ⟨fun h => by exfalso; omega, fun h => by exfalso; omega⟩) (fun s_10 h_11 => ?_)
            obtain ⟨hB_s_10, hG_s_10, hLI_s_10, hLQ_s_10⟩ := h_11
            (try dsimp only at hB_s_10 hG_s_10 hLI_s_10 hLQ_s_10)
            have hF_s_10 : FR [68, 69, 70, 71, 72, 77] [] σ s_10 := FR.cal hF hG_s_10 rfl rfl
            have f_s_10_20 : (s_10.1 20 0).toInt = (σ.1 20 0).toInt := by rw [hF_s_10.1 20 (by decide)]
            have f_s_10_46 : (s_10.1 46 0).toInt = (σ.1 46 0).toInt := by rw [hF_s_10.1 46 (by decide)]
            have hFE_s_10 : FE s_10 := FE.fr hG_s_10 (by decide) hFE
            have hFS_s_10 : FS s_10 := FS.fr hG_s_10 (by decide) hFS
            have hTS_s_10 : TS s_10 := TS.fr hG_s_10 (by decide) hTS
            have hON_s_10 : ON s_10 := ON.fr hG_s_10 (by decide) hON
            have hMB_s_10 : MB s_10 := MB.fr hG_s_10 (by decide) hMB
            exact ok_ret ⟨hB_s_10, hF_s_10, hLI_s_10, hLQ_s_10⟩
        · rw [fa_eq] at c_6
          refine ok_cals (s_X2_add (x1 := (7 : Int32)) (x2 := x2) (x3 := ((-1) : Int32)) (σ := σ) hB hLI hLQ (by omega) (by omega) (by omega) (fun h => by omega) ⟨fun h => by exfalso; omega, fun h => by exfalso; omega⟩) (fun s_11 h_12 => ?_)
          obtain ⟨hB_s_11, hG_s_11, hLI_s_11, hLQ_s_11⟩ := h_12
          (try dsimp only at hB_s_11 hG_s_11 hLI_s_11 hLQ_s_11)
          have hF_s_11 : FR [68, 69, 70, 71, 72, 77] [] σ s_11 := FR.cal hF hG_s_11 rfl rfl
          have f_s_11_20 : (s_11.1 20 0).toInt = (σ.1 20 0).toInt := by rw [hF_s_11.1 20 (by decide)]
          have f_s_11_46 : (s_11.1 46 0).toInt = (σ.1 46 0).toInt := by rw [hF_s_11.1 46 (by decide)]
          have hFE_s_11 : FE s_11 := FE.fr hG_s_11 (by decide) hFE
          have hFS_s_11 : FS s_11 := FS.fr hG_s_11 (by decide) hFS
          have hTS_s_11 : TS s_11 := TS.fr hG_s_11 (by decide) hTS
          have hON_s_11 : ON s_11 := ON.fr hG_s_11 (by decide) hON
          have hMB_s_11 : MB s_11 := MB.fr hG_s_11 (by decide) hMB
          exact ok_ret ⟨hB_s_11, hF_s_11, hLI_s_11, hLQ_s_11⟩
      · rw [fa_eq] at c_4
        refine ok_cals (s_X2_add (x1 := (8 : Int32)) (x2 := x2) (x3 := ((-1) : Int32)) (σ := σ) hB hLI hLQ (by omega) (by omega) (by omega) (fun h => by omega) ⟨fun h => by exfalso; omega, fun h => by exfalso; omega⟩) (fun s_12 h_13 => ?_)
        obtain ⟨hB_s_12, hG_s_12, hLI_s_12, hLQ_s_12⟩ := h_13
        (try dsimp only at hB_s_12 hG_s_12 hLI_s_12 hLQ_s_12)
        have hF_s_12 : FR [68, 69, 70, 71, 72, 77] [] σ s_12 := FR.cal hF hG_s_12 rfl rfl
        have f_s_12_20 : (s_12.1 20 0).toInt = (σ.1 20 0).toInt := by rw [hF_s_12.1 20 (by decide)]
        have f_s_12_46 : (s_12.1 46 0).toInt = (σ.1 46 0).toInt := by rw [hF_s_12.1 46 (by decide)]
        have hFE_s_12 : FE s_12 := FE.fr hG_s_12 (by decide) hFE
        have hFS_s_12 : FS s_12 := FS.fr hG_s_12 (by decide) hFS
        have hTS_s_12 : TS s_12 := TS.fr hG_s_12 (by decide) hTS
        have hON_s_12 : ON s_12 := ON.fr hG_s_12 (by decide) hON
        have hMB_s_12 : MB s_12 := MB.fr hG_s_12 (by decide) hMB
        exact ok_ret ⟨hB_s_12, hF_s_12, hLI_s_12, hLQ_s_12⟩
  · intro x1 x2 σ hB hLI hLQ hFE hFS hTS hON hMB p_x1 p_x2 hnb hmu
    show OK (b_X2_tellEnd (f_X2_goOn d) (f_X2_tellEnd d) (f_X2_tell d) x1 x2 σ) _
    unfold b_X2_tellEnd
    have hF : FR [68, 69, 70, 71, 72, 77] [] σ σ := FR.rf
    have k_m1 : ((-1) : Int32).toInt = -1 := by decide +kernel
    have k_1 : (1 : Int32).toInt = 1 := by decide +kernel
    have k_3 : (3 : Int32).toInt = 3 := by decide +kernel
    have k_4 : (4 : Int32).toInt = 4 := by decide +kernel
    refine ok_ix ⟨by omega, by omega⟩ ?_
    have g_1 := gX_25 hB (x1.toNatClampNeg)
    refine ok_lt fun v_1 e_v_1 => ?_
    have b_v_1 : (-1) ≤ v_1.toInt ∧ v_1.toInt ≤ 39 := by rw [e_v_1]; exact gX_25 hB _
    have on1 := hON x1.toNatClampNeg (by have := clamp_I (x := x1) (by omega); omega)
    have z1 : v_1.toInt = (σ.1 25 x1.toNatClampNeg).toInt := by rw [e_v_1]
    refine ok_ite (fun c_2 => ?_) (fun c_2 => ?_)
    · rw [fa_eq] at c_2
      refine ok_ix ⟨by omega, by omega⟩ ?_
      have g_3 := gX_24 hB (x1.toNatClampNeg)
      refine ok_lt fun v_3 e_v_3 => ?_
      have b_v_3 : (-1) ≤ v_3.toInt ∧ v_3.toInt ≤ 39 := by rw [e_v_3]; exact gX_24 hB _
      have q_v_3 : v_3.toInt = (σ.1 24 x1.toNatClampNeg).toInt := by rw [e_v_3]
      have z3 : v_3.toInt = (σ.1 24 x1.toNatClampNeg).toInt := by rw [e_v_3]
      refine ok_cals (ih_X2_goOn (x1 := x1) (x2 := v_3) (x3 := x2) (σ := σ) hB hLI hLQ hFE hFS hTS hON hMB (by omega) (by omega) (by omega) (by omega) (by omega) (by omega)) (fun s_4 h_4 => ?_)
      obtain ⟨hB_s_4, hG_s_4, hLI_s_4, hLQ_s_4⟩ := h_4
      (try dsimp only at hB_s_4 hG_s_4 hLI_s_4 hLQ_s_4)
      have hF_s_4 : FR [68, 69, 70, 71, 72, 77] [] σ s_4 := FR.cal hF hG_s_4 rfl rfl
      have f_s_4_20 : (s_4.1 20 0).toInt = (σ.1 20 0).toInt := by rw [hF_s_4.1 20 (by decide)]
      have f_s_4_46 : (s_4.1 46 0).toInt = (σ.1 46 0).toInt := by rw [hF_s_4.1 46 (by decide)]
      have hFE_s_4 : FE s_4 := FE.fr hG_s_4 (by decide) hFE
      have hFS_s_4 : FS s_4 := FS.fr hG_s_4 (by decide) hFS
      have hTS_s_4 : TS s_4 := TS.fr hG_s_4 (by decide) hTS
      have hON_s_4 : ON s_4 := ON.fr hG_s_4 (by decide) hON
      have hMB_s_4 : MB s_4 := MB.fr hG_s_4 (by decide) hMB
      exact ok_ret ⟨hB_s_4, hF_s_4, hLI_s_4, hLQ_s_4⟩
    · rw [fa_eq] at c_2
      refine ok_cals (s_X2_openLine (x1 := (3 : Int32)) (x2 := x1) (σ := σ) hB hLI hLQ (by omega) (by omega) (fun h => by first | exact hTS x1.toNatClampNeg (by have := clamp_I (x := x1) (by omega); omega) | (exfalso; omega))) (fun s_5 h_5 => ?_)
      obtain ⟨hB_s_5, hG_s_5, hLI_s_5, hLQ_s_5⟩ := h_5
      (try dsimp only at hB_s_5 hG_s_5 hLI_s_5 hLQ_s_5)
      have hF_s_5 : FR [68, 69, 70, 71, 72, 77] [] σ s_5 := FR.cal hF hG_s_5 rfl rfl
      have f_s_5_20 : (s_5.1 20 0).toInt = (σ.1 20 0).toInt := by rw [hF_s_5.1 20 (by decide)]
      have f_s_5_46 : (s_5.1 46 0).toInt = (σ.1 46 0).toInt := by rw [hF_s_5.1 46 (by decide)]
      have hFE_s_5 : FE s_5 := FE.fr hG_s_5 (by decide) hFE
      have hFS_s_5 : FS s_5 := FS.fr hG_s_5 (by decide) hFS
      have hTS_s_5 : TS s_5 := TS.fr hG_s_5 (by decide) hTS
      have hON_s_5 : ON s_5 := ON.fr hG_s_5 (by decide) hON
      have hMB_s_5 : MB s_5 := MB.fr hG_s_5 (by decide) hMB
      refine ok_ix ⟨by omega, by omega⟩ ?_
      have g_6 := gX_24 hB_s_5 (x1.toNatClampNeg)
      refine ok_lt fun v_6 e_v_6 => ?_
      have b_v_6 : (-1) ≤ v_6.toInt ∧ v_6.toInt ≤ 39 := by rw [e_v_6]; exact gX_24 hB_s_5 _
      have q_v_6 : v_6.toInt = (σ.1 24 (x1.toNatClampNeg)).toInt := by rw [e_v_6, hF_s_5.1 24 (by decide)]
      have z6 : v_6.toInt = (σ.1 24 x1.toNatClampNeg).toInt := by rw [e_v_6, hF_s_5.1 24 (by decide)]
      refine ok_cals (ih_X2_goOn (x1 := x1) (x2 := v_6) (x3 := x2) (σ := s_5) hB_s_5 hLI_s_5 hLQ_s_5 hFE_s_5 hFS_s_5 hTS_s_5 hON_s_5 hMB_s_5 (by omega) (by omega) (by omega) (by omega) (by omega) (by omega)) (fun s_7 h_7 => ?_)
      obtain ⟨hB_s_7, hG_s_7, hLI_s_7, hLQ_s_7⟩ := h_7
      (try dsimp only at hB_s_7 hG_s_7 hLI_s_7 hLQ_s_7)
      have hF_s_7 : FR [68, 69, 70, 71, 72, 77] [] σ s_7 := FR.cal hF_s_5 hG_s_7 rfl rfl
      have f_s_7_20 : (s_7.1 20 0).toInt = (σ.1 20 0).toInt := by rw [hF_s_7.1 20 (by decide)]
      have f_s_7_46 : (s_7.1 46 0).toInt = (σ.1 46 0).toInt := by rw [hF_s_7.1 46 (by decide)]
      have hFE_s_7 : FE s_7 := FE.fr hG_s_7 (by decide) hFE_s_5
      have hFS_s_7 : FS s_7 := FS.fr hG_s_7 (by decide) hFS_s_5
      have hTS_s_7 : TS s_7 := TS.fr hG_s_7 (by decide) hTS_s_5
      have hON_s_7 : ON s_7 := ON.fr hG_s_7 (by decide) hON_s_5
      have hMB_s_7 : MB s_7 := MB.fr hG_s_7 (by decide) hMB_s_5
      obtain ⟨t_8, ht_8, g_8⟩ : ∃ t : Int, ((s_7.1 77 0) - 1).toInt = t ∧ -2147483648 ≤ t ∧ t ≤ 2147483647 := ⟨_, rfl, tI_rng _⟩
      refine ok_lt fun s_8 e_s_8 => ?_
      have hB_s_8 : BX s_8 := by rw [e_s_8]; exact pX_77 hB_s_7 (tI_rng _)
      have hF_s_8 : FR [68, 69, 70, 71, 72, 77] [] σ s_8 := by rw [e_s_8]; exact FR.st hF_s_7 (by decide)
      have w_s_8_77 : (s_8.1 77 0).toInt = t_8 := by rw [e_s_8, sti_s, ht_8]
      have f_s_8_20 : (s_8.1 20 0).toInt = (σ.1 20 0).toInt := by rw [hF_s_8.1 20 (by decide)]
      have f_s_8_46 : (s_8.1 46 0).toInt = (σ.1 46 0).toInt := by rw [hF_s_8.1 46 (by decide)]
      have hLI_s_8 : LI s_8 := by rw [e_s_8]; exact LI.st1 (by decide) hLI_s_7
      have hLQ_s_8 : LQ s_8 := by rw [e_s_8]; exact LQ.st1 (by decide) hLQ_s_7
      have hFE_s_8 : FE s_8 := by rw [e_s_8]; exact FE.st1 (by decide) hFE_s_7
      have hFS_s_8 : FS s_8 := by rw [e_s_8]; exact FS.st1 (by decide) hFS_s_7
      have hTS_s_8 : TS s_8 := by rw [e_s_8]; exact TS.st1 (by decide) hTS_s_7
      have hON_s_8 : ON s_8 := by rw [e_s_8]; exact ON.st1 (by decide) hON_s_7
      have hMB_s_8 : MB s_8 := by rw [e_s_8]; exact MB.st1 (by decide) hMB_s_7
      refine ok_cals (s_X2_openLine (x1 := (4 : Int32)) (x2 := x1) (σ := s_8) hB_s_8 hLI_s_8 hLQ_s_8 (by omega) (by omega) (fun h => by first | exact hTS x1.toNatClampNeg (by have := clamp_I (x := x1) (by omega); omega) | (exfalso; omega))) (fun s_9 h_9 => ?_)
      obtain ⟨hB_s_9, hG_s_9, hLI_s_9, hLQ_s_9⟩ := h_9
      (try dsimp only at hB_s_9 hG_s_9 hLI_s_9 hLQ_s_9)
      have hF_s_9 : FR [68, 69, 70, 71, 72, 77] [] σ s_9 := FR.cal hF_s_8 hG_s_9 rfl rfl
      have f_s_9_20 : (s_9.1 20 0).toInt = (σ.1 20 0).toInt := by rw [hF_s_9.1 20 (by decide)]
      have f_s_9_46 : (s_9.1 46 0).toInt = (σ.1 46 0).toInt := by rw [hF_s_9.1 46 (by decide)]
      have hFE_s_9 : FE s_9 := FE.fr hG_s_9 (by decide) hFE_s_8
      have hFS_s_9 : FS s_9 := FS.fr hG_s_9 (by decide) hFS_s_8
      have hTS_s_9 : TS s_9 := TS.fr hG_s_9 (by decide) hTS_s_8
      have hON_s_9 : ON s_9 := ON.fr hG_s_9 (by decide) hON_s_8
      have hMB_s_9 : MB s_9 := MB.fr hG_s_9 (by decide) hMB_s_8
      refine ok_cals (ih_X2_goOn (x1 := x1) (x2 := v_1) (x3 := x2) (σ := s_9) hB_s_9 hLI_s_9 hLQ_s_9 hFE_s_9 hFS_s_9 hTS_s_9 hON_s_9 hMB_s_9 (by omega) (by omega) (by omega) (by omega) (by omega) (by omega)) (fun s_10 h_10 => ?_)
      obtain ⟨hB_s_10, hG_s_10, hLI_s_10, hLQ_s_10⟩ := h_10
      (try dsimp only at hB_s_10 hG_s_10 hLI_s_10 hLQ_s_10)
      have hF_s_10 : FR [68, 69, 70, 71, 72, 77] [] σ s_10 := FR.cal hF_s_9 hG_s_10 rfl rfl
      have f_s_10_20 : (s_10.1 20 0).toInt = (σ.1 20 0).toInt := by rw [hF_s_10.1 20 (by decide)]
      have f_s_10_46 : (s_10.1 46 0).toInt = (σ.1 46 0).toInt := by rw [hF_s_10.1 46 (by decide)]
      have hFE_s_10 : FE s_10 := FE.fr hG_s_10 (by decide) hFE_s_9
      have hFS_s_10 : FS s_10 := FS.fr hG_s_10 (by decide) hFS_s_9
      have hTS_s_10 : TS s_10 := TS.fr hG_s_10 (by decide) hTS_s_9
      have hON_s_10 : ON s_10 := ON.fr hG_s_10 (by decide) hON_s_9
      have hMB_s_10 : MB s_10 := MB.fr hG_s_10 (by decide) hMB_s_9
      refine ok_cals (s_X2_closeLine (x1 := x1) (σ := s_10) hB_s_10 hLI_s_10 hLQ_s_10 (by omega)) (fun s_11 h_11 => ?_)
      obtain ⟨hB_s_11, hG_s_11, hLI_s_11, hLQ_s_11⟩ := h_11
      (try dsimp only at hB_s_11 hG_s_11 hLI_s_11 hLQ_s_11)
      have hF_s_11 : FR [68, 69, 70, 71, 72, 77] [] σ s_11 := FR.cal hF_s_10 hG_s_11 rfl rfl
      have f_s_11_20 : (s_11.1 20 0).toInt = (σ.1 20 0).toInt := by rw [hF_s_11.1 20 (by decide)]
      have f_s_11_46 : (s_11.1 46 0).toInt = (σ.1 46 0).toInt := by rw [hF_s_11.1 46 (by decide)]
      have hFE_s_11 : FE s_11 := FE.fr hG_s_11 (by decide) hFE_s_10
      have hFS_s_11 : FS s_11 := FS.fr hG_s_11 (by decide) hFS_s_10
      have hTS_s_11 : TS s_11 := TS.fr hG_s_11 (by decide) hTS_s_10
      have hON_s_11 : ON s_11 := ON.fr hG_s_11 (by decide) hON_s_10
      have hMB_s_11 : MB s_11 := MB.fr hG_s_11 (by decide) hMB_s_10
      exact ok_ret ⟨hB_s_11, hF_s_11, hLI_s_11, hLQ_s_11⟩
  · intro x1 x2 σ hB hLI hLQ hFE hFS hTS hON hMB p_x1 p_x2 hnb hmu
    show OK (b_X2_tell (f_X2_goOn d) (f_X2_tellEnd d) (f_X2_tell d) x1 x2 σ) _
    unfold b_X2_tell
    have hF : FR [68, 69, 70, 71, 72, 77] [] σ σ := FR.rf
    have k_m1 : ((-1) : Int32).toInt = -1 := by decide +kernel
    have k_0 : (0 : Int32).toInt = 0 := by decide +kernel
    have k_1 : (1 : Int32).toInt = 1 := by decide +kernel
    have k_2 : (2 : Int32).toInt = 2 := by decide +kernel
    have k_60 : (60 : Int32).toInt = 60 := by decide +kernel
    refine ok_ite (fun c_1 => ?_) (fun c_1 => ?_)
    · rw [fa_le] at c_1
      refine ok_calp (s_X11_isIn (x1 := (σ.2 2 0)) (x2 := x1) ) (fun v_2 h_2 => ?_)
      obtain ⟨b_v_2, x_v_2⟩ := h_2
      (try dsimp only at b_v_2 x_v_2)
      refine ok_jnI1 (fun (s_3 : Sto) => True ∧ (BX s_3) ∧ (FR [68, 69, 70, 71, 72, 77] [] σ s_3) ∧ (LI s_3) ∧ (LQ s_3) ∧ (FE s_3) ∧ (FS s_3) ∧ (TS s_3) ∧ (ON s_3) ∧ (MB s_3)) ?_ ?_
      · intro s_3 hJ
        obtain ⟨-, hB_s_3, hF_s_3, hLI_s_3, hLQ_s_3, hFE_s_3, hFS_s_3, hTS_s_3, hON_s_3, hMB_s_3⟩ := hJ
        have f_s_3_20 : (s_3.1 20 0).toInt = (σ.1 20 0).toInt := by rw [hF_s_3.1 20 (by decide)]
        have f_s_3_46 : (s_3.1 46 0).toInt = (σ.1 46 0).toInt := by rw [hF_s_3.1 46 (by decide)]
        have g_3 := gX_20 hB_s_3 0
        have g_4 : (s_3.1 20 0).toInt = (σ.1 20 0).toInt := by rw [hF_s_3.1 20 (by decide)]
        have g_5 := gX_20 hB 0
        obtain ⟨t_6, ht_6, g_6⟩ : ∃ t : Int, ((s_3.1 20 0) - 1).toInt = t ∧ t = (s_3.1 20 0).toInt - (1 : Int32).toInt := ⟨_, rfl, by have h9 := fb_subI (x := (s_3.1 20 0)) (y := (1 : Int32)) (by omega) (by omega); exact h9⟩
        refine ok_lt fun x4_4 e_x4_4 => ?_
        have q_x4_4 : x4_4.toInt = t_6 := by rw [e_x4_4]; exact ht_6
        refine ok_itr2 (fun (n : Nat) (x4_5 : Int32) (s_5 : Sto) => n = (x4_5.toInt - (-2)).toNat ∧ ((-1) ≤ x4_5.toInt ∧ x4_5.toInt ≤ 39) ∧ (BX s_5) ∧ (FR [68, 69, 70, 71, 72, 77] [] σ s_5) ∧ (LI s_5) ∧ (LQ s_5) ∧ (FE s_5) ∧ (FS s_5) ∧ (TS s_5) ∧ (ON s_5) ∧ (MB s_5)) ?_ (n := _) ⟨rfl, (by omega), hB_s_3, hF_s_3, hLI_s_3, hLQ_s_3, hFE_s_3, hFS_s_3, hTS_s_3, hON_s_3, hMB_s_3⟩ (show _ < 10000000 by omega)
        intro a_40 n x4_5 s_5 hI ih_a_40
        obtain ⟨hn_a_40, b_x4_5, hB_s_5, hF_s_5, hLI_s_5, hLQ_s_5, hFE_s_5, hFS_s_5, hTS_s_5, hON_s_5, hMB_s_5⟩ := hI
        have f_s_5_20 : (s_5.1 20 0).toInt = (σ.1 20 0).toInt := by rw [hF_s_5.1 20 (by decide)]
        have f_s_5_46 : (s_5.1 46 0).toInt = (σ.1 46 0).toInt := by rw [hF_s_5.1 46 (by decide)]
        refine ok_ite (fun c_7 => ?_) (fun c_7 => ?_)
        · rw [fa_lt] at c_7
          refine ok_cals (s_X2_tellStatements (x1 := x1) (σ := s_5) hB_s_5 hLI_s_5 hLQ_s_5 hFS_s_5 (by omega) (by omega)) (fun s_7 h_8 => ?_)
          obtain ⟨hB_s_7, hG_s_7, hLI_s_7, hLQ_s_7⟩ := h_8
          (try dsimp only at hB_s_7 hG_s_7 hLI_s_7 hLQ_s_7)
          have hF_s_7 : FR [68, 69, 70, 71, 72, 77] [] σ s_7 := FR.cal hF_s_5 hG_s_7 rfl rfl
          have f_s_7_20 : (s_7.1 20 0).toInt = (σ.1 20 0).toInt := by rw [hF_s_7.1 20 (by decide)]
          have f_s_7_46 : (s_7.1 46 0).toInt = (σ.1 46 0).toInt := by rw [hF_s_7.1 46 (by decide)]
          have hFE_s_7 : FE s_7 := FE.fr hG_s_7 (by decide) hFE_s_5
          have hFS_s_7 : FS s_7 := FS.fr hG_s_7 (by decide) hFS_s_5
          have hTS_s_7 : TS s_7 := TS.fr hG_s_7 (by decide) hTS_s_5
          have hON_s_7 : ON s_7 := ON.fr hG_s_7 (by decide) hON_s_5
          have hMB_s_7 : MB s_7 := MB.fr hG_s_7 (by decide) hMB_s_5
          refine ok_cals (ih_X2_tellEnd (x1 := x1) (x2 := x2) (σ := s_7) hB_s_7 hLI_s_7 hLQ_s_7 hFE_s_7 hFS_s_7 hTS_s_7 hON_s_7 hMB_s_7 (by omega) (by omega) (by omega) (by omega)) (fun s_8 h_9 => ?_)
          obtain ⟨hB_s_8, hG_s_8, hLI_s_8, hLQ_s_8⟩ := h_9
          (try dsimp only at hB_s_8 hG_s_8 hLI_s_8 hLQ_s_8)
          have hF_s_8 : FR [68, 69, 70, 71, 72, 77] [] σ s_8 := FR.cal hF_s_7 hG_s_8 rfl rfl
          have f_s_8_20 : (s_8.1 20 0).toInt = (σ.1 20 0).toInt := by rw [hF_s_8.1 20 (by decide)]
          have f_s_8_46 : (s_8.1 46 0).toInt = (σ.1 46 0).toInt := by rw [hF_s_8.1 46 (by decide)]
          have hFE_s_8 : FE s_8 := FE.fr hG_s_8 (by decide) hFE_s_7
          have hFS_s_8 : FS s_8 := FS.fr hG_s_8 (by decide) hFS_s_7
          have hTS_s_8 : TS s_8 := TS.fr hG_s_8 (by decide) hTS_s_7
          have hON_s_8 : ON s_8 := ON.fr hG_s_8 (by decide) hON_s_7
          have hMB_s_8 : MB s_8 := MB.fr hG_s_8 (by decide) hMB_s_7
          refine ok_itr2 (fun (n : Nat) (x4_9 : Int32) (s_9 : Sto) => n = (41 - x4_9.toInt).toNat ∧ (0 ≤ x4_9.toInt ∧ x4_9.toInt ≤ 40) ∧ (BX s_9) ∧ (FR [68, 69, 70, 71, 72, 77] [] σ s_9) ∧ (LI s_9) ∧ (LQ s_9) ∧ (FE s_9) ∧ (FS s_9) ∧ (TS s_9) ∧ (ON s_9) ∧ (MB s_9)) ?_ (n := _) ⟨rfl, (by omega), hB_s_8, hF_s_8, hLI_s_8, hLQ_s_8, hFE_s_8, hFS_s_8, hTS_s_8, hON_s_8, hMB_s_8⟩ (show _ < 10000000 by omega)
          intro a_98 n x4_9 s_9 hI ih_a_98
          obtain ⟨hn_a_98, b_x4_9, hB_s_9, hF_s_9, hLI_s_9, hLQ_s_9, hFE_s_9, hFS_s_9, hTS_s_9, hON_s_9, hMB_s_9⟩ := hI
          have f_s_9_20 : (s_9.1 20 0).toInt = (σ.1 20 0).toInt := by rw [hF_s_9.1 20 (by decide)]
          have f_s_9_46 : (s_9.1 46 0).toInt = (σ.1 46 0).toInt := by rw [hF_s_9.1 46 (by decide)]
          have g_11 := gX_20 hB_s_9 0
          have g_12 : (s_9.1 20 0).toInt = (σ.1 20 0).toInt := by rw [hF_s_9.1 20 (by decide)]
          refine ok_ite (fun c_10 => ?_) (fun c_10 => ?_)
          · rw [fa_le] at c_10
            refine ok_ite (fun c_13 => ?_) (fun c_13 => ?_)
            · rw [fa_eq] at c_13
              exact ok_ret ⟨hB_s_9, hF_s_9, hLI_s_9, hLQ_s_9⟩
            · rw [fa_eq] at c_13
              refine ok_cals (s_X2_closeLine (x1 := x1) (σ := s_9) hB_s_9 hLI_s_9 hLQ_s_9 (by omega)) (fun s_12 h_14 => ?_)
              obtain ⟨hB_s_12, hG_s_12, hLI_s_12, hLQ_s_12⟩ := h_14
              (try dsimp only at hB_s_12 hG_s_12 hLI_s_12 hLQ_s_12)
              have hF_s_12 : FR [68, 69, 70, 71, 72, 77] [] σ s_12 := FR.cal hF_s_9 hG_s_12 rfl rfl
              have f_s_12_20 : (s_12.1 20 0).toInt = (σ.1 20 0).toInt := by rw [hF_s_12.1 20 (by decide)]
              have f_s_12_46 : (s_12.1 46 0).toInt = (σ.1 46 0).toInt := by rw [hF_s_12.1 46 (by decide)]
              have hFE_s_12 : FE s_12 := FE.fr hG_s_12 (by decide) hFE_s_9
              have hFS_s_12 : FS s_12 := FS.fr hG_s_12 (by decide) hFS_s_9
              have hTS_s_12 : TS s_12 := TS.fr hG_s_12 (by decide) hTS_s_9
              have hON_s_12 : ON s_12 := ON.fr hG_s_12 (by decide) hON_s_9
              have hMB_s_12 : MB s_12 := MB.fr hG_s_12 (by decide) hMB_s_9
              exact ok_ret ⟨hB_s_12, hF_s_12, hLI_s_12, hLQ_s_12⟩
          · rw [fa_le] at c_10
            refine ok_ix ⟨by omega, by omega⟩ ?_
            have g_15 := gX_39 hB_s_9 (x4_9.toNatClampNeg)
            refine ok_lt fun v_13 e_v_13 => ?_
            have b_v_13 : 0 ≤ v_13.toInt ∧ v_13.toInt ≤ 39 := by rw [e_v_13]; exact gX_39 hB_s_9 _
            have q_v_13 : v_13.toInt = (σ.1 39 (x4_9.toNatClampNeg)).toInt := by rw [e_v_13, hF_s_9.1 39 (by decide)]
            refine ok_calp (s_X2_isMergeUnder (x1 := v_13) (x2 := x1) (σ := s_9) hB_s_9 (by omega) (by omega)) (fun v_14 h_16 => ?_)
            obtain ⟨b_v_14, x_v_14⟩ := h_16
            (try dsimp only at b_v_14 x_v_14)
            refine ok_jnI1 (fun (s_15 : Sto) => True ∧ (BX s_15) ∧ (FR [68, 69, 70, 71, 72, 77] [] σ s_15) ∧ (LI s_15) ∧ (LQ s_15) ∧ (FE s_15) ∧ (FS s_15) ∧ (TS s_15) ∧ (ON s_15) ∧ (MB s_15)) ?_ ?_
            · intro s_15 hJ
              obtain ⟨-, hB_s_15, hF_s_15, hLI_s_15, hLQ_s_15, hFE_s_15, hFS_s_15, hTS_s_15, hON_s_15, hMB_s_15⟩ := hJ
              have f_s_15_20 : (s_15.1 20 0).toInt = (σ.1 20 0).toInt := by rw [hF_s_15.1 20 (by decide)]
              have f_s_15_46 : (s_15.1 46 0).toInt = (σ.1 46 0).toInt := by rw [hF_s_15.1 46 (by decide)]
              obtain ⟨t_17, ht_17, g_17⟩ : ∃ t : Int, (x4_9 + 1).toInt = t ∧ t = x4_9.toInt + (1 : Int32).toInt := ⟨_, rfl, by have h9 := fb_addI (x := x4_9) (y := (1 : Int32)) (by omega) (by omega); exact h9⟩
              refine ok_lt fun x4_16 e_x4_16 => ?_
              have q_x4_16 : x4_16.toInt = t_17 := by rw [e_x4_16]; exact ht_17
              exact ih_a_98 _ x4_16 s_15 (by rw [hn_a_98]; omega) ⟨rfl, (by omega), hB_s_15, hF_s_15, hLI_s_15, hLQ_s_15, hFE_s_15, hFS_s_15, hTS_s_15, hON_s_15, hMB_s_15⟩
            · intro k_159 hk_k_159
              refine ok_ite (fun c_18 => ?_) (fun c_18 => ?_)
              · rw [fa_eq] at c_18
                exact hk_k_159 s_9 ⟨trivial, hB_s_9, hF_s_9, hLI_s_9, hLQ_s_9, hFE_s_9, hFS_s_9, hTS_s_9, hON_s_9, hMB_s_9⟩
              · rw [fa_eq] at c_18
                refine ok_ix ⟨by omega, by omega⟩ ?_
                refine ok_lt fun v_18 e_v_18 => ?_
                have b_v_18 : 0 ≤ v_18.toInt ∧ v_18.toInt ≤ 39 := by rw [e_v_18]; exact gX_39 hB_s_9 _
                have q_v_18 : v_18.toInt = (σ.1 39 (x4_9.toNatClampNeg)).toInt := by rw [e_v_18, hF_s_9.1 39 (by decide)]
                refine ok_cals (s_X2_closeLine (x1 := v_18) (σ := s_9) hB_s_9 hLI_s_9 hLQ_s_9 (by omega)) (fun s_19 h_19 => ?_)
                obtain ⟨hB_s_19, hG_s_19, hLI_s_19, hLQ_s_19⟩ := h_19
                (try dsimp only at hB_s_19 hG_s_19 hLI_s_19 hLQ_s_19)
                have hF_s_19 : FR [68, 69, 70, 71, 72, 77] [] σ s_19 := FR.cal hF_s_9 hG_s_19 rfl rfl
                have f_s_19_20 : (s_19.1 20 0).toInt = (σ.1 20 0).toInt := by rw [hF_s_19.1 20 (by decide)]
                have f_s_19_46 : (s_19.1 46 0).toInt = (σ.1 46 0).toInt := by rw [hF_s_19.1 46 (by decide)]
                have hFE_s_19 : FE s_19 := FE.fr hG_s_19 (by decide) hFE_s_9
                have hFS_s_19 : FS s_19 := FS.fr hG_s_19 (by decide) hFS_s_9
                have hTS_s_19 : TS s_19 := TS.fr hG_s_19 (by decide) hTS_s_9
                have hON_s_19 : ON s_19 := ON.fr hG_s_19 (by decide) hON_s_9
                have hMB_s_19 : MB s_19 := MB.fr hG_s_19 (by decide) hMB_s_9
                refine ok_ix ⟨by omega, by omega⟩ ?_
                have g_20 := gX_39 hB_s_19 (x4_9.toNatClampNeg)
                refine ok_lt fun v_20 e_v_20 => ?_
                have b_v_20 : 0 ≤ v_20.toInt ∧ v_20.toInt ≤ 39 := by rw [e_v_20]; exact gX_39 hB_s_19 _
                have q_v_20 : v_20.toInt = (σ.1 39 (x4_9.toNatClampNeg)).toInt := by rw [e_v_20, hF_s_19.1 39 (by decide)]
                have y20 : v_20.toInt < (σ.1 20 0).toInt := by have e : v_20 = v_13 := (by rw [e_v_20, e_v_13, hG_s_19.1 39 (by decide)]); have q := hMB_s_9 v_20.toNatClampNeg (by rw [e]; exact x_v_14 (by omega)); rw [hF_s_9.1 20 (by decide)] at q; have := clamp_I (x := v_20) (by omega); omega
                obtain ⟨t_21, ht_21, g_21⟩ : ∃ t : Int, (x2 + 1).toInt = t ∧ t = x2.toInt + (1 : Int32).toInt := ⟨_, rfl, by have h9 := fb_addI (x := x2) (y := (1 : Int32)) (by omega) (by omega); exact h9⟩
                refine ok_cals (ih_X2_tell (x1 := v_20) (x2 := (x2 + 1)) (σ := s_19) hB_s_19 hLI_s_19 hLQ_s_19 hFE_s_19 hFS_s_19 hTS_s_19 hON_s_19 hMB_s_19 (by omega) (by rw [ht_21]; omega) (by omega) (by rw [ht_21]; omega)) (fun s_21 h_22 => ?_)
                obtain ⟨hB_s_21, hG_s_21, hLI_s_21, hLQ_s_21⟩ := h_22
                (try dsimp only at hB_s_21 hG_s_21 hLI_s_21 hLQ_s_21)
                have hF_s_21 : FR [68, 69, 70, 71, 72, 77] [] σ s_21 := FR.cal hF_s_19 hG_s_21 rfl rfl
                have f_s_21_20 : (s_21.1 20 0).toInt = (σ.1 20 0).toInt := by rw [hF_s_21.1 20 (by decide)]
                have f_s_21_46 : (s_21.1 46 0).toInt = (σ.1 46 0).toInt := by rw [hF_s_21.1 46 (by decide)]
                have hFE_s_21 : FE s_21 := FE.fr hG_s_21 (by decide) hFE_s_19
                have hFS_s_21 : FS s_21 := FS.fr hG_s_21 (by decide) hFS_s_19
                have hTS_s_21 : TS s_21 := TS.fr hG_s_21 (by decide) hTS_s_19
                have hON_s_21 : ON s_21 := ON.fr hG_s_21 (by decide) hON_s_19
                have hMB_s_21 : MB s_21 := MB.fr hG_s_21 (by decide) hMB_s_19
                exact hk_k_159 s_21 ⟨trivial, hB_s_21, hF_s_21, hLI_s_21, hLQ_s_21, hFE_s_21, hFS_s_21, hTS_s_21, hON_s_21, hMB_s_21⟩
        · rw [fa_lt] at c_7
          refine ok_ix ⟨by omega, by omega⟩ ?_
          have g_23 := gX_39 hB_s_5 (x4_5.toNatClampNeg)
          refine ok_lt fun v_22 e_v_22 => ?_
          have b_v_22 : 0 ≤ v_22.toInt ∧ v_22.toInt ≤ 39 := by rw [e_v_22]; exact gX_39 hB_s_5 _
          have q_v_22 : v_22.toInt = (σ.1 39 (x4_5.toNatClampNeg)).toInt := by rw [e_v_22, hF_s_5.1 39 (by decide)]
          refine ok_calp (s_X2_isMergeUnder (x1 := v_22) (x2 := x1) (σ := s_5) hB_s_5 (by omega) (by omega)) (fun v_23 h_24 => ?_)
          obtain ⟨b_v_23, x_v_23⟩ := h_24
          (try dsimp only at b_v_23 x_v_23)
          refine ok_jnI1 (fun (s_24 : Sto) => True ∧ (BX s_24) ∧ (FR [68, 69, 70, 71, 72, 77] [] σ s_24) ∧ (LI s_24) ∧ (LQ s_24) ∧ (FE s_24) ∧ (FS s_24) ∧ (TS s_24) ∧ (ON s_24) ∧ (MB s_24)) ?_ ?_
          · intro s_24 hJ
            obtain ⟨-, hB_s_24, hF_s_24, hLI_s_24, hLQ_s_24, hFE_s_24, hFS_s_24, hTS_s_24, hON_s_24, hMB_s_24⟩ := hJ
            have f_s_24_20 : (s_24.1 20 0).toInt = (σ.1 20 0).toInt := by rw [hF_s_24.1 20 (by decide)]
            have f_s_24_46 : (s_24.1 46 0).toInt = (σ.1 46 0).toInt := by rw [hF_s_24.1 46 (by decide)]
            obtain ⟨t_25, ht_25, g_25⟩ : ∃ t : Int, (x4_5 + (-1)).toInt = t ∧ t = x4_5.toInt + ((-1) : Int32).toInt := ⟨_, rfl, by have h9 := fb_addI (x := x4_5) (y := ((-1) : Int32)) (by omega) (by omega); exact h9⟩
            refine ok_lt fun x4_25 e_x4_25 => ?_
            have q_x4_25 : x4_25.toInt = t_25 := by rw [e_x4_25]; exact ht_25
            exact ih_a_40 _ x4_25 s_24 (by rw [hn_a_40]; omega) ⟨rfl, (by omega), hB_s_24, hF_s_24, hLI_s_24, hLQ_s_24, hFE_s_24, hFS_s_24, hTS_s_24, hON_s_24, hMB_s_24⟩
          · intro k_78 hk_k_78
            refine ok_ite (fun c_26 => ?_) (fun c_26 => ?_)
            · rw [fa_eq] at c_26
              exact hk_k_78 s_5 ⟨trivial, hB_s_5, hF_s_5, hLI_s_5, hLQ_s_5, hFE_s_5, hFS_s_5, hTS_s_5, hON_s_5, hMB_s_5⟩
            · rw [fa_eq] at c_26
              refine ok_ix ⟨by omega, by omega⟩ ?_
              refine ok_lt fun v_27 e_v_27 => ?_
              have b_v_27 : 0 ≤ v_27.toInt ∧ v_27.toInt ≤ 39 := by rw [e_v_27]; exact gX_39 hB_s_5 _
              have q_v_27 : v_27.toInt = (σ.1 39 (x4_5.toNatClampNeg)).toInt := by rw [e_v_27, hF_s_5.1 39 (by decide)]
              refine ok_cals (s_X2_openLine (x1 := (2 : Int32)) (x2 := v_27) (σ := s_5) hB_s_5 hLI_s_5 hLQ_s_5 (by omega) (by omega) (fun h => by exfalso; omega)) (fun s_28 h_27 => ?_)
              obtain ⟨hB_s_28, hG_s_28, hLI_s_28, hLQ_s_28⟩ := h_27
              (try dsimp only at hB_s_28 hG_s_28 hLI_s_28 hLQ_s_28)
              have hF_s_28 : FR [68, 69, 70, 71, 72, 77] [] σ s_28 := FR.cal hF_s_5 hG_s_28 rfl rfl
              have f_s_28_20 : (s_28.1 20 0).toInt = (σ.1 20 0).toInt := by rw [hF_s_28.1 20 (by decide)]
              have f_s_28_46 : (s_28.1 46 0).toInt = (σ.1 46 0).toInt := by rw [hF_s_28.1 46 (by decide)]
              have hFE_s_28 : FE s_28 := FE.fr hG_s_28 (by decide) hFE_s_5
              have hFS_s_28 : FS s_28 := FS.fr hG_s_28 (by decide) hFS_s_5
              have hTS_s_28 : TS s_28 := TS.fr hG_s_28 (by decide) hTS_s_5
              have hON_s_28 : ON s_28 := ON.fr hG_s_28 (by decide) hON_s_5
              have hMB_s_28 : MB s_28 := MB.fr hG_s_28 (by decide) hMB_s_5
              exact hk_k_78 s_28 ⟨trivial, hB_s_28, hF_s_28, hLI_s_28, hLQ_s_28, hFE_s_28, hFS_s_28, hTS_s_28, hON_s_28, hMB_s_28⟩
      · intro k_29 hk_k_29
        refine ok_ite (fun c_28 => ?_) (fun c_28 => ?_)
        · rw [fa_eq] at c_28
          exact hk_k_29 σ ⟨trivial, hB, hF, hLI, hLQ, hFE, hFS, hTS, hON, hMB⟩
        · rw [fa_eq] at c_28
          refine ok_cals (s_X2_openLine (x1 := (1 : Int32)) (x2 := x1) (σ := σ) hB hLI hLQ (by omega) (by omega) (fun h => by exfalso; omega)) (fun s_30 h_29 => ?_)
          obtain ⟨hB_s_30, hG_s_30, hLI_s_30, hLQ_s_30⟩ := h_29
          (try dsimp only at hB_s_30 hG_s_30 hLI_s_30 hLQ_s_30)
          have hF_s_30 : FR [68, 69, 70, 71, 72, 77] [] σ s_30 := FR.cal hF hG_s_30 rfl rfl
          have f_s_30_20 : (s_30.1 20 0).toInt = (σ.1 20 0).toInt := by rw [hF_s_30.1 20 (by decide)]
          have f_s_30_46 : (s_30.1 46 0).toInt = (σ.1 46 0).toInt := by rw [hF_s_30.1 46 (by decide)]
          have hFE_s_30 : FE s_30 := FE.fr hG_s_30 (by decide) hFE
          have hFS_s_30 : FS s_30 := FS.fr hG_s_30 (by decide) hFS
          have hTS_s_30 : TS s_30 := TS.fr hG_s_30 (by decide) hTS
          have hON_s_30 : ON s_30 := ON.fr hG_s_30 (by decide) hON
          have hMB_s_30 : MB s_30 := MB.fr hG_s_30 (by decide) hMB
          exact hk_k_29 s_30 ⟨trivial, hB_s_30, hF_s_30, hLI_s_30, hLQ_s_30, hFE_s_30, hFS_s_30, hTS_s_30, hON_s_30, hMB_s_30⟩
    · rw [fa_le] at c_1
      exact ok_ret ⟨hB, hF, hLI, hLQ⟩
theorem s_X2_goOn {x1 : Int32} {x2 : Int32} {x3 : Int32} {σ : Sto} (hB : BX σ) (hLI : LI σ) (hLQ : LQ σ) (hFE : FE σ) (hFS : FS σ) (hTS : TS σ) (hON : ON σ) (hMB : MB σ) (p_x1 : 0 ≤ x1.toInt ∧ x1.toInt ≤ 39) (p_x2 : (-1) ≤ x2.toInt ∧ x2.toInt ≤ 39) (p_x3 : 0 ≤ x3.toInt ∧ x3.toInt ≤ 60) (hnb : x1.toInt < (σ.1 20 0).toInt) (hgl : x2.toInt < (σ.1 20 0).toInt) (hmu : (3 * (62 - x3.toInt) - 2).toNat ≤ 250) : OK (f_X2_goOn 250 x1 x2 x3 σ) (fun s => BX s ∧ FR [68, 69, 70, 71, 72, 77] [] σ s ∧ LI s ∧ LQ s) := (sg_X2_goOn 250).1 hB hLI hLQ hFE hFS hTS hON hMB p_x1 p_x2 p_x3 hnb hgl hmu
theorem s_X2_tellEnd {x1 : Int32} {x2 : Int32} {σ : Sto} (hB : BX σ) (hLI : LI σ) (hLQ : LQ σ) (hFE : FE σ) (hFS : FS σ) (hTS : TS σ) (hON : ON σ) (hMB : MB σ) (p_x1 : 0 ≤ x1.toInt ∧ x1.toInt ≤ 39) (p_x2 : 0 ≤ x2.toInt ∧ x2.toInt ≤ 60) (hnb : x1.toInt < (σ.1 20 0).toInt) (hmu : (3 * (62 - x2.toInt) - 1).toNat ≤ 250) : OK (f_X2_tellEnd 250 x1 x2 σ) (fun s => BX s ∧ FR [68, 69, 70, 71, 72, 77] [] σ s ∧ LI s ∧ LQ s) := (sg_X2_goOn 250).2.1 hB hLI hLQ hFE hFS hTS hON hMB p_x1 p_x2 hnb hmu
theorem s_X2_tell {x1 : Int32} {x2 : Int32} {σ : Sto} (hB : BX σ) (hLI : LI σ) (hLQ : LQ σ) (hFE : FE σ) (hFS : FS σ) (hTS : TS σ) (hON : ON σ) (hMB : MB σ) (p_x1 : 0 ≤ x1.toInt ∧ x1.toInt ≤ 39) (p_x2 : 0 ≤ x2.toInt ∧ x2.toInt ≤ 61) (hnb : x1.toInt < (σ.1 20 0).toInt) (hmu : (3 * (62 - x2.toInt)).toNat ≤ 250) : OK (f_X2_tell 250 x1 x2 σ) (fun s => BX s ∧ FR [68, 69, 70, 71, 72, 77] [] σ s ∧ LI s ∧ LQ s) := (sg_X2_goOn 250).2.2 hB hLI hLQ hFE hFS hTS hON hMB p_x1 p_x2 hnb hmu

set_option maxHeartbeats 4000000 in
theorem s_X2_mark {x1 : Int32} {σ : Sto} (hB : BX σ) (p_x1 : 0 ≤ x1.toInt ∧ x1.toInt ≤ 799) : OK (f_X2_mark x1 σ) (fun s => BX s ∧ FR [73, 74, 75] [] σ s) := by
  unfold f_X2_mark
  have hF : FR [73, 74, 75] [] σ σ := FR.rf
  have k_1 : (1 : Int32).toInt = 1 := by decide +kernel
  have k_2 : (2 : Int32).toInt = 2 := by decide +kernel
  have k_5 : (5 : Int32).toInt = 5 := by decide +kernel
  have k_11 : (11 : Int32).toInt = 11 := by decide +kernel
  refine ok_ix ⟨by omega, by omega⟩ ?_
  have g_1 := gX_69 hB (x1.toNatClampNeg)
  refine ok_lt fun v_1 e_v_1 => ?_
  have b_v_1 : 0 ≤ v_1.toInt ∧ v_1.toInt ≤ 12 := by rw [e_v_1]; exact gX_69 hB _
  have q_v_1 : v_1.toInt = (σ.1 69 x1.toNatClampNeg).toInt := by rw [e_v_1]
  refine ok_ite (fun c_2 => ?_) (fun c_2 => ?_)
  · rw [fa_eq] at c_2
    refine ok_ix ⟨by omega, by omega⟩ ?_
    have g_3 := gX_70 hB (x1.toNatClampNeg)
    refine ok_lt fun v_3 e_v_3 => ?_
    have b_v_3 : 0 ≤ v_3.toInt ∧ v_3.toInt ≤ 39 := by rw [e_v_3]; exact gX_70 hB _
    have q_v_3 : v_3.toInt = (σ.1 70 x1.toNatClampNeg).toInt := by rw [e_v_3]
    refine ok_ix ⟨by omega, by omega⟩ ?_
    refine ok_lt fun s_4 e_s_4 => ?_
    have hB_s_4 : BX s_4 := by rw [e_s_4]; exact pX_73 hB (by omega)
    have hF_s_4 : FR [73, 74, 75] [] σ s_4 := by rw [e_s_4]; exact FR.st hF (by decide)
    exact ok_ret ⟨hB_s_4, hF_s_4⟩
  · rw [fa_eq] at c_2
    refine ok_ix ⟨by omega, by omega⟩ ?_
    refine ok_lt fun v_5 e_v_5 => ?_
    have b_v_5 : 0 ≤ v_5.toInt ∧ v_5.toInt ≤ 12 := by rw [e_v_5]; exact gX_69 hB _
    have q_v_5 : v_5.toInt = (σ.1 69 x1.toNatClampNeg).toInt := by rw [e_v_5]
    refine ok_ite (fun c_4 => ?_) (fun c_4 => ?_)
    · rw [fa_eq] at c_4
      refine ok_ix ⟨by omega, by omega⟩ ?_
      have g_5 := gX_70 hB (x1.toNatClampNeg)
      refine ok_lt fun v_7 e_v_7 => ?_
      have b_v_7 : 0 ≤ v_7.toInt ∧ v_7.toInt ≤ 39 := by rw [e_v_7]; exact gX_70 hB _
      have q_v_7 : v_7.toInt = (σ.1 70 x1.toNatClampNeg).toInt := by rw [e_v_7]
      refine ok_ix ⟨by omega, by omega⟩ ?_
      refine ok_lt fun s_8 e_s_8 => ?_
      have hB_s_8 : BX s_8 := by rw [e_s_8]; exact pX_74 hB (by omega)
      have hF_s_8 : FR [73, 74, 75] [] σ s_8 := by rw [e_s_8]; exact FR.st hF (by decide)
      exact ok_ret ⟨hB_s_8, hF_s_8⟩
    · rw [fa_eq] at c_4
      refine ok_ix ⟨by omega, by omega⟩ ?_
      refine ok_lt fun v_9 e_v_9 => ?_
      have b_v_9 : 0 ≤ v_9.toInt ∧ v_9.toInt ≤ 12 := by rw [e_v_9]; exact gX_69 hB _
      have q_v_9 : v_9.toInt = (σ.1 69 x1.toNatClampNeg).toInt := by rw [e_v_9]
      refine ok_ite (fun c_6 => ?_) (fun c_6 => ?_)
      · rw [fa_eq] at c_6
        refine ok_ix ⟨by omega, by omega⟩ ?_
        have g_7 := gX_72 hB (x1.toNatClampNeg)
        refine ok_lt fun v_11 e_v_11 => ?_
        have b_v_11 : (-1) ≤ v_11.toInt ∧ v_11.toInt ≤ 799 := by rw [e_v_11]; exact gX_72 hB _
        refine ok_ite (fun c_8 => ?_) (fun c_8 => ?_)
        · rw [fa_eq] at c_8
          refine ok_ix ⟨by omega, by omega⟩ ?_
          have g_9 := gX_70 hB (x1.toNatClampNeg)
          refine ok_lt fun v_13 e_v_13 => ?_
          have b_v_13 : 0 ≤ v_13.toInt ∧ v_13.toInt ≤ 39 := by rw [e_v_13]; exact gX_70 hB _
          have q_v_13 : v_13.toInt = (σ.1 70 x1.toNatClampNeg).toInt := by rw [e_v_13]
          refine ok_ix ⟨by omega, by omega⟩ ?_
          refine ok_lt fun s_14 e_s_14 => ?_
          have hB_s_14 : BX s_14 := by rw [e_s_14]; exact pX_75 hB (by omega)
          have hF_s_14 : FR [73, 74, 75] [] σ s_14 := by rw [e_s_14]; exact FR.st hF (by decide)
          exact ok_ret ⟨hB_s_14, hF_s_14⟩
        · rw [fa_eq] at c_8
          exact ok_ret ⟨hB, hF⟩
      · rw [fa_eq] at c_6
        exact ok_ret ⟨hB, hF⟩

set_option maxHeartbeats 4000000 in
theorem s_X2_match {σ : Sto} (hB : BX σ) (hLI : LI σ) (hLQ : LQ σ) : OK (f_X2_match σ) (fun s => BX s ∧ FR [72, 73, 74, 75, 76] [] σ s ∧ LI s ∧ LQ s) := by
  unfold f_X2_match
  have hF : FR [72, 73, 74, 75, 76] [] σ σ := FR.rf
  have k_m1 : ((-1) : Int32).toInt = -1 := by decide +kernel
  have k_0 : (0 : Int32).toInt = 0 := by decide +kernel
  have k_1 : (1 : Int32).toInt = 1 := by decide +kernel
  have k_4 : (4 : Int32).toInt = 4 := by decide +kernel
  have k_120 : (120 : Int32).toInt = 120 := by decide +kernel
  refine ok_itr3 (fun (n : Nat) (x1_1 : Int32) (x2_1 : Int32) (s_1 : Sto) => n = (801 - x2_1.toInt).toNat ∧ (0 ≤ x1_1.toInt ∧ x1_1.toInt ≤ 120) ∧ (0 ≤ x2_1.toInt ∧ x2_1.toInt ≤ 800) ∧ (BX s_1) ∧ (FR [72, 73, 74, 75, 76] [] σ s_1) ∧ (LI s_1) ∧ (LQ s_1) ∧ (∀ k : Nat, (k : Int) < x1_1.toInt → (s_1.1 69 (s_1.1 76 k).toNatClampNeg).toInt ≠ 0)) ?_ (n := _) ⟨rfl, (by omega), (by omega), hB, hF, hLI, hLQ, (fun k hk => by exfalso; have h9 : (0 : Int32).toInt = 0 := (by decide +kernel); omega)⟩ (show _ < 10000000 by omega)
  intro a_4 n x1_1 x2_1 s_1 hI ih_a_4
  obtain ⟨hn_a_4, b_x1_1, b_x2_1, hB_s_1, hF_s_1, hLI_s_1, hLQ_s_1, hop⟩ := hI
  have g_2 := gX_68 hB_s_1 0
  have g_3 : (s_1.1 68 0).toInt = (σ.1 68 0).toInt := by rw [hF_s_1.1 68 (by decide)]
  have g_4 := gX_68 hB 0
  refine ok_ite (fun c_1 => ?_) (fun c_1 => ?_)
  · rw [fa_le] at c_1
    exact ok_ret ⟨hB_s_1, hF_s_1, hLI_s_1, hLQ_s_1⟩
  · rw [fa_le] at c_1
    refine ok_ix ⟨by omega, by omega⟩ ?_
    have g_5 := gX_69 hB_s_1 (x2_1.toNatClampNeg)
    refine ok_lt fun v_3 e_v_3 => ?_
    have b_v_3 : 0 ≤ v_3.toInt ∧ v_3.toInt ≤ 12 := by rw [e_v_3]; exact gX_69 hB_s_1 _
    have z3 : v_3.toInt = (s_1.1 69 x2_1.toNatClampNeg).toInt := by rw [e_v_3]
    refine ok_jnI2 (fun (x1_4 : Int32) (s_4 : Sto) => True ∧ (0 ≤ x1_4.toInt ∧ x1_4.toInt ≤ 120) ∧ (BX s_4) ∧ (FR [72, 73, 74, 75, 76] [] σ s_4) ∧ (LI s_4) ∧ (LQ s_4) ∧ (∀ k : Nat, (k : Int) < x1_4.toInt → (s_4.1 69 (s_4.1 76 k).toNatClampNeg).toInt ≠ 0)) ?_ ?_
    · intro x1_4 s_4 hJ
      obtain ⟨-, b_x1_4, hB_s_4, hF_s_4, hLI_s_4, hLQ_s_4, jop⟩ := hJ
      refine ok_cals (s_X2_mark (x1 := x2_1) (σ := s_4) hB_s_4 (by omega)) (fun s_5 h_6 => ?_)
      obtain ⟨hB_s_5, hG_s_5⟩ := h_6
      (try dsimp only at hB_s_5 hG_s_5)
      have hF_s_5 : FR [72, 73, 74, 75, 76] [] σ s_5 := FR.cal hF_s_4 hG_s_5 rfl rfl
      have hLI_s_5 : LI s_5 := LI.fr hG_s_5 (by decide) hLI_s_4
      have hLQ_s_5 : LQ s_5 := LQ.fr hG_s_5 (by decide) hLQ_s_4
      obtain ⟨t_7, ht_7, g_7⟩ : ∃ t : Int, (x2_1 + 1).toInt = t ∧ t = x2_1.toInt + (1 : Int32).toInt := ⟨_, rfl, by have h9 := fb_addI (x := x2_1) (y := (1 : Int32)) (by omega) (by omega); exact h9⟩
      refine ok_lt fun x2_6 e_x2_6 => ?_
      have q_x2_6 : x2_6.toInt = t_7 := by rw [e_x2_6]; exact ht_7
      exact ih_a_4 _ x1_4 x2_6 s_5 (by rw [hn_a_4]; omega) ⟨rfl, (by omega), (by omega), hB_s_5, hF_s_5, hLI_s_5, hLQ_s_5, (fun k hk => by rw [hG_s_5.1 69 (by decide), hG_s_5.1 76 (by decide)]; exact jop k hk)⟩
    · intro k_163 hk_k_163
      refine ok_ite (fun c_8 => ?_) (fun c_8 => ?_)
      · have c_8 := c_8
        refine ok_ite (fun c_9 => ?_) (fun c_9 => ?_)
        · rw [fa_le] at c_9
          exact hk_k_163 x1_1 s_1 ⟨trivial, (by omega), hB_s_1, hF_s_1, hLI_s_1, hLQ_s_1, hop⟩
        · rw [fa_le] at c_9
          refine ok_ix ⟨by omega, by omega⟩ ?_
          refine ok_lt fun s_9 e_s_9 => ?_
          have hB_s_9 : BX s_9 := by rw [e_s_9]; exact pX_76 hB_s_1 (by omega)
          have hF_s_9 : FR [72, 73, 74, 75, 76] [] σ s_9 := by rw [e_s_9]; exact FR.st hF_s_1 (by decide)
          have hLI_s_9 : LI s_9 := by rw [e_s_9]; exact LI.st1 (by decide) hLI_s_1
          have hLQ_s_9 : LQ s_9 := by rw [e_s_9]; exact LQ.st1 (by decide) hLQ_s_1
          obtain ⟨t_10, ht_10, g_10⟩ : ∃ t : Int, (x1_1 + 1).toInt = t ∧ t = x1_1.toInt + (1 : Int32).toInt := ⟨_, rfl, by have h9 := fb_addI (x := x1_1) (y := (1 : Int32)) (by omega) (by omega); exact h9⟩
          refine ok_lt fun x1_10 e_x1_10 => ?_
          have q_x1_10 : x1_10.toInt = t_10 := by rw [e_x1_10]; exact ht_10
          exact hk_k_163 x1_10 s_9 ⟨trivial, (by omega), hB_s_9, hF_s_9, hLI_s_9, hLQ_s_9, (fun k hk => by have cx := clamp_I (x := x1_1) (by omega); rw [show s_9.1 69 = s_1.1 69 by rw [e_s_9]; rfl, e_s_9, sti_if]; by_cases q : k = x1_1.toNatClampNeg; (rw [if_pos q, ← e_v_3]; omega); (rw [if_neg q]; exact hop k (by omega)))⟩
      · have c_8 := c_8
        refine ok_ite (fun c_11 => ?_) (fun c_11 => ?_)
        · have c_11 := c_11
          refine ok_ite (fun c_12 => ?_) (fun c_12 => ?_)
          · rw [fa_le] at c_12
            exact hk_k_163 x1_1 s_1 ⟨trivial, (by omega), hB_s_1, hF_s_1, hLI_s_1, hLQ_s_1, hop⟩
          · rw [fa_le] at c_12
            obtain ⟨t_13, ht_13, g_13⟩ : ∃ t : Int, (x1_1 - 1).toInt = t ∧ t = x1_1.toInt - (1 : Int32).toInt := ⟨_, rfl, by have h9 := fb_subI (x := x1_1) (y := (1 : Int32)) (by omega) (by omega); exact h9⟩
            refine ok_ix ⟨by rw [ht_13]; omega, by rw [ht_13]; omega⟩ ?_
            have g_14 := gX_76 hB_s_1 ((x1_1 - 1).toNatClampNeg)
            refine ok_lt fun v_12 e_v_12 => ?_
            have b_v_12 : 0 ≤ v_12.toInt ∧ v_12.toInt ≤ 799 := by rw [e_v_12]; exact gX_76 hB_s_1 _
            have o12 := hop (x1_1 - 1).toNatClampNeg (by have := clamp_I (x := (x1_1 - 1)) (by omega); omega)
            rw [← e_v_12] at o12
            refine ok_ix ⟨by omega, by omega⟩ ?_
            refine ok_lt fun s_13 e_s_13 => ?_
            have hB_s_13 : BX s_13 := by rw [e_s_13]; exact pX_72 hB_s_1 (by omega)
            have hF_s_13 : FR [72, 73, 74, 75, 76] [] σ s_13 := by rw [e_s_13]; exact FR.st hF_s_1 (by decide)
            have hLI_s_13 : LI s_13 := LI.set hLI_s_1 e_s_13 o12
            have hLQ_s_13 : LQ s_13 := LQ.set hLQ_s_1 e_s_13 o12
            refine ok_ix ⟨by rw [ht_13]; omega, by rw [ht_13]; omega⟩ ?_
            refine ok_lt fun s_14 e_s_14 => ?_
            have hB_s_14 : BX s_14 := by rw [e_s_14]; exact pX_76 hB_s_13 (by omega)
            have hF_s_14 : FR [72, 73, 74, 75, 76] [] σ s_14 := by rw [e_s_14]; exact FR.st hF_s_13 (by decide)
            have hLI_s_14 : LI s_14 := by rw [e_s_14]; exact LI.st1 (by decide) hLI_s_13
            have hLQ_s_14 : LQ s_14 := by rw [e_s_14]; exact LQ.st1 (by decide) hLQ_s_13
            exact hk_k_163 x1_1 s_14 ⟨trivial, (by omega), hB_s_14, hF_s_14, hLI_s_14, hLQ_s_14, (fun k hk => by rw [show s_14.1 69 = s_1.1 69 by rw [e_s_14, e_s_13]; rfl, show s_14.1 76 = (sti s_13 76 (x1_1 - 1).toNatClampNeg x2_1).1 76 by rw [e_s_14], sti_if, show s_13.1 76 = s_1.1 76 by rw [e_s_13]; rfl]; by_cases q : k = (x1_1 - 1).toNatClampNeg; (rw [if_pos q, ← e_v_3]; omega); (rw [if_neg q]; exact hop k (by omega)))⟩
        · have c_11 := c_11
          refine ok_ite (fun c_15 => ?_) (fun c_15 => ?_)
          · have c_15 := c_15
            refine ok_ite (fun c_16 => ?_) (fun c_16 => ?_)
            · rw [fa_le] at c_16
              exact hk_k_163 x1_1 s_1 ⟨trivial, (by omega), hB_s_1, hF_s_1, hLI_s_1, hLQ_s_1, hop⟩
            · rw [fa_le] at c_16
              obtain ⟨t_17, ht_17, g_17⟩ : ∃ t : Int, (x1_1 + (-1)).toInt = t ∧ t = x1_1.toInt + ((-1) : Int32).toInt := ⟨_, rfl, by have h9 := fb_addI (x := x1_1) (y := ((-1) : Int32)) (by omega) (by omega); exact h9⟩
              refine ok_lt fun x1_16 e_x1_16 => ?_
              have q_x1_16 : x1_16.toInt = t_17 := by rw [e_x1_16]; exact ht_17
              refine ok_ix ⟨by omega, by omega⟩ ?_
              have g_18 := gX_76 hB_s_1 (x1_16.toNatClampNeg)
              refine ok_lt fun v_17 e_v_17 => ?_
              have b_v_17 : 0 ≤ v_17.toInt ∧ v_17.toInt ≤ 799 := by rw [e_v_17]; exact gX_76 hB_s_1 _
              have o17 := hop x1_16.toNatClampNeg (by have := clamp_I (x := x1_16) (by omega); omega)
              rw [← e_v_17] at o17
              refine ok_ix ⟨by omega, by omega⟩ ?_
              refine ok_lt fun s_18 e_s_18 => ?_
              have hB_s_18 : BX s_18 := by rw [e_s_18]; exact pX_72 hB_s_1 (by omega)
              have hF_s_18 : FR [72, 73, 74, 75, 76] [] σ s_18 := by rw [e_s_18]; exact FR.st hF_s_1 (by decide)
              have hLI_s_18 : LI s_18 := LI.set hLI_s_1 e_s_18 o17
              have hLQ_s_18 : LQ s_18 := LQ.set hLQ_s_1 e_s_18 o17
              refine ok_ix ⟨by omega, by omega⟩ ?_
              have g_19 := gX_76 hB_s_18 (x1_16.toNatClampNeg)
              refine ok_lt fun v_19 e_v_19 => ?_
              have b_v_19 : 0 ≤ v_19.toInt ∧ v_19.toInt ≤ 799 := by rw [e_v_19]; exact gX_76 hB_s_18 _
              refine ok_ix ⟨by omega, by omega⟩ ?_
              have g_20 := gX_69 hB_s_18 (v_19.toNatClampNeg)
              refine ok_lt fun v_20 e_v_20 => ?_
              have b_v_20 : 0 ≤ v_20.toInt ∧ v_20.toInt ≤ 12 := by rw [e_v_20]; exact gX_69 hB_s_18 _
              refine ok_ix ⟨by omega, by omega⟩ ?_
              refine ok_lt fun s_21 e_s_21 => ?_
              have hB_s_21 : BX s_21 := by rw [e_s_21]; exact pX_72 hB_s_18 (by omega)
              have hF_s_21 : FR [72, 73, 74, 75, 76] [] σ s_21 := by rw [e_s_21]; exact FR.st hF_s_18 (by decide)
              have hLI_s_21 : LI s_21 := LI.set hLI_s_18 e_s_21 (by rw [show s_18.1 69 = s_1.1 69 by rw [e_s_18]; rfl, ← e_v_3]; omega)
              have hLQ_s_21 : LQ s_21 := LQ.set hLQ_s_18 e_s_21 (by rw [show s_18.1 69 = s_1.1 69 by rw [e_s_18]; rfl, ← e_v_3]; omega)
              exact hk_k_163 x1_16 s_21 ⟨trivial, (by omega), hB_s_21, hF_s_21, hLI_s_21, hLQ_s_21, (fun k hk => by rw [show s_21.1 69 = s_1.1 69 by rw [e_s_21, e_s_18]; rfl, show s_21.1 76 = s_1.1 76 by rw [e_s_21, e_s_18]; rfl]; exact hop k (by omega))⟩
          · have c_15 := c_15
            exact hk_k_163 x1_1 s_1 ⟨trivial, (by omega), hB_s_1, hF_s_1, hLI_s_1, hLQ_s_1, hop⟩

set_option maxHeartbeats 4000000 in
theorem s_X2_endsAnyway {x1 : Int32} {σ : Sto} (hB : BX σ) (p_x1 : 0 ≤ x1.toInt ∧ x1.toInt ≤ 799) : OK (f_X2_endsAnyway x1 σ) (fun v => (0 ≤ v.toInt ∧ v.toInt ≤ 1)) := by
  unfold f_X2_endsAnyway
  have hF : FR [] [] σ σ := FR.rf
  have k_0 : (0 : Int32).toInt = 0 := by decide +kernel
  have k_1 : (1 : Int32).toInt = 1 := by decide +kernel
  have k_2 : (2 : Int32).toInt = 2 := by decide +kernel
  have k_4 : (4 : Int32).toInt = 4 := by decide +kernel
  have k_5 : (5 : Int32).toInt = 5 := by decide +kernel
  obtain ⟨t_1, ht_1, g_1⟩ : ∃ t : Int, (x1 + 1).toInt = t ∧ t = x1.toInt + (1 : Int32).toInt := ⟨_, rfl, by have h9 := fb_addI (x := x1) (y := (1 : Int32)) (by omega) (by omega); exact h9⟩
  refine ok_lt fun x2_1 e_x2_1 => ?_
  have q_x2_1 : x2_1.toInt = t_1 := by rw [e_x2_1]; exact ht_1
  refine ok_itr2 (fun (n : Nat) (x2_2 : Int32) (x3_2 : Int32) => n = (801 - x3_2.toInt).toNat ∧ (0 ≤ x2_2.toInt ∧ x2_2.toInt ≤ 800) ∧ (0 ≤ x3_2.toInt ∧ x3_2.toInt ≤ 800)) ?_ (n := _) ⟨rfl, (by omega), (by omega)⟩ (show _ < 10000000 by omega)
  intro a_6 n x2_2 x3_2 hI ih_a_6
  obtain ⟨hn_a_6, b_x2_2, b_x3_2⟩ := hI
  have g_3 := gX_68 hB 0
  refine ok_ite (fun c_2 => ?_) (fun c_2 => ?_)
  · rw [fa_le] at c_2
    exact ok_ret (by (try dsimp only); omega)
  · rw [fa_le] at c_2
    refine ok_ite (fun c_4 => ?_) (fun c_4 => ?_)
    · rw [fa_le] at c_4
      exact ok_ret (by (try dsimp only); omega)
    · rw [fa_le] at c_4
      refine ok_ix ⟨by omega, by omega⟩ ?_
      have g_5 := gX_69 hB (x2_2.toNatClampNeg)
      refine ok_lt fun v_5 e_v_5 => ?_
      have b_v_5 : 0 ≤ v_5.toInt ∧ v_5.toInt ≤ 12 := by rw [e_v_5]; exact gX_69 hB _
      have q_v_5 : v_5.toInt = (σ.1 69 x2_2.toNatClampNeg).toInt := by rw [e_v_5]
      refine ok_jn ?_
      refine ok_ite (fun c_6 => ?_) (fun c_6 => ?_)
      · rw [fa_eq] at c_6
        refine ok_ix ⟨by omega, by omega⟩ ?_
        have g_7 := gX_72 hB (x2_2.toNatClampNeg)
        refine ok_lt fun v_9 e_v_9 => ?_
        have b_v_9 : (-1) ≤ v_9.toInt ∧ v_9.toInt ≤ 799 := by rw [e_v_9]; exact gX_72 hB _
        have q_v_9 : v_9.toInt = (σ.1 72 x2_2.toNatClampNeg).toInt := by rw [e_v_9]
        obtain ⟨t_8, ht_8, g_8⟩ : ∃ t : Int, (v_9 + 1).toInt = t ∧ t = v_9.toInt + (1 : Int32).toInt := ⟨_, rfl, by have h9 := fb_addI (x := v_9) (y := (1 : Int32)) (by omega) (by omega); exact h9⟩
        refine ok_lt fun x2_10 e_x2_10 => ?_
        have q_x2_10 : x2_10.toInt = t_8 := by rw [e_x2_10]; exact ht_8
        obtain ⟨t_9, ht_9, g_9⟩ : ∃ t : Int, (x3_2 + 1).toInt = t ∧ t = x3_2.toInt + (1 : Int32).toInt := ⟨_, rfl, by have h9 := fb_addI (x := x3_2) (y := (1 : Int32)) (by omega) (by omega); exact h9⟩
        refine ok_lt fun x3_7 e_x3_7 => ?_
        have q_x3_7 : x3_7.toInt = t_9 := by rw [e_x3_7]; exact ht_9
        exact ih_a_6 _ x2_10 x3_7 (by rw [hn_a_6]; omega) ⟨rfl, (by omega), (by omega)⟩
      · rw [fa_eq] at c_6
        refine ok_ix ⟨by omega, by omega⟩ ?_
        refine ok_lt fun v_11 e_v_11 => ?_
        have b_v_11 : 0 ≤ v_11.toInt ∧ v_11.toInt ≤ 12 := by rw [e_v_11]; exact gX_69 hB _
        have q_v_11 : v_11.toInt = (σ.1 69 x2_2.toNatClampNeg).toInt := by rw [e_v_11]
        refine ok_ite (fun c_10 => ?_) (fun c_10 => ?_)
        · rw [fa_eq] at c_10
          refine ok_ix ⟨by omega, by omega⟩ ?_
          have g_11 := gX_72 hB (x2_2.toNatClampNeg)
          refine ok_lt fun v_13 e_v_13 => ?_
          have b_v_13 : (-1) ≤ v_13.toInt ∧ v_13.toInt ≤ 799 := by rw [e_v_13]; exact gX_72 hB _
          have q_v_13 : v_13.toInt = (σ.1 72 x2_2.toNatClampNeg).toInt := by rw [e_v_13]
          refine ok_jn ?_
          refine ok_ite (fun c_12 => ?_) (fun c_12 => ?_)
          · rw [fa_eq] at c_12
            refine ok_ix ⟨by omega, by omega⟩ ?_
            have g_13 := gX_70 hB (x2_2.toNatClampNeg)
            refine ok_lt fun v_17 e_v_17 => ?_
            have b_v_17 : 0 ≤ v_17.toInt ∧ v_17.toInt ≤ 39 := by rw [e_v_17]; exact gX_70 hB _
            refine ok_ix ⟨by omega, by omega⟩ ?_
            have g_14 := gX_70 hB (x1.toNatClampNeg)
            refine ok_lt fun v_18 e_v_18 => ?_
            have b_v_18 : 0 ≤ v_18.toInt ∧ v_18.toInt ≤ 39 := by rw [e_v_18]; exact gX_70 hB _
            refine ok_ite (fun c_15 => ?_) (fun c_15 => ?_)
            · rw [fa_eq] at c_15
              exact ok_ret (by (try dsimp only); omega)
            · rw [fa_eq] at c_15
              obtain ⟨t_16, ht_16, g_16⟩ : ∃ t : Int, (x2_2 + 1).toInt = t ∧ t = x2_2.toInt + (1 : Int32).toInt := ⟨_, rfl, by have h9 := fb_addI (x := x2_2) (y := (1 : Int32)) (by omega) (by omega); exact h9⟩
              refine ok_lt fun x2_15 e_x2_15 => ?_
              have q_x2_15 : x2_15.toInt = t_16 := by rw [e_x2_15]; exact ht_16
              obtain ⟨t_17, ht_17, g_17⟩ : ∃ t : Int, (x3_2 + 1).toInt = t ∧ t = x3_2.toInt + (1 : Int32).toInt := ⟨_, rfl, by have h9 := fb_addI (x := x3_2) (y := (1 : Int32)) (by omega) (by omega); exact h9⟩
              refine ok_lt fun x3_7 e_x3_7 => ?_
              have q_x3_7 : x3_7.toInt = t_17 := by rw [e_x3_7]; exact ht_17
              exact ih_a_6 _ x2_15 x3_7 (by rw [hn_a_6]; omega) ⟨rfl, (by omega), (by omega)⟩
          · rw [fa_eq] at c_12
            obtain ⟨t_18, ht_18, g_18⟩ : ∃ t : Int, (x2_2 + 1).toInt = t ∧ t = x2_2.toInt + (1 : Int32).toInt := ⟨_, rfl, by have h9 := fb_addI (x := x2_2) (y := (1 : Int32)) (by omega) (by omega); exact h9⟩
            refine ok_lt fun x2_15 e_x2_15 => ?_
            have q_x2_15 : x2_15.toInt = t_18 := by rw [e_x2_15]; exact ht_18
            obtain ⟨t_19, ht_19, g_19⟩ : ∃ t : Int, (x3_2 + 1).toInt = t ∧ t = x3_2.toInt + (1 : Int32).toInt := ⟨_, rfl, by have h9 := fb_addI (x := x3_2) (y := (1 : Int32)) (by omega) (by omega); exact h9⟩
            refine ok_lt fun x3_7 e_x3_7 => ?_
            have q_x3_7 : x3_7.toInt = t_19 := by rw [e_x3_7]; exact ht_19
            exact ih_a_6 _ x2_15 x3_7 (by rw [hn_a_6]; omega) ⟨rfl, (by omega), (by omega)⟩
        · rw [fa_eq] at c_10
          exact ok_ret (by (try dsimp only); omega)

set_option maxHeartbeats 4000000 in
theorem s_X2_leaveOut {σ : Sto} (hB : BX σ) (hLI : LI σ) (hLQ : LQ σ) : OK (f_X2_leaveOut σ) (fun s => BX s ∧ FR [69] [] σ s ∧ LI s ∧ LQ s) := by
  unfold f_X2_leaveOut
  have hF : FR [69] [] σ σ := FR.rf
  have k_0 : (0 : Int32).toInt = 0 := by decide +kernel
  have k_1 : (1 : Int32).toInt = 1 := by decide +kernel
  have k_2 : (2 : Int32).toInt = 2 := by decide +kernel
  have k_4 : (4 : Int32).toInt = 4 := by decide +kernel
  have k_6 : (6 : Int32).toInt = 6 := by decide +kernel
  have k_12 : (12 : Int32).toInt = 12 := by decide +kernel
  refine ok_itr2 (fun (n : Nat) (x1_1 : Int32) (s_1 : Sto) => n = (801 - x1_1.toInt).toNat ∧ (0 ≤ x1_1.toInt ∧ x1_1.toInt ≤ 800) ∧ (BX s_1) ∧ (FR [69] [] σ s_1) ∧ (LI s_1) ∧ (LQ s_1)) ?_ (n := _) ⟨rfl, (by omega), hB, hF, hLI, hLQ⟩ (show _ < 10000000 by omega)
  intro a_2 n x1_1 s_1 hI ih_a_2
  obtain ⟨hn_a_2, b_x1_1, hB_s_1, hF_s_1, hLI_s_1, hLQ_s_1⟩ := hI
  have g_2 := gX_68 hB_s_1 0
  have g_3 : (s_1.1 68 0).toInt = (σ.1 68 0).toInt := by rw [hF_s_1.1 68 (by decide)]
  have g_4 := gX_68 hB 0
  refine ok_ite (fun c_1 => ?_) (fun c_1 => ?_)
  · rw [fa_le] at c_1
    refine ok_itr2 (fun (n : Nat) (x1_3 : Int32) (s_3 : Sto) => n = (800 - x1_3.toInt).toNat ∧ (0 ≤ x1_3.toInt ∧ x1_3.toInt ≤ 799) ∧ (BX s_3) ∧ (FR [69] [] σ s_3) ∧ (LI s_3) ∧ (LQ s_3)) ?_ (n := _) ⟨rfl, (by omega), hB_s_1, hF_s_1, hLI_s_1, hLQ_s_1⟩ (show _ < 10000000 by omega)
    intro a_45 n x1_3 s_3 hI ih_a_45
    obtain ⟨hn_a_45, b_x1_3, hB_s_3, hF_s_3, hLI_s_3, hLQ_s_3⟩ := hI
    have g_6 := gX_68 hB_s_3 0
    have g_7 : (s_3.1 68 0).toInt = (σ.1 68 0).toInt := by rw [hF_s_3.1 68 (by decide)]
    obtain ⟨t_8, ht_8, g_8⟩ : ∃ t : Int, (x1_3 + 1).toInt = t ∧ t = x1_3.toInt + (1 : Int32).toInt := ⟨_, rfl, by have h9 := fb_addI (x := x1_3) (y := (1 : Int32)) (by omega) (by omega); exact h9⟩
    refine ok_ite (fun c_5 => ?_) (fun c_5 => ?_)
    · rw [fa_le, ht_8] at c_5
      exact ok_ret ⟨hB_s_3, hF_s_3, hLI_s_3, hLQ_s_3⟩
    · rw [fa_le, ht_8] at c_5
      refine ok_ix ⟨by omega, by omega⟩ ?_
      have g_9 := gX_69 hB_s_3 (x1_3.toNatClampNeg)
      refine ok_lt fun v_5 e_v_5 => ?_
      have b_v_5 : 0 ≤ v_5.toInt ∧ v_5.toInt ≤ 12 := by rw [e_v_5]; exact gX_69 hB_s_3 _
      refine ok_jn ?_
      refine ok_ite (fun c_10 => ?_) (fun c_10 => ?_)
      · rw [fa_eq] at c_10
        refine ok_ix ⟨by rw [ht_8]; omega, by rw [ht_8]; omega⟩ ?_
        have g_11 := gX_69 hB_s_3 ((x1_3 + 1).toNatClampNeg)
        refine ok_lt fun v_9 e_v_9 => ?_
        have b_v_9 : 0 ≤ v_9.toInt ∧ v_9.toInt ≤ 12 := by rw [e_v_9]; exact gX_69 hB_s_3 _
        refine ok_ite (fun c_12 => ?_) (fun c_12 => ?_)
        · rw [fa_eq] at c_12
          refine ok_ix ⟨by omega, by omega⟩ ?_
          have g_13 := gX_72 hB_s_3 (x1_3.toNatClampNeg)
          refine ok_lt fun v_11 e_v_11 => ?_
          have b_v_11 : (-1) ≤ v_11.toInt ∧ v_11.toInt ≤ 799 := by rw [e_v_11]; exact gX_72 hB_s_3 _
          obtain ⟨t_15, ht_15, g_15⟩ : ∃ t : Int, (x1_3 + 2).toInt = t ∧ t = x1_3.toInt + (2 : Int32).toInt := ⟨_, rfl, by have h9 := fb_addI (x := x1_3) (y := (2 : Int32)) (by omega) (by omega); exact h9⟩
          refine ok_ite (fun c_14 => ?_) (fun c_14 => ?_)
          · rw [fa_eq, ht_15] at c_14
            refine ok_ix ⟨by omega, by omega⟩ ?_
            refine ok_lt fun s_13 e_s_13 => ?_
            have hB_s_13 : BX s_13 := by rw [e_s_13]; exact pX_69 hB_s_3 (by omega)
            have hF_s_13 : FR [69] [] σ s_13 := by rw [e_s_13]; exact FR.st hF_s_3 (by decide)
            have hLI_s_13 : LI s_13 := LI.setk hLI_s_3 e_s_13 (by omega)
            have hLQ_s_13 : LQ s_13 := LQ.setk hLQ_s_3 e_s_13 (by omega) (by omega)
            refine ok_lt fun x1_7 e_x1_7 => ?_
            have q_x1_7 : x1_7.toInt = t_8 := by rw [e_x1_7]; exact ht_8
            exact ih_a_45 _ x1_7 s_13 (by rw [hn_a_45]; omega) ⟨rfl, (by omega), hB_s_13, hF_s_13, hLI_s_13, hLQ_s_13⟩
          · rw [fa_eq, ht_15] at c_14
            refine ok_lt fun x1_7 e_x1_7 => ?_
            have q_x1_7 : x1_7.toInt = t_8 := by rw [e_x1_7]; exact ht_8
            exact ih_a_45 _ x1_7 s_3 (by rw [hn_a_45]; omega) ⟨rfl, (by omega), hB_s_3, hF_s_3, hLI_s_3, hLQ_s_3⟩
        · rw [fa_eq] at c_12
          refine ok_lt fun x1_7 e_x1_7 => ?_
          have q_x1_7 : x1_7.toInt = t_8 := by rw [e_x1_7]; exact ht_8
          exact ih_a_45 _ x1_7 s_3 (by rw [hn_a_45]; omega) ⟨rfl, (by omega), hB_s_3, hF_s_3, hLI_s_3, hLQ_s_3⟩
      · rw [fa_eq] at c_10
        refine ok_lt fun x1_7 e_x1_7 => ?_
        have q_x1_7 : x1_7.toInt = t_8 := by rw [e_x1_7]; exact ht_8
        exact ih_a_45 _ x1_7 s_3 (by rw [hn_a_45]; omega) ⟨rfl, (by omega), hB_s_3, hF_s_3, hLI_s_3, hLQ_s_3⟩
  · rw [fa_le] at c_1
    refine ok_ix ⟨by omega, by omega⟩ ?_
    have g_16 := gX_69 hB_s_1 (x1_1.toNatClampNeg)
    refine ok_lt fun v_14 e_v_14 => ?_
    have b_v_14 : 0 ≤ v_14.toInt ∧ v_14.toInt ≤ 12 := by rw [e_v_14]; exact gX_69 hB_s_1 _
    refine ok_jn ?_
    refine ok_ite (fun c_17 => ?_) (fun c_17 => ?_)
    · rw [fa_eq] at c_17
      refine ok_calp (s_X2_endsAnyway (x1 := x1_1) (σ := s_1) hB_s_1 (by omega)) (fun v_18 h_18 => ?_)
      have b_v_18 := h_18
      (try dsimp only at b_v_18)
      refine ok_ite (fun c_19 => ?_) (fun c_19 => ?_)
      · rw [fa_eq] at c_19
        obtain ⟨t_20, ht_20, g_20⟩ : ∃ t : Int, (x1_1 + 1).toInt = t ∧ t = x1_1.toInt + (1 : Int32).toInt := ⟨_, rfl, by have h9 := fb_addI (x := x1_1) (y := (1 : Int32)) (by omega) (by omega); exact h9⟩
        refine ok_lt fun x1_16 e_x1_16 => ?_
        have q_x1_16 : x1_16.toInt = t_20 := by rw [e_x1_16]; exact ht_20
        exact ih_a_2 _ x1_16 s_1 (by rw [hn_a_2]; omega) ⟨rfl, (by omega), hB_s_1, hF_s_1, hLI_s_1, hLQ_s_1⟩
      · rw [fa_eq] at c_19
        refine ok_ix ⟨by omega, by omega⟩ ?_
        refine ok_lt fun s_20 e_s_20 => ?_
        have hB_s_20 : BX s_20 := by rw [e_s_20]; exact pX_69 hB_s_1 (by omega)
        have hF_s_20 : FR [69] [] σ s_20 := by rw [e_s_20]; exact FR.st hF_s_1 (by decide)
        have hLI_s_20 : LI s_20 := LI.setk hLI_s_1 e_s_20 (by omega)
        have hLQ_s_20 : LQ s_20 := LQ.setk hLQ_s_1 e_s_20 (by omega) (by omega)
        obtain ⟨t_21, ht_21, g_21⟩ : ∃ t : Int, (x1_1 + 1).toInt = t ∧ t = x1_1.toInt + (1 : Int32).toInt := ⟨_, rfl, by have h9 := fb_addI (x := x1_1) (y := (1 : Int32)) (by omega) (by omega); exact h9⟩
        refine ok_lt fun x1_16 e_x1_16 => ?_
        have q_x1_16 : x1_16.toInt = t_21 := by rw [e_x1_16]; exact ht_21
        exact ih_a_2 _ x1_16 s_20 (by rw [hn_a_2]; omega) ⟨rfl, (by omega), hB_s_20, hF_s_20, hLI_s_20, hLQ_s_20⟩
    · rw [fa_eq] at c_17
      obtain ⟨t_22, ht_22, g_22⟩ : ∃ t : Int, (x1_1 + 1).toInt = t ∧ t = x1_1.toInt + (1 : Int32).toInt := ⟨_, rfl, by have h9 := fb_addI (x := x1_1) (y := (1 : Int32)) (by omega) (by omega); exact h9⟩
      refine ok_lt fun x1_16 e_x1_16 => ?_
      have q_x1_16 : x1_16.toInt = t_22 := by rw [e_x1_16]; exact ht_22
      exact ih_a_2 _ x1_16 s_1 (by rw [hn_a_2]; omega) ⟨rfl, (by omega), hB_s_1, hF_s_1, hLI_s_1, hLQ_s_1⟩

set_option maxHeartbeats 4000000 in
theorem s_X2_close {σ : Sto} (hB : BX σ) (hLI : LI σ) (hLQ : LQ σ) : OK (f_X2_close σ) (fun s => BX s ∧ FR [68, 69, 70, 71, 72] [] σ s ∧ LI s ∧ LQ s) := by
  unfold f_X2_close
  have hF : FR [68, 69, 70, 71, 72] [] σ σ := FR.rf
  have k_0 : (0 : Int32).toInt = 0 := by decide +kernel
  have k_1 : (1 : Int32).toInt = 1 := by decide +kernel
  have k_12 : (12 : Int32).toInt = 12 := by decide +kernel
  have g68 := gX_68 hB 0
  refine ok_itr3 (fun (n : Nat) (x1_1 : Int32) (x2_1 : Int32) (s_1 : Sto) => n = (801 - x2_1.toInt).toNat ∧ (0 ≤ x1_1.toInt ∧ x1_1.toInt ≤ 800) ∧ (0 ≤ x2_1.toInt ∧ x2_1.toInt ≤ 800) ∧ (BX s_1) ∧ (FR [68, 69, 70, 71, 72] [] σ s_1) ∧ (LI s_1) ∧ (LQ s_1) ∧ (x1_1.toInt ≤ x2_1.toInt) ∧ (x2_1.toInt ≤ (s_1.1 68 0).toInt)) ?_ (n := _) ⟨rfl, (by omega), (by omega), hB, hF, hLI, hLQ, (by omega), (by omega)⟩ (show _ < 10000000 by omega)
  intro a_4 n x1_1 x2_1 s_1 hI ih_a_4
  obtain ⟨hn_a_4, b_x1_1, b_x2_1, hB_s_1, hF_s_1, hLI_s_1, hLQ_s_1, hle, hle2⟩ := hI
  have g_2 := gX_68 hB_s_1 0
  refine ok_ite (fun c_1 => ?_) (fun c_1 => ?_)
  · rw [fa_le] at c_1
    refine ok_lt fun s_3 e_s_3 => ?_
    have hB_s_3 : BX s_3 := by rw [e_s_3]; exact pX_68 hB_s_1 (by omega)
    have hF_s_3 : FR [68, 69, 70, 71, 72] [] σ s_3 := by rw [e_s_3]; exact FR.st hF_s_1 (by decide)
    have w_s_3_68 : (s_3.1 68 0).toInt = x1_1.toInt := by rw [e_s_3, sti_s]
    have hLI_s_3 : LI s_3 := by rw [e_s_3]; exact LI.st1 (by decide) hLI_s_1
    have hLQ_s_3 : LQ s_3 := LQ.cut hLQ_s_1 e_s_3 (by omega)
    exact ok_ret ⟨hB_s_3, hF_s_3, hLI_s_3, hLQ_s_3⟩
  · rw [fa_le] at c_1
    refine ok_ix ⟨by omega, by omega⟩ ?_
    have g_3 := gX_69 hB_s_1 (x2_1.toNatClampNeg)
    refine ok_lt fun v_4 e_v_4 => ?_
    have b_v_4 : 0 ≤ v_4.toInt ∧ v_4.toInt ≤ 12 := by rw [e_v_4]; exact gX_69 hB_s_1 _
    have q_v_4 : v_4.toInt = (s_1.1 69 x2_1.toNatClampNeg).toInt := by rw [e_v_4]
    refine ok_jn ?_
    refine ok_ite (fun c_4 => ?_) (fun c_4 => ?_)
    · rw [fa_eq] at c_4
      obtain ⟨t_5, ht_5, g_5⟩ : ∃ t : Int, (x2_1 + 1).toInt = t ∧ t = x2_1.toInt + (1 : Int32).toInt := ⟨_, rfl, by have h9 := fb_addI (x := x2_1) (y := (1 : Int32)) (by omega) (by omega); exact h9⟩
      refine ok_lt fun x2_6 e_x2_6 => ?_
      have q_x2_6 : x2_6.toInt = t_5 := by rw [e_x2_6]; exact ht_5
      exact ih_a_4 _ x1_1 x2_6 s_1 (by rw [hn_a_4]; omega) ⟨rfl, (by omega), (by omega), hB_s_1, hF_s_1, hLI_s_1, hLQ_s_1, (by omega), (by omega)⟩
    · rw [fa_eq] at c_4
      refine ok_ix ⟨by omega, by omega⟩ ?_
      refine ok_lt fun v_8 e_v_8 => ?_
      have b_v_8 : 0 ≤ v_8.toInt ∧ v_8.toInt ≤ 12 := by rw [e_v_8]; exact gX_69 hB_s_1 _
      have q_v_8 : v_8.toInt = (s_1.1 69 x2_1.toNatClampNeg).toInt := by rw [e_v_8]
      refine ok_ix ⟨by omega, by omega⟩ ?_
      refine ok_lt fun s_9 e_s_9 => ?_
      have hB_s_9 : BX s_9 := by rw [e_s_9]; exact pX_69 hB_s_1 (by omega)
      have hF_s_9 : FR [68, 69, 70, 71, 72] [] σ s_9 := by rw [e_s_9]; exact FR.st hF_s_1 (by decide)
      have w_s_9_68 : (s_9.1 68 0).toInt = (s_1.1 68 0).toInt := by rw [e_s_9]; rfl
      refine ok_ix ⟨by omega, by omega⟩ ?_
      have g_6 := gX_70 hB_s_9 (x2_1.toNatClampNeg)
      refine ok_lt fun v_10 e_v_10 => ?_
      have b_v_10 : 0 ≤ v_10.toInt ∧ v_10.toInt ≤ 39 := by rw [e_v_10]; exact gX_70 hB_s_9 _
      refine ok_ix ⟨by omega, by omega⟩ ?_
      refine ok_lt fun s_11 e_s_11 => ?_
      have hB_s_11 : BX s_11 := by rw [e_s_11]; exact pX_70 hB_s_9 (by omega)
      have hF_s_11 : FR [68, 69, 70, 71, 72] [] σ s_11 := by rw [e_s_11]; exact FR.st hF_s_9 (by decide)
      have w_s_11_68 : (s_11.1 68 0).toInt = (s_9.1 68 0).toInt := by rw [e_s_11]; rfl
      refine ok_ix ⟨by omega, by omega⟩ ?_
      refine ok_lt fun v_12 e_v_12 => ?_
      refine ok_ix ⟨by omega, by omega⟩ ?_
      refine ok_lt fun s_13 e_s_13 => ?_
      have hB_s_13 : BX s_13 := by rw [e_s_13]; exact pX_71 hB_s_11 (tI_rng _)
      have hF_s_13 : FR [68, 69, 70, 71, 72] [] σ s_13 := by rw [e_s_13]; exact FR.st hF_s_11 (by decide)
      have w_s_13_68 : (s_13.1 68 0).toInt = (s_11.1 68 0).toInt := by rw [e_s_13]; rfl
      refine ok_ix ⟨by omega, by omega⟩ ?_
      have g_7 := gX_72 hB_s_13 (x2_1.toNatClampNeg)
      refine ok_lt fun v_14 e_v_14 => ?_
      have b_v_14 : (-1) ≤ v_14.toInt ∧ v_14.toInt ≤ 799 := by rw [e_v_14]; exact gX_72 hB_s_13 _
      refine ok_ix ⟨by omega, by omega⟩ ?_
      refine ok_lt fun s_15 e_s_15 => ?_
      have hB_s_15 : BX s_15 := by rw [e_s_15]; exact pX_72 hB_s_13 (by omega)
      have hF_s_15 : FR [68, 69, 70, 71, 72] [] σ s_15 := by rw [e_s_15]; exact FR.st hF_s_13 (by decide)
      have w_s_15_68 : (s_15.1 68 0).toInt = (s_13.1 68 0).toInt := by rw [e_s_15]; rfl
      have hLI_s_15 : LI s_15 := LI.two hLI_s_1 e_s_9 (by rw [e_s_13, e_s_11]; rfl) (by rw [e_s_13, e_s_11, e_s_9]; rfl) e_s_15 rfl (by have q := hLI_s_1 x2_1.toNatClampNeg; rw [e_v_8, e_v_14, show s_13.1 72 = s_1.1 72 by rw [e_s_13, e_s_11, e_s_9]; rfl]; exact q)
      have hLQ_s_15 : LQ s_15 := LQ.mv hLQ_s_1 (n := x1_1.toNatClampNeg) (m := x2_1.toNatClampNeg) (k := v_8) (b := v_10) (l := v_14) (by rw [e_s_15, e_s_13, e_s_11, e_s_9]; rfl) (by rw [e_s_15, e_s_13, e_s_11, e_s_9]; rfl) (by rw [e_s_15, e_s_13, e_s_11, e_s_9]; rfl) (by rw [e_s_15, e_s_13, e_s_11, e_s_9]; rfl) (by rw [e_s_15, e_s_13, e_s_11, e_s_9]; rfl) (by rw [e_s_15, e_s_13, e_s_11, e_s_9]; rfl) (by rw [e_s_15, e_s_13, e_s_11, e_s_9]; rfl) (hk := e_v_8) (hb := by rw [e_v_10, e_s_9]; rfl) (hl := by rw [e_v_14, e_s_13, e_s_11, e_s_9]; rfl) (hm := by have := clamp_I (x := x2_1) (by omega); omega)
      obtain ⟨t_8, ht_8, g_8⟩ : ∃ t : Int, (x1_1 + 1).toInt = t ∧ t = x1_1.toInt + (1 : Int32).toInt := ⟨_, rfl, by have h9 := fb_addI (x := x1_1) (y := (1 : Int32)) (by omega) (by omega); exact h9⟩
      refine ok_lt fun x1_16 e_x1_16 => ?_
      have q_x1_16 : x1_16.toInt = t_8 := by rw [e_x1_16]; exact ht_8
      obtain ⟨t_9, ht_9, g_9⟩ : ∃ t : Int, (x2_1 + 1).toInt = t ∧ t = x2_1.toInt + (1 : Int32).toInt := ⟨_, rfl, by have h9 := fb_addI (x := x2_1) (y := (1 : Int32)) (by omega) (by omega); exact h9⟩
      refine ok_lt fun x2_6 e_x2_6 => ?_
      have q_x2_6 : x2_6.toInt = t_9 := by rw [e_x2_6]; exact ht_9
      exact ih_a_4 _ x1_16 x2_6 s_15 (by rw [hn_a_4]; omega) ⟨rfl, (by omega), (by omega), hB_s_15, hF_s_15, hLI_s_15, hLQ_s_15, (by omega), (by omega)⟩

set_option maxHeartbeats 4000000 in
theorem s_X2_tellAll {σ : Sto} (hB : BX σ) (hLI : LI σ) (hLQ : LQ σ) (hFE : FE σ) (hFS : FS σ) (hTS : TS σ) (hON : ON σ) (hMB : MB σ) (h1n : 1 ≤ (σ.1 20 0).toInt) : OK (f_X2_tellAll σ) (fun s => BX s ∧ FR [68, 69, 70, 71, 72, 73, 74, 75, 76, 77] [] σ s ∧ LI s ∧ LQ s) := by
  unfold f_X2_tellAll
  have hF : FR [68, 69, 70, 71, 72, 73, 74, 75, 76, 77] [] σ σ := FR.rf
  have k_0 : (0 : Int32).toInt = 0 := by decide +kernel
  refine ok_lt fun s_1 e_s_1 => ?_
  have hB_s_1 : BX s_1 := by rw [e_s_1]; exact pX_68 hB (by omega)
  have hF_s_1 : FR [68, 69, 70, 71, 72, 73, 74, 75, 76, 77] [] σ s_1 := by rw [e_s_1]; exact FR.st hF (by decide)
  have w_s_1_68 : (s_1.1 68 0).toInt = (0 : Int32).toInt := by rw [e_s_1, sti_s]
  have f_s_1_20 : (s_1.1 20 0).toInt = (σ.1 20 0).toInt := by rw [hF_s_1.1 20 (by decide)]
  have hLI_s_1 : LI s_1 := by rw [e_s_1]; exact LI.st1 (by decide) hLI
  have hFE_s_1 : FE s_1 := by rw [e_s_1]; exact FE.st1 (by decide) hFE
  have hFS_s_1 : FS s_1 := by rw [e_s_1]; exact FS.st1 (by decide) hFS
  have hTS_s_1 : TS s_1 := by rw [e_s_1]; exact TS.st1 (by decide) hTS
  have hON_s_1 : ON s_1 := by rw [e_s_1]; exact ON.st1 (by decide) hON
  have hMB_s_1 : MB s_1 := by rw [e_s_1]; exact MB.st1 (by decide) hMB
  have hLQ_s_1 : LQ s_1 := fun i hi => by exfalso; omega
  refine ok_lt fun s_2 e_s_2 => ?_
  have hB_s_2 : BX s_2 := by rw [e_s_2]; exact pX_77 hB_s_1 (tI_rng _)
  have hF_s_2 : FR [68, 69, 70, 71, 72, 73, 74, 75, 76, 77] [] σ s_2 := by rw [e_s_2]; exact FR.st hF_s_1 (by decide)
  have w_s_2_68 : (s_2.1 68 0).toInt = (s_1.1 68 0).toInt := by rw [e_s_2]; rfl
  have f_s_2_20 : (s_2.1 20 0).toInt = (σ.1 20 0).toInt := by rw [hF_s_2.1 20 (by decide)]
  have hLI_s_2 : LI s_2 := by rw [e_s_2]; exact LI.st1 (by decide) hLI_s_1
  have hFE_s_2 : FE s_2 := by rw [e_s_2]; exact FE.st1 (by decide) hFE_s_1
  have hFS_s_2 : FS s_2 := by rw [e_s_2]; exact FS.st1 (by decide) hFS_s_1
  have hTS_s_2 : TS s_2 := by rw [e_s_2]; exact TS.st1 (by decide) hTS_s_1
  have hON_s_2 : ON s_2 := by rw [e_s_2]; exact ON.st1 (by decide) hON_s_1
  have hMB_s_2 : MB s_2 := by rw [e_s_2]; exact MB.st1 (by decide) hMB_s_1
  have hLQ_s_2 : LQ s_2 := by rw [e_s_2]; exact LQ.st1 (by decide) hLQ_s_1
  refine ok_cals (s_X2_tell (x1 := (0 : Int32)) (x2 := (0 : Int32)) (σ := s_2) hB_s_2 hLI_s_2 hLQ_s_2 hFE_s_2 hFS_s_2 hTS_s_2 hON_s_2 hMB_s_2 (by omega) (by omega) (by omega) (by omega)) (fun s_3 h_1 => ?_)
  obtain ⟨hB_s_3, hG_s_3, hLI_s_3, hLQ_s_3⟩ := h_1
  (try dsimp only at hB_s_3 hG_s_3 hLI_s_3 hLQ_s_3)
  have hF_s_3 : FR [68, 69, 70, 71, 72, 73, 74, 75, 76, 77] [] σ s_3 := FR.cal hF_s_2 hG_s_3 rfl rfl
  have f_s_3_20 : (s_3.1 20 0).toInt = (σ.1 20 0).toInt := by rw [hF_s_3.1 20 (by decide)]
  have hFE_s_3 : FE s_3 := FE.fr hG_s_3 (by decide) hFE_s_2
  have hFS_s_3 : FS s_3 := FS.fr hG_s_3 (by decide) hFS_s_2
  have hTS_s_3 : TS s_3 := TS.fr hG_s_3 (by decide) hTS_s_2
  have hON_s_3 : ON s_3 := ON.fr hG_s_3 (by decide) hON_s_2
  have hMB_s_3 : MB s_3 := MB.fr hG_s_3 (by decide) hMB_s_2
  refine ok_cals (s_X2_match  (σ := s_3) hB_s_3 hLI_s_3 hLQ_s_3) (fun s_4 h_2 => ?_)
  obtain ⟨hB_s_4, hG_s_4, hLI_s_4, hLQ_s_4⟩ := h_2
  (try dsimp only at hB_s_4 hG_s_4 hLI_s_4 hLQ_s_4)
  have hF_s_4 : FR [68, 69, 70, 71, 72, 73, 74, 75, 76, 77] [] σ s_4 := FR.cal hF_s_3 hG_s_4 rfl rfl
  have w_s_4_68 : (s_4.1 68 0).toInt = (s_3.1 68 0).toInt := by rw [hG_s_4.1 68 (by decide)]
  have f_s_4_20 : (s_4.1 20 0).toInt = (σ.1 20 0).toInt := by rw [hF_s_4.1 20 (by decide)]
  have hFE_s_4 : FE s_4 := FE.fr hG_s_4 (by decide) hFE_s_3
  have hFS_s_4 : FS s_4 := FS.fr hG_s_4 (by decide) hFS_s_3
  have hTS_s_4 : TS s_4 := TS.fr hG_s_4 (by decide) hTS_s_3
  have hON_s_4 : ON s_4 := ON.fr hG_s_4 (by decide) hON_s_3
  have hMB_s_4 : MB s_4 := MB.fr hG_s_4 (by decide) hMB_s_3
  refine ok_cals (s_X2_leaveOut  (σ := s_4) hB_s_4 hLI_s_4 hLQ_s_4) (fun s_5 h_3 => ?_)
  obtain ⟨hB_s_5, hG_s_5, hLI_s_5, hLQ_s_5⟩ := h_3
  (try dsimp only at hB_s_5 hG_s_5 hLI_s_5 hLQ_s_5)
  have hF_s_5 : FR [68, 69, 70, 71, 72, 73, 74, 75, 76, 77] [] σ s_5 := FR.cal hF_s_4 hG_s_5 rfl rfl
  have w_s_5_68 : (s_5.1 68 0).toInt = (s_4.1 68 0).toInt := by rw [hG_s_5.1 68 (by decide)]
  have f_s_5_20 : (s_5.1 20 0).toInt = (σ.1 20 0).toInt := by rw [hF_s_5.1 20 (by decide)]
  have hFE_s_5 : FE s_5 := FE.fr hG_s_5 (by decide) hFE_s_4
  have hFS_s_5 : FS s_5 := FS.fr hG_s_5 (by decide) hFS_s_4
  have hTS_s_5 : TS s_5 := TS.fr hG_s_5 (by decide) hTS_s_4
  have hON_s_5 : ON s_5 := ON.fr hG_s_5 (by decide) hON_s_4
  have hMB_s_5 : MB s_5 := MB.fr hG_s_5 (by decide) hMB_s_4
  refine ok_cals (s_X2_close  (σ := s_5) hB_s_5 hLI_s_5 hLQ_s_5) (fun s_6 h_4 => ?_)
  obtain ⟨hB_s_6, hG_s_6, hLI_s_6, hLQ_s_6⟩ := h_4
  (try dsimp only at hB_s_6 hG_s_6 hLI_s_6 hLQ_s_6)
  have hF_s_6 : FR [68, 69, 70, 71, 72, 73, 74, 75, 76, 77] [] σ s_6 := FR.cal hF_s_5 hG_s_6 rfl rfl
  have f_s_6_20 : (s_6.1 20 0).toInt = (σ.1 20 0).toInt := by rw [hF_s_6.1 20 (by decide)]
  have hFE_s_6 : FE s_6 := FE.fr hG_s_6 (by decide) hFE_s_5
  have hFS_s_6 : FS s_6 := FS.fr hG_s_6 (by decide) hFS_s_5
  have hTS_s_6 : TS s_6 := TS.fr hG_s_6 (by decide) hTS_s_5
  have hON_s_6 : ON s_6 := ON.fr hG_s_6 (by decide) hON_s_5
  have hMB_s_6 : MB s_6 := MB.fr hG_s_6 (by decide) hMB_s_5
  refine ok_cals (s_X2_match  (σ := s_6) hB_s_6 hLI_s_6 hLQ_s_6) (fun s_7 h_5 => ?_)
  obtain ⟨hB_s_7, hG_s_7, hLI_s_7, hLQ_s_7⟩ := h_5
  (try dsimp only at hB_s_7 hG_s_7 hLI_s_7 hLQ_s_7)
  have hF_s_7 : FR [68, 69, 70, 71, 72, 73, 74, 75, 76, 77] [] σ s_7 := FR.cal hF_s_6 hG_s_7 rfl rfl
  have w_s_7_68 : (s_7.1 68 0).toInt = (s_6.1 68 0).toInt := by rw [hG_s_7.1 68 (by decide)]
  have f_s_7_20 : (s_7.1 20 0).toInt = (σ.1 20 0).toInt := by rw [hF_s_7.1 20 (by decide)]
  have hFE_s_7 : FE s_7 := FE.fr hG_s_7 (by decide) hFE_s_6
  have hFS_s_7 : FS s_7 := FS.fr hG_s_7 (by decide) hFS_s_6
  have hTS_s_7 : TS s_7 := TS.fr hG_s_7 (by decide) hTS_s_6
  have hON_s_7 : ON s_7 := ON.fr hG_s_7 (by decide) hON_s_6
  have hMB_s_7 : MB s_7 := MB.fr hG_s_7 (by decide) hMB_s_6
  exact ok_ret ⟨hB_s_7, hF_s_7, hLI_s_7, hLQ_s_7⟩

set_option maxHeartbeats 4000000 in
theorem s_X11_adoptDraft {σ : Sto} (hB : BX σ) (hDV : DV σ) (hPI : PI σ) (hSI : SI σ) (hLI : LI σ) (hFE : FE σ) (hBV : BV σ) : OK (f_X11_adoptDraft σ) (fun s => BX s ∧ FR [0, 4, 5, 6, 7, 8, 9, 10, 11, 20, 21, 22, 23, 24, 25, 26, 27, 28, 29, 30, 31, 32, 33, 34, 35, 36, 37, 38, 39, 40, 41, 42, 43, 44, 45, 46, 47, 48, 49, 50, 51, 52, 53, 54, 55, 56, 57, 58, 59, 60, 61, 62, 63, 64, 65, 66, 67, 68, 69, 70, 71, 72, 73, 74, 75, 76, 77] [0, 1, 2, 3, 4, 5, 6] σ s ∧ PI s ∧ SI s ∧ LI s ∧ QV s ∧ FE s ∧ BV s ∧ PA s ∧ ES s ∧ TS s ∧ FS s ∧ LQ s) := by
  unfold f_X11_adoptDraft
  have hF : FR [0, 4, 5, 6, 7, 8, 9, 10, 11, 20, 21, 22, 23, 24, 25, 26, 27, 28, 29, 30, 31, 32, 33, 34, 35, 36, 37, 38, 39, 40, 41, 42, 43, 44, 45, 46, 47, 48, 49, 50, 51, 52, 53, 54, 55, 56, 57, 58, 59, 60, 61, 62, 63, 64, 65, 66, 67, 68, 69, 70, 71, 72, 73, 74, 75, 76, 77] [0, 1, 2, 3, 4, 5, 6] σ σ := FR.rf
  have k_0 : (0 : Int32).toInt = 0 := by decide +kernel
  have k_1 : (1 : Int32).toInt = 1 := by decide +kernel
  refine ok_cals (s_X3_copy_draft  (σ := σ) hB) (fun s_1 h_1 => ?_)
  obtain ⟨hB_s_1, hG_s_1, x_s_1⟩ := h_1
  (try dsimp only at hB_s_1 hG_s_1 x_s_1)
  have hF_s_1 : FR [0, 4, 5, 6, 7, 8, 9, 10, 11, 20, 21, 22, 23, 24, 25, 26, 27, 28, 29, 30, 31, 32, 33, 34, 35, 36, 37, 38, 39, 40, 41, 42, 43, 44, 45, 46, 47, 48, 49, 50, 51, 52, 53, 54, 55, 56, 57, 58, 59, 60, 61, 62, 63, 64, 65, 66, 67, 68, 69, 70, 71, 72, 73, 74, 75, 76, 77] [0, 1, 2, 3, 4, 5, 6] σ s_1 := FR.cal hF hG_s_1 rfl rfl
  have w_s_1_34 : (s_1.1 34 0).toInt = (σ.1 34 0).toInt := by rw [hG_s_1.1 34 (by decide)]
  have w_s_1_68 : (s_1.1 68 0).toInt = (σ.1 68 0).toInt := by rw [hG_s_1.1 68 (by decide)]
  have hDV_s_1 : DV s_1 := DV.fr hG_s_1 (by decide) hDV
  have hPI_s_1 : PI s_1 := PI.fr hG_s_1 (by decide) hPI
  have hSI_s_1 : SI s_1 := SI.fr hG_s_1 (by decide) hSI
  have hLI_s_1 : LI s_1 := LI.fr hG_s_1 (by decide) hLI
  have hFE_s_1 : FE s_1 := FE.fr hG_s_1 (by decide) hFE
  have hBV_s_1 : BV s_1 := BV.fr hG_s_1 (by decide) hBV
  have hLW_s_1 : LW s_1 := LW.cp hDV (gX_12 hB 0) (gX_13 hB 0) x_s_1
  have hLV_s_1 : LV s_1 := LW.lv hLW_s_1 hB_s_1
  refine ok_cals (s_X0_cut  (σ := s_1) hB_s_1 hLV_s_1 hLW_s_1 hFE_s_1) (fun s_2 h_2 => ?_)
  obtain ⟨hB_s_2, hG_s_2, hGB_s_2, hEB_s_2, hFE_s_2, hON_s_2⟩ := h_2
  (try dsimp only at hB_s_2 hG_s_2 hGB_s_2 hEB_s_2 hFE_s_2 hON_s_2)
  have hF_s_2 : FR [0, 4, 5, 6, 7, 8, 9, 10, 11, 20, 21, 22, 23, 24, 25, 26, 27, 28, 29, 30, 31, 32, 33, 34, 35, 36, 37, 38, 39, 40, 41, 42, 43, 44, 45, 46, 47, 48, 49, 50, 51, 52, 53, 54, 55, 56, 57, 58, 59, 60, 61, 62, 63, 64, 65, 66, 67, 68, 69, 70, 71, 72, 73, 74, 75, 76, 77] [0, 1, 2, 3, 4, 5, 6] σ s_2 := FR.cal hF_s_1 hG_s_2 rfl rfl
  have w_s_2_34 : (s_2.1 34 0).toInt = (s_1.1 34 0).toInt := by rw [hG_s_2.1 34 (by decide)]
  have w_s_2_68 : (s_2.1 68 0).toInt = (s_1.1 68 0).toInt := by rw [hG_s_2.1 68 (by decide)]
  have hDV_s_2 : DV s_2 := DV.fr hG_s_2 (by decide) hDV_s_1
  have hPI_s_2 : PI s_2 := PI.fr hG_s_2 (by decide) hPI_s_1
  have hSI_s_2 : SI s_2 := SI.fr hG_s_2 (by decide) hSI_s_1
  have hLI_s_2 : LI s_2 := LI.fr hG_s_2 (by decide) hLI_s_1
  have hBV_s_2 : BV s_2 := BV.fr hG_s_2 (by decide) hBV_s_1
  have hLW_s_2 : LW s_2 := LW.fr hG_s_2 (by decide) hLW_s_1
  have hLV_s_2 : LV s_2 := LV.fr hG_s_2 (by decide) hLV_s_1
  refine ok_cals (s_X8_form  (σ := s_2) hB_s_2 hEB_s_2 hBV_s_2) (fun s_3 h_3 => ?_)
  obtain ⟨hB_s_3, hG_s_3, hBV_s_3, hMB_s_3⟩ := h_3
  (try dsimp only at hB_s_3 hG_s_3 hBV_s_3 hMB_s_3)
  have hF_s_3 : FR [0, 4, 5, 6, 7, 8, 9, 10, 11, 20, 21, 22, 23, 24, 25, 26, 27, 28, 29, 30, 31, 32, 33, 34, 35, 36, 37, 38, 39, 40, 41, 42, 43, 44, 45, 46, 47, 48, 49, 50, 51, 52, 53, 54, 55, 56, 57, 58, 59, 60, 61, 62, 63, 64, 65, 66, 67, 68, 69, 70, 71, 72, 73, 74, 75, 76, 77] [0, 1, 2, 3, 4, 5, 6] σ s_3 := FR.cal hF_s_2 hG_s_3 rfl rfl
  have w_s_3_68 : (s_3.1 68 0).toInt = (s_2.1 68 0).toInt := by rw [hG_s_3.1 68 (by decide)]
  have hGB_s_3 : GB s_3 := GB.fr hG_s_3 (by decide) hGB_s_2
  have hEB_s_3 : EB s_3 := EB.fr hG_s_3 (by decide) hEB_s_2
  have hFE_s_3 : FE s_3 := FE.fr hG_s_3 (by decide) hFE_s_2
  have hON_s_3 : ON s_3 := ON.fr hG_s_3 (by decide) hON_s_2
  have hDV_s_3 : DV s_3 := DV.fr hG_s_3 (by decide) hDV_s_2
  have hPI_s_3 : PI s_3 := PI.fr hG_s_3 (by decide) hPI_s_2
  have hSI_s_3 : SI s_3 := SI.fr hG_s_3 (by decide) hSI_s_2
  have hLI_s_3 : LI s_3 := LI.fr hG_s_3 (by decide) hLI_s_2
  have hLW_s_3 : LW s_3 := LW.fr hG_s_3 (by decide) hLW_s_2
  have hLV_s_3 : LV s_3 := LV.fr hG_s_3 (by decide) hLV_s_2
  refine ok_cals (s_X1_lift  (σ := s_3) hB_s_3 hPI_s_3 hSI_s_3 hGB_s_3) (fun s_4 h_4 => ?_)
  obtain ⟨hB_s_4, hG_s_4, hPI_s_4, hSI_s_4, hPA_s_4, hES_s_4, hTS_s_4, hFS_s_4⟩ := h_4
  (try dsimp only at hB_s_4 hG_s_4 hPI_s_4 hSI_s_4 hPA_s_4 hES_s_4 hTS_s_4 hFS_s_4)
  have hF_s_4 : FR [0, 4, 5, 6, 7, 8, 9, 10, 11, 20, 21, 22, 23, 24, 25, 26, 27, 28, 29, 30, 31, 32, 33, 34, 35, 36, 37, 38, 39, 40, 41, 42, 43, 44, 45, 46, 47, 48, 49, 50, 51, 52, 53, 54, 55, 56, 57, 58, 59, 60, 61, 62, 63, 64, 65, 66, 67, 68, 69, 70, 71, 72, 73, 74, 75, 76, 77] [0, 1, 2, 3, 4, 5, 6] σ s_4 := FR.cal hF_s_3 hG_s_4 rfl rfl
  have w_s_4_34 : (s_4.1 34 0).toInt = (s_3.1 34 0).toInt := by rw [hG_s_4.1 34 (by decide)]
  have w_s_4_68 : (s_4.1 68 0).toInt = (s_3.1 68 0).toInt := by rw [hG_s_4.1 68 (by decide)]
  have hBV_s_4 : BV s_4 := BV.fr hG_s_4 (by decide) hBV_s_3
  have hMB_s_4 : MB s_4 := MB.fr hG_s_4 (by decide) hMB_s_3
  have hGB_s_4 : GB s_4 := GB.fr hG_s_4 (by decide) hGB_s_3
  have hEB_s_4 : EB s_4 := EB.fr hG_s_4 (by decide) hEB_s_3
  have hFE_s_4 : FE s_4 := FE.fr hG_s_4 (by decide) hFE_s_3
  have hON_s_4 : ON s_4 := ON.fr hG_s_4 (by decide) hON_s_3
  have hDV_s_4 : DV s_4 := DV.fr hG_s_4 (by decide) hDV_s_3
  have hLI_s_4 : LI s_4 := LI.fr hG_s_4 (by decide) hLI_s_3
  have hLW_s_4 : LW s_4 := LW.fr hG_s_4 (by decide) hLW_s_3
  have hLV_s_4 : LV s_4 := LV.fr hG_s_4 (by decide) hLV_s_3
  refine ok_cals (s_X10_judge  (σ := s_4) hB_s_4 hPI_s_4 hSI_s_4) (fun s_5 h_5 => ?_)
  obtain ⟨hB_s_5, hG_s_5⟩ := h_5
  (try dsimp only at hB_s_5 hG_s_5)
  have hF_s_5 : FR [0, 4, 5, 6, 7, 8, 9, 10, 11, 20, 21, 22, 23, 24, 25, 26, 27, 28, 29, 30, 31, 32, 33, 34, 35, 36, 37, 38, 39, 40, 41, 42, 43, 44, 45, 46, 47, 48, 49, 50, 51, 52, 53, 54, 55, 56, 57, 58, 59, 60, 61, 62, 63, 64, 65, 66, 67, 68, 69, 70, 71, 72, 73, 74, 75, 76, 77] [0, 1, 2, 3, 4, 5, 6] σ s_5 := FR.cal hF_s_4 hG_s_5 rfl rfl
  have w_s_5_34 : (s_5.1 34 0).toInt = (s_4.1 34 0).toInt := by rw [hG_s_5.1 34 (by decide)]
  have w_s_5_68 : (s_5.1 68 0).toInt = (s_4.1 68 0).toInt := by rw [hG_s_5.1 68 (by decide)]
  have hPI_s_5 : PI s_5 := PI.fr hG_s_5 (by decide) hPI_s_4
  have hSI_s_5 : SI s_5 := SI.fr hG_s_5 (by decide) hSI_s_4
  have hPA_s_5 : PA s_5 := PA.fr hG_s_5 (by decide) hPA_s_4
  have hES_s_5 : ES s_5 := ES.fr hG_s_5 (by decide) hES_s_4
  have hTS_s_5 : TS s_5 := TS.fr hG_s_5 (by decide) hTS_s_4
  have hFS_s_5 : FS s_5 := FS.fr hG_s_5 (by decide) hFS_s_4
  have hBV_s_5 : BV s_5 := BV.fr hG_s_5 (by decide) hBV_s_4
  have hMB_s_5 : MB s_5 := MB.fr hG_s_5 (by decide) hMB_s_4
  have hGB_s_5 : GB s_5 := GB.fr hG_s_5 (by decide) hGB_s_4
  have hEB_s_5 : EB s_5 := EB.fr hG_s_5 (by decide) hEB_s_4
  have hFE_s_5 : FE s_5 := FE.fr hG_s_5 (by decide) hFE_s_4
  have hON_s_5 : ON s_5 := ON.fr hG_s_5 (by decide) hON_s_4
  have hDV_s_5 : DV s_5 := DV.fr hG_s_5 (by decide) hDV_s_4
  have hLI_s_5 : LI s_5 := LI.fr hG_s_5 (by decide) hLI_s_4
  have hLW_s_5 : LW s_5 := LW.fr hG_s_5 (by decide) hLW_s_4
  have hLV_s_5 : LV s_5 := LV.fr hG_s_5 (by decide) hLV_s_4
  refine ok_cals (s_X4_flow  (σ := s_5) hB_s_5) (fun s_6 h_6 => ?_)
  obtain ⟨hB_s_6, hG_s_6⟩ := h_6
  (try dsimp only at hB_s_6 hG_s_6)
  have hF_s_6 : FR [0, 4, 5, 6, 7, 8, 9, 10, 11, 20, 21, 22, 23, 24, 25, 26, 27, 28, 29, 30, 31, 32, 33, 34, 35, 36, 37, 38, 39, 40, 41, 42, 43, 44, 45, 46, 47, 48, 49, 50, 51, 52, 53, 54, 55, 56, 57, 58, 59, 60, 61, 62, 63, 64, 65, 66, 67, 68, 69, 70, 71, 72, 73, 74, 75, 76, 77] [0, 1, 2, 3, 4, 5, 6] σ s_6 := FR.cal hF_s_5 hG_s_6 rfl rfl
  have w_s_6_34 : (s_6.1 34 0).toInt = (s_5.1 34 0).toInt := by rw [hG_s_6.1 34 (by decide)]
  have w_s_6_68 : (s_6.1 68 0).toInt = (s_5.1 68 0).toInt := by rw [hG_s_6.1 68 (by decide)]
  have hPI_s_6 : PI s_6 := PI.fr hG_s_6 (by decide) hPI_s_5
  have hSI_s_6 : SI s_6 := SI.fr hG_s_6 (by decide) hSI_s_5
  have hPA_s_6 : PA s_6 := PA.fr hG_s_6 (by decide) hPA_s_5
  have hES_s_6 : ES s_6 := ES.fr hG_s_6 (by decide) hES_s_5
  have hTS_s_6 : TS s_6 := TS.fr hG_s_6 (by decide) hTS_s_5
  have hFS_s_6 : FS s_6 := FS.fr hG_s_6 (by decide) hFS_s_5
  have hBV_s_6 : BV s_6 := BV.fr hG_s_6 (by decide) hBV_s_5
  have hMB_s_6 : MB s_6 := MB.fr hG_s_6 (by decide) hMB_s_5
  have hGB_s_6 : GB s_6 := GB.fr hG_s_6 (by decide) hGB_s_5
  have hEB_s_6 : EB s_6 := EB.fr hG_s_6 (by decide) hEB_s_5
  have hFE_s_6 : FE s_6 := FE.fr hG_s_6 (by decide) hFE_s_5
  have hON_s_6 : ON s_6 := ON.fr hG_s_6 (by decide) hON_s_5
  have hDV_s_6 : DV s_6 := DV.fr hG_s_6 (by decide) hDV_s_5
  have hLI_s_6 : LI s_6 := LI.fr hG_s_6 (by decide) hLI_s_5
  have hLW_s_6 : LW s_6 := LW.fr hG_s_6 (by decide) hLW_s_5
  have hLV_s_6 : LV s_6 := LV.fr hG_s_6 (by decide) hLV_s_5
  refine ok_lt fun s_7 e_s_7 => ?_
  have hB_s_7 : BX s_7 := by rw [e_s_7]; exact pX_68 hB_s_6 (by omega)
  have hF_s_7 : FR [0, 4, 5, 6, 7, 8, 9, 10, 11, 20, 21, 22, 23, 24, 25, 26, 27, 28, 29, 30, 31, 32, 33, 34, 35, 36, 37, 38, 39, 40, 41, 42, 43, 44, 45, 46, 47, 48, 49, 50, 51, 52, 53, 54, 55, 56, 57, 58, 59, 60, 61, 62, 63, 64, 65, 66, 67, 68, 69, 70, 71, 72, 73, 74, 75, 76, 77] [0, 1, 2, 3, 4, 5, 6] σ s_7 := by rw [e_s_7]; exact FR.st hF_s_6 (by decide)
  have w_s_7_34 : (s_7.1 34 0).toInt = (s_6.1 34 0).toInt := by rw [e_s_7]; rfl
  have w_s_7_68 : (s_7.1 68 0).toInt = (0 : Int32).toInt := by rw [e_s_7, sti_s]
  have hPI_s_7 : PI s_7 := by rw [e_s_7]; exact PI.st1 (by decide) hPI_s_6
  have hSI_s_7 : SI s_7 := by rw [e_s_7]; exact SI.st1 (by decide) hSI_s_6
  have hPA_s_7 : PA s_7 := by rw [e_s_7]; exact PA.st1 (by decide) hPA_s_6
  have hES_s_7 : ES s_7 := by rw [e_s_7]; exact ES.st1 (by decide) hES_s_6
  have hTS_s_7 : TS s_7 := by rw [e_s_7]; exact TS.st1 (by decide) hTS_s_6
  have hFS_s_7 : FS s_7 := by rw [e_s_7]; exact FS.st1 (by decide) hFS_s_6
  have hBV_s_7 : BV s_7 := by rw [e_s_7]; exact BV.st1 (by decide) hBV_s_6
  have hMB_s_7 : MB s_7 := by rw [e_s_7]; exact MB.st1 (by decide) hMB_s_6
  have hGB_s_7 : GB s_7 := by rw [e_s_7]; exact GB.st1 (by decide) hGB_s_6
  have hEB_s_7 : EB s_7 := by rw [e_s_7]; exact EB.st1 (by decide) hEB_s_6
  have hFE_s_7 : FE s_7 := by rw [e_s_7]; exact FE.st1 (by decide) hFE_s_6
  have hON_s_7 : ON s_7 := by rw [e_s_7]; exact ON.st1 (by decide) hON_s_6
  have hDV_s_7 : DV s_7 := by rw [e_s_7]; exact DV.st1 (by decide) hDV_s_6
  have hLI_s_7 : LI s_7 := by rw [e_s_7]; exact LI.st1 (by decide) hLI_s_6
  have hLW_s_7 : LW s_7 := by rw [e_s_7]; exact LW.st1 (by decide) hLW_s_6
  have hLV_s_7 : LV s_7 := by rw [e_s_7]; exact LV.st1 (by decide) hLV_s_6
  have hLQ_s_7 : LQ s_7 := fun i hi => by exfalso; omega
  refine ok_jnI1 (fun (s_8 : Sto) => True ∧ (BX s_8) ∧ (FR [0, 4, 5, 6, 7, 8, 9, 10, 11, 20, 21, 22, 23, 24, 25, 26, 27, 28, 29, 30, 31, 32, 33, 34, 35, 36, 37, 38, 39, 40, 41, 42, 43, 44, 45, 46, 47, 48, 49, 50, 51, 52, 53, 54, 55, 56, 57, 58, 59, 60, 61, 62, 63, 64, 65, 66, 67, 68, 69, 70, 71, 72, 73, 74, 75, 76, 77] [0, 1, 2, 3, 4, 5, 6] σ s_8) ∧ (PI s_8) ∧ (SI s_8) ∧ (LI s_8) ∧ (FE s_8) ∧ (BV s_8) ∧ (LW s_8) ∧ (PA s_8) ∧ (ES s_8) ∧ (TS s_8) ∧ (FS s_8) ∧ (LQ s_8)) ?_ ?_
  · intro s_8 hJ
    obtain ⟨-, hB_s_8, hF_s_8, hPI_s_8, hSI_s_8, hLI_s_8, hFE_s_8, hBV_s_8, hLW_s_8, hPA_s_8, hES_s_8, hTS_s_8, hFS_s_8, hLQ_s_8⟩ := hJ
    refine ok_lt fun s_9 e_s_9 => ?_
    have hB_s_9 : BX s_9 := by rw [e_s_9]; exact pX_0 hB_s_8 (by omega)
    have hF_s_9 : FR [0, 4, 5, 6, 7, 8, 9, 10, 11, 20, 21, 22, 23, 24, 25, 26, 27, 28, 29, 30, 31, 32, 33, 34, 35, 36, 37, 38, 39, 40, 41, 42, 43, 44, 45, 46, 47, 48, 49, 50, 51, 52, 53, 54, 55, 56, 57, 58, 59, 60, 61, 62, 63, 64, 65, 66, 67, 68, 69, 70, 71, 72, 73, 74, 75, 76, 77] [0, 1, 2, 3, 4, 5, 6] σ s_9 := by rw [e_s_9]; exact FR.st hF_s_8 (by decide)
    have w_s_9_34 : (s_9.1 34 0).toInt = (s_8.1 34 0).toInt := by rw [e_s_9]; rfl
    have w_s_9_68 : (s_9.1 68 0).toInt = (s_8.1 68 0).toInt := by rw [e_s_9]; rfl
    have hPI_s_9 : PI s_9 := by rw [e_s_9]; exact PI.st1 (by decide) hPI_s_8
    have hSI_s_9 : SI s_9 := by rw [e_s_9]; exact SI.st1 (by decide) hSI_s_8
    have hLI_s_9 : LI s_9 := by rw [e_s_9]; exact LI.st1 (by decide) hLI_s_8
    have hFE_s_9 : FE s_9 := by rw [e_s_9]; exact FE.st1 (by decide) hFE_s_8
    have hBV_s_9 : BV s_9 := by rw [e_s_9]; exact BV.st1 (by decide) hBV_s_8
    have hLW_s_9 : LW s_9 := by rw [e_s_9]; exact LW.st1 (by decide) hLW_s_8
    have hPA_s_9 : PA s_9 := by rw [e_s_9]; exact PA.st1 (by decide) hPA_s_8
    have hES_s_9 : ES s_9 := by rw [e_s_9]; exact ES.st1 (by decide) hES_s_8
    have hTS_s_9 : TS s_9 := by rw [e_s_9]; exact TS.st1 (by decide) hTS_s_8
    have hFS_s_9 : FS s_9 := by rw [e_s_9]; exact FS.st1 (by decide) hFS_s_8
    have hLQ_s_9 : LQ s_9 := by rw [e_s_9]; exact LQ.st1 (by decide) hLQ_s_8
    have hQV_s_9 : QV s_9 := QV.of hLW_s_9 hB_s_9 (fun _ _ _ => rfl)
    exact ok_ret ⟨hB_s_9, hF_s_9, hPI_s_9, hSI_s_9, hLI_s_9, hQV_s_9, hFE_s_9, hBV_s_9, hPA_s_9, hES_s_9, hTS_s_9, hFS_s_9, hLQ_s_9⟩
  · intro k_71 hk_k_71
    have g_8 := gX_34 hB_s_7 0
    refine ok_ite (fun c_7 => ?_) (fun c_7 => ?_)
    · rw [fa_eq] at c_7
      refine ok_cals (s_X2_tellAll  (σ := s_7) hB_s_7 hLI_s_7 hLQ_s_7 hFE_s_7 hFS_s_7 hTS_s_7 hON_s_7 hMB_s_7 hEB_s_7.1) (fun s_11 h_9 => ?_)
      obtain ⟨hB_s_11, hG_s_11, hLI_s_11, hLQ_s_11⟩ := h_9
      (try dsimp only at hB_s_11 hG_s_11 hLI_s_11 hLQ_s_11)
      have hF_s_11 : FR [0, 4, 5, 6, 7, 8, 9, 10, 11, 20, 21, 22, 23, 24, 25, 26, 27, 28, 29, 30, 31, 32, 33, 34, 35, 36, 37, 38, 39, 40, 41, 42, 43, 44, 45, 46, 47, 48, 49, 50, 51, 52, 53, 54, 55, 56, 57, 58, 59, 60, 61, 62, 63, 64, 65, 66, 67, 68, 69, 70, 71, 72, 73, 74, 75, 76, 77] [0, 1, 2, 3, 4, 5, 6] σ s_11 := FR.cal hF_s_7 hG_s_11 rfl rfl
      have w_s_11_34 : (s_11.1 34 0).toInt = (s_7.1 34 0).toInt := by rw [hG_s_11.1 34 (by decide)]
      have hPI_s_11 : PI s_11 := PI.fr hG_s_11 (by decide) hPI_s_7
      have hSI_s_11 : SI s_11 := SI.fr hG_s_11 (by decide) hSI_s_7
      have hPA_s_11 : PA s_11 := PA.fr hG_s_11 (by decide) hPA_s_7
      have hES_s_11 : ES s_11 := ES.fr hG_s_11 (by decide) hES_s_7
      have hTS_s_11 : TS s_11 := TS.fr hG_s_11 (by decide) hTS_s_7
      have hFS_s_11 : FS s_11 := FS.fr hG_s_11 (by decide) hFS_s_7
      have hBV_s_11 : BV s_11 := BV.fr hG_s_11 (by decide) hBV_s_7
      have hMB_s_11 : MB s_11 := MB.fr hG_s_11 (by decide) hMB_s_7
      have hGB_s_11 : GB s_11 := GB.fr hG_s_11 (by decide) hGB_s_7
      have hEB_s_11 : EB s_11 := EB.fr hG_s_11 (by decide) hEB_s_7
      have hFE_s_11 : FE s_11 := FE.fr hG_s_11 (by decide) hFE_s_7
      have hON_s_11 : ON s_11 := ON.fr hG_s_11 (by decide) hON_s_7
      have hDV_s_11 : DV s_11 := DV.fr hG_s_11 (by decide) hDV_s_7
      have hLW_s_11 : LW s_11 := LW.fr hG_s_11 (by decide) hLW_s_7
      have hLV_s_11 : LV s_11 := LV.fr hG_s_11 (by decide) hLV_s_7
      exact hk_k_71 s_11 ⟨trivial, hB_s_11, hF_s_11, hPI_s_11, hSI_s_11, hLI_s_11, hFE_s_11, hBV_s_11, hLW_s_11, hPA_s_11, hES_s_11, hTS_s_11, hFS_s_11, hLQ_s_11⟩
    · rw [fa_eq] at c_7
      exact hk_k_71 s_7 ⟨trivial, hB_s_7, hF_s_7, hPI_s_7, hSI_s_7, hLI_s_7, hFE_s_7, hBV_s_7, hLW_s_7, hPA_s_7, hES_s_7, hTS_s_7, hFS_s_7, hLQ_s_7⟩

set_option maxHeartbeats 4000000 in
theorem s_X11_code {σ : Sto} (hB : BX σ) (hPI : PI σ) (hSI : SI σ) (hLI : LI σ) (hQV : QV σ) (hFE : FE σ) (hBV : BV σ) (hPA : PA σ) (hES : ES σ) (hTS : TS σ) (hFS : FS σ) (hLQ : LQ σ) : OK (f_X11_code σ) (fun r => ((-6) ≤ r.1.toInt ∧ r.1.toInt ≤ 40) ∧ BX r.2 ∧ FR [0, 2, 3, 4, 5, 6, 7, 8, 9, 10, 11, 12, 13, 14, 15, 16, 17, 18, 19, 20, 21, 22, 23, 24, 25, 26, 27, 28, 29, 30, 31, 32, 33, 34, 35, 36, 37, 38, 39, 40, 41, 42, 43, 44, 45, 46, 47, 48, 49, 50, 51, 52, 53, 54, 55, 56, 57, 58, 59, 60, 61, 62, 63, 64, 65, 66, 67, 68, 69, 70, 71, 72, 73, 74, 75, 76, 77] [0, 1, 2, 3, 4, 5, 6] σ r.2 ∧ PI r.2 ∧ SI r.2 ∧ LI r.2 ∧ QV r.2 ∧ FE r.2 ∧ BV r.2 ∧ PA r.2 ∧ ES r.2 ∧ TS r.2 ∧ FS r.2 ∧ LQ r.2) := by
  unfold f_X11_code
  have hF : FR [0, 2, 3, 4, 5, 6, 7, 8, 9, 10, 11, 12, 13, 14, 15, 16, 17, 18, 19, 20, 21, 22, 23, 24, 25, 26, 27, 28, 29, 30, 31, 32, 33, 34, 35, 36, 37, 38, 39, 40, 41, 42, 43, 44, 45, 46, 47, 48, 49, 50, 51, 52, 53, 54, 55, 56, 57, 58, 59, 60, 61, 62, 63, 64, 65, 66, 67, 68, 69, 70, 71, 72, 73, 74, 75, 76, 77] [0, 1, 2, 3, 4, 5, 6] σ σ := FR.rf
  have k_m1 : ((-1) : Int32).toInt = -1 := by decide +kernel
  have k_0 : (0 : Int32).toInt = 0 := by decide +kernel
  refine ok_calv (s_X9_read_draft  (σ := σ) hB) (fun v_1 s_1 h_1 => ?_)
  obtain ⟨b_v_1, hB_s_1, hG_s_1, hDS_s_1, x_s_1⟩ := h_1
  (try dsimp only at b_v_1 hB_s_1 hG_s_1 hDS_s_1 x_s_1)
  have hF_s_1 : FR [0, 2, 3, 4, 5, 6, 7, 8, 9, 10, 11, 12, 13, 14, 15, 16, 17, 18, 19, 20, 21, 22, 23, 24, 25, 26, 27, 28, 29, 30, 31, 32, 33, 34, 35, 36, 37, 38, 39, 40, 41, 42, 43, 44, 45, 46, 47, 48, 49, 50, 51, 52, 53, 54, 55, 56, 57, 58, 59, 60, 61, 62, 63, 64, 65, 66, 67, 68, 69, 70, 71, 72, 73, 74, 75, 76, 77] [0, 1, 2, 3, 4, 5, 6] σ s_1 := FR.cal hF hG_s_1 rfl rfl
  have w_s_1_20 : (s_1.1 20 0).toInt = (σ.1 20 0).toInt := by rw [hG_s_1.1 20 (by decide)]
  have hPI_s_1 : PI s_1 := PI.fr hG_s_1 (by decide) hPI
  have hSI_s_1 : SI s_1 := SI.fr hG_s_1 (by decide) hSI
  have hLI_s_1 : LI s_1 := LI.fr hG_s_1 (by decide) hLI
  have hQV_s_1 : QV s_1 := QV.fr hG_s_1 (by decide) hQV
  have hFE_s_1 : FE s_1 := FE.fr hG_s_1 (by decide) hFE
  have hBV_s_1 : BV s_1 := BV.fr hG_s_1 (by decide) hBV
  have hPA_s_1 : PA s_1 := PA.fr hG_s_1 (by decide) hPA
  have hES_s_1 : ES s_1 := ES.fr hG_s_1 (by decide) hES
  have hTS_s_1 : TS s_1 := TS.fr hG_s_1 (by decide) hTS
  have hFS_s_1 : FS s_1 := FS.fr hG_s_1 (by decide) hFS
  have hLQ_s_1 : LQ s_1 := LQ.fr hG_s_1 (by decide) hLQ
  have h1s : v_1.toInt = 1 → 1 ≤ (s_1.1 12 0).toInt := fun h => (x_s_1.2 h).1
  clear x_s_1
  refine ok_ite (fun c_2 => ?_) (fun c_2 => ?_)
  · rw [fa_eq] at c_2
    exact ok_ret ⟨(by (try dsimp only); omega), hB_s_1, hF_s_1, hPI_s_1, hSI_s_1, hLI_s_1, hQV_s_1, hFE_s_1, hBV_s_1, hPA_s_1, hES_s_1, hTS_s_1, hFS_s_1, hLQ_s_1⟩
  · rw [fa_eq] at c_2
    refine ok_calv (s_X3_judge_draft  (σ := s_1) hB_s_1 (h1s (by omega))) (fun v_3 s_3 h_3 => ?_)
    obtain ⟨b_v_3, hB_s_3, hG_s_3, x_s_3⟩ := h_3
    (try dsimp only at b_v_3 hB_s_3 hG_s_3 x_s_3)
    have hF_s_3 : FR [0, 2, 3, 4, 5, 6, 7, 8, 9, 10, 11, 12, 13, 14, 15, 16, 17, 18, 19, 20, 21, 22, 23, 24, 25, 26, 27, 28, 29, 30, 31, 32, 33, 34, 35, 36, 37, 38, 39, 40, 41, 42, 43, 44, 45, 46, 47, 48, 49, 50, 51, 52, 53, 54, 55, 56, 57, 58, 59, 60, 61, 62, 63, 64, 65, 66, 67, 68, 69, 70, 71, 72, 73, 74, 75, 76, 77] [0, 1, 2, 3, 4, 5, 6] σ s_3 := FR.cal hF_s_1 hG_s_3 rfl rfl
    have w_s_3_20 : (s_3.1 20 0).toInt = (s_1.1 20 0).toInt := by rw [hG_s_3.1 20 (by decide)]
    have hDS_s_3 : DS s_3 := DS.fr hG_s_3 (by decide) hDS_s_1
    have hPI_s_3 : PI s_3 := PI.fr hG_s_3 (by decide) hPI_s_1
    have hSI_s_3 : SI s_3 := SI.fr hG_s_3 (by decide) hSI_s_1
    have hLI_s_3 : LI s_3 := LI.fr hG_s_3 (by decide) hLI_s_1
    have hQV_s_3 : QV s_3 := QV.fr hG_s_3 (by decide) hQV_s_1
    have hFE_s_3 : FE s_3 := FE.fr hG_s_3 (by decide) hFE_s_1
    have hBV_s_3 : BV s_3 := BV.fr hG_s_3 (by decide) hBV_s_1
    have hPA_s_3 : PA s_3 := PA.fr hG_s_3 (by decide) hPA_s_1
    have hES_s_3 : ES s_3 := ES.fr hG_s_3 (by decide) hES_s_1
    have hTS_s_3 : TS s_3 := TS.fr hG_s_3 (by decide) hTS_s_1
    have hFS_s_3 : FS s_3 := FS.fr hG_s_3 (by decide) hFS_s_1
    have hLQ_s_3 : LQ s_3 := LQ.fr hG_s_3 (by decide) hLQ_s_1
    refine ok_ite (fun c_4 => ?_) (fun c_4 => ?_)
    · rw [fa_eq] at c_4
      refine ok_lt fun s_5 e_s_5 => ?_
      have hB_s_5 : BX s_5 := by rw [e_s_5]; exact pX_2 hB_s_3 (by omega)
      have hF_s_5 : FR [0, 2, 3, 4, 5, 6, 7, 8, 9, 10, 11, 12, 13, 14, 15, 16, 17, 18, 19, 20, 21, 22, 23, 24, 25, 26, 27, 28, 29, 30, 31, 32, 33, 34, 35, 36, 37, 38, 39, 40, 41, 42, 43, 44, 45, 46, 47, 48, 49, 50, 51, 52, 53, 54, 55, 56, 57, 58, 59, 60, 61, 62, 63, 64, 65, 66, 67, 68, 69, 70, 71, 72, 73, 74, 75, 76, 77] [0, 1, 2, 3, 4, 5, 6] σ s_5 := by rw [e_s_5]; exact FR.st hF_s_3 (by decide)
      have w_s_5_20 : (s_5.1 20 0).toInt = (s_3.1 20 0).toInt := by rw [e_s_5]; rfl
      have hDS_s_5 : DS s_5 := by rw [e_s_5]; exact DS.st1 (by decide) hDS_s_3
      have hPI_s_5 : PI s_5 := by rw [e_s_5]; exact PI.st1 (by decide) hPI_s_3
      have hSI_s_5 : SI s_5 := by rw [e_s_5]; exact SI.st1 (by decide) hSI_s_3
      have hLI_s_5 : LI s_5 := by rw [e_s_5]; exact LI.st1 (by decide) hLI_s_3
      have hQV_s_5 : QV s_5 := by rw [e_s_5]; exact QV.st1 (by decide) hQV_s_3
      have hFE_s_5 : FE s_5 := by rw [e_s_5]; exact FE.st1 (by decide) hFE_s_3
      have hBV_s_5 : BV s_5 := by rw [e_s_5]; exact BV.st1 (by decide) hBV_s_3
      have hPA_s_5 : PA s_5 := by rw [e_s_5]; exact PA.st1 (by decide) hPA_s_3
      have hES_s_5 : ES s_5 := by rw [e_s_5]; exact ES.st1 (by decide) hES_s_3
      have hTS_s_5 : TS s_5 := by rw [e_s_5]; exact TS.st1 (by decide) hTS_s_3
      have hFS_s_5 : FS s_5 := by rw [e_s_5]; exact FS.st1 (by decide) hFS_s_3
      have hLQ_s_5 : LQ s_5 := by rw [e_s_5]; exact LQ.st1 (by decide) hLQ_s_3
      have h1t := h1s (by omega)
      have hDV_s_3 : DV s_3 := DV.of (σ := s_1) (v := v_3.toInt) h1t hDS_s_1 hB_s_1 (by omega) x_s_3 (fun k h1 h2 h3 => hG_s_3.1 k (by simp; omega))
      have hDV_s_5 : DV s_5 := by rw [e_s_5]; exact DV.st1 (by decide) hDV_s_3
      refine ok_cals (s_X11_adoptDraft  (σ := s_5) hB_s_5 hDV_s_5 hPI_s_5 hSI_s_5 hLI_s_5 hFE_s_5 hBV_s_5) (fun s_6 h_5 => ?_)
      obtain ⟨hB_s_6, hG_s_6, hPI_s_6, hSI_s_6, hLI_s_6, hQV_s_6, hFE_s_6, hBV_s_6, hPA_s_6, hES_s_6, hTS_s_6, hFS_s_6, hLQ_s_6⟩ := h_5
      (try dsimp only at hB_s_6 hG_s_6 hPI_s_6 hSI_s_6 hLI_s_6 hQV_s_6 hFE_s_6 hBV_s_6 hPA_s_6 hES_s_6 hTS_s_6 hFS_s_6 hLQ_s_6)
      have hF_s_6 : FR [0, 2, 3, 4, 5, 6, 7, 8, 9, 10, 11, 12, 13, 14, 15, 16, 17, 18, 19, 20, 21, 22, 23, 24, 25, 26, 27, 28, 29, 30, 31, 32, 33, 34, 35, 36, 37, 38, 39, 40, 41, 42, 43, 44, 45, 46, 47, 48, 49, 50, 51, 52, 53, 54, 55, 56, 57, 58, 59, 60, 61, 62, 63, 64, 65, 66, 67, 68, 69, 70, 71, 72, 73, 74, 75, 76, 77] [0, 1, 2, 3, 4, 5, 6] σ s_6 := FR.cal hF_s_5 hG_s_6 rfl rfl
      have hDS_s_6 : DS s_6 := DS.fr hG_s_6 (by decide) hDS_s_5
      have hDV_s_6 : DV s_6 := DV.fr hG_s_6 (by decide) hDV_s_5
      have g_6 := gX_20 hB_s_6 0
      exact ok_ret ⟨(by (try dsimp only); omega), hB_s_6, hF_s_6, hPI_s_6, hSI_s_6, hLI_s_6, hQV_s_6, hFE_s_6, hBV_s_6, hPA_s_6, hES_s_6, hTS_s_6, hFS_s_6, hLQ_s_6⟩
    · rw [fa_eq] at c_4
      exact ok_ret ⟨(by (try dsimp only); omega), hB_s_3, hF_s_3, hPI_s_3, hSI_s_3, hLI_s_3, hQV_s_3, hFE_s_3, hBV_s_3, hPA_s_3, hES_s_3, hTS_s_3, hFS_s_3, hLQ_s_3⟩

set_option maxHeartbeats 4000000 in
theorem s_X11_isInstruction {x1 : Int32} {x2 : Int32} : OK (f_X11_isInstruction x1 x2) (fun v => (0 ≤ v.toInt ∧ v.toInt ≤ 1) ∧ ((v.toInt = 1 → VI x1 x2))) := by
  unfold f_X11_isInstruction
  have k_0 : (0 : Int32).toInt = 0 := by decide +kernel
  have k_1 : (1 : Int32).toInt = 1 := by decide +kernel
  have k_6 : (6 : Int32).toInt = 6 := by decide +kernel
  have k_40 : (40 : Int32).toInt = 40 := by decide +kernel
  have k_107 : (107 : Int32).toInt = 107 := by decide +kernel
  have k_999 : (999 : Int32).toInt = 999 := by decide +kernel
  refine ok_ite (fun c_1 => ?_) (fun c_1 => ?_)
  · have c_1 := c_1
    refine ok_jn ?_
    refine ok_ite (fun c_2 => ?_) (fun c_2 => ?_)
    · rw [fa_lt] at c_2
      exact ok_ret ⟨(by (try dsimp only); omega), (by (try dsimp only); first | exact fun h => (by exfalso; omega) | exact fun _ => vi_j (by omega) (by omega) (by omega) | exact fun _ => vi_k (by omega) (by omega) (by omega) | exact fun _ => vi_v (by omega) (by omega) (by omega) | exact fun _ => vi_b (x_v_11.1 (by omega)) (by omega))⟩
    · rw [fa_lt] at c_2
      refine ok_ite (fun c_3 => ?_) (fun c_3 => ?_)
      · rw [fa_le] at c_3
        exact ok_ret ⟨(by (try dsimp only); omega), (by (try dsimp only); first | exact fun h => (by exfalso; omega) | exact fun _ => vi_j (by omega) (by omega) (by omega) | exact fun _ => vi_k (by omega) (by omega) (by omega) | exact fun _ => vi_v (by omega) (by omega) (by omega) | exact fun _ => vi_b (x_v_11.1 (by omega)) (by omega))⟩
      · rw [fa_le] at c_3
        exact ok_ret ⟨(by (try dsimp only); omega), (by (try dsimp only); first | exact fun h => (by exfalso; omega) | exact fun _ => vi_j (by omega) (by omega) (by omega) | exact fun _ => vi_k (by omega) (by omega) (by omega) | exact fun _ => vi_v (by omega) (by omega) (by omega) | exact fun _ => vi_b (x_v_11.1 (by omega)) (by omega))⟩
  · have c_1 := c_1
    refine ok_ite (fun c_4 => ?_) (fun c_4 => ?_)
    · have c_4 := c_4
      refine ok_jn ?_
      refine ok_ite (fun c_5 => ?_) (fun c_5 => ?_)
      · rw [fa_lt] at c_5
        exact ok_ret ⟨(by (try dsimp only); omega), (by (try dsimp only); first | exact fun h => (by exfalso; omega) | exact fun _ => vi_j (by omega) (by omega) (by omega) | exact fun _ => vi_k (by omega) (by omega) (by omega) | exact fun _ => vi_v (by omega) (by omega) (by omega) | exact fun _ => vi_b (x_v_11.1 (by omega)) (by omega))⟩
      · rw [fa_lt] at c_5
        refine ok_ite (fun c_6 => ?_) (fun c_6 => ?_)
        · rw [fa_lt] at c_6
          exact ok_ret ⟨(by (try dsimp only); omega), (by (try dsimp only); first | exact fun h => (by exfalso; omega) | exact fun _ => vi_j (by omega) (by omega) (by omega) | exact fun _ => vi_k (by omega) (by omega) (by omega) | exact fun _ => vi_v (by omega) (by omega) (by omega) | exact fun _ => vi_b (x_v_11.1 (by omega)) (by omega))⟩
        · rw [fa_lt] at c_6
          exact ok_ret ⟨(by (try dsimp only); omega), (by (try dsimp only); first | exact fun h => (by exfalso; omega) | exact fun _ => vi_j (by omega) (by omega) (by omega) | exact fun _ => vi_k (by omega) (by omega) (by omega) | exact fun _ => vi_v (by omega) (by omega) (by omega) | exact fun _ => vi_b (x_v_11.1 (by omega)) (by omega))⟩
    · have c_4 := c_4
      refine ok_ite (fun c_7 => ?_) (fun c_7 => ?_)
      · have c_7 := c_7
        refine ok_jn ?_
        refine ok_ite (fun c_8 => ?_) (fun c_8 => ?_)
        · rw [fa_lt] at c_8
          exact ok_ret ⟨(by (try dsimp only); omega), (by (try dsimp only); first | exact fun h => (by exfalso; omega) | exact fun _ => vi_j (by omega) (by omega) (by omega) | exact fun _ => vi_k (by omega) (by omega) (by omega) | exact fun _ => vi_v (by omega) (by omega) (by omega) | exact fun _ => vi_b (x_v_11.1 (by omega)) (by omega))⟩
        · rw [fa_lt] at c_8
          refine ok_ite (fun c_9 => ?_) (fun c_9 => ?_)
          · rw [fa_le] at c_9
            exact ok_ret ⟨(by (try dsimp only); omega), (by (try dsimp only); first | exact fun h => (by exfalso; omega) | exact fun _ => vi_j (by omega) (by omega) (by omega) | exact fun _ => vi_k (by omega) (by omega) (by omega) | exact fun _ => vi_v (by omega) (by omega) (by omega) | exact fun _ => vi_b (x_v_11.1 (by omega)) (by omega))⟩
          · rw [fa_le] at c_9
            exact ok_ret ⟨(by (try dsimp only); omega), (by (try dsimp only); first | exact fun h => (by exfalso; omega) | exact fun _ => vi_j (by omega) (by omega) (by omega) | exact fun _ => vi_k (by omega) (by omega) (by omega) | exact fun _ => vi_v (by omega) (by omega) (by omega) | exact fun _ => vi_b (x_v_11.1 (by omega)) (by omega))⟩
      · have c_7 := c_7
        refine ok_calp (s_X11_isBare (x1 := x1) ) (fun v_11 h_10 => ?_)
        obtain ⟨b_v_11, x_v_11⟩ := h_10
        (try dsimp only at b_v_11 x_v_11)
        refine ok_jn ?_
        refine ok_ite (fun c_11 => ?_) (fun c_11 => ?_)
        · rw [fa_eq] at c_11
          exact ok_ret ⟨(by (try dsimp only); omega), (by (try dsimp only); first | exact fun h => (by exfalso; omega) | exact fun _ => vi_j (by omega) (by omega) (by omega) | exact fun _ => vi_k (by omega) (by omega) (by omega) | exact fun _ => vi_v (by omega) (by omega) (by omega) | exact fun _ => vi_b (x_v_11.1 (by omega)) (by omega))⟩
        · rw [fa_eq] at c_11
          refine ok_ite (fun c_12 => ?_) (fun c_12 => ?_)
          · rw [fa_eq] at c_12
            exact ok_ret ⟨(by (try dsimp only); omega), (by (try dsimp only); first | exact fun h => (by exfalso; omega) | exact fun _ => vi_j (by omega) (by omega) (by omega) | exact fun _ => vi_k (by omega) (by omega) (by omega) | exact fun _ => vi_v (by omega) (by omega) (by omega) | exact fun _ => vi_b (x_v_11.1 (by omega)) (by omega))⟩
          · rw [fa_eq] at c_12
            exact ok_ret ⟨(by (try dsimp only); omega), (by (try dsimp only); first | exact fun h => (by exfalso; omega) | exact fun _ => vi_j (by omega) (by omega) (by omega) | exact fun _ => vi_k (by omega) (by omega) (by omega) | exact fun _ => vi_v (by omega) (by omega) (by omega) | exact fun _ => vi_b (x_v_11.1 (by omega)) (by omega))⟩

set_option maxHeartbeats 4000000 in
theorem s_X3_copy_draft_listing {σ : Sto} (hB : BX σ) : OK (f_X3_copy_draft_listing σ) (fun s => BX s ∧ FR [12, 13, 14, 15, 16, 17, 18, 19] [] σ s ∧ ((s.1 12 0).toInt = (σ.1 4 0).toInt ∧ (s.1 13 0).toInt = (σ.1 5 0).toInt ∧ (∀ i, i < 40 → s.1 14 i = σ.1 6 i ∧ s.1 15 i = σ.1 7 i ∧ s.1 16 i = σ.1 8 i) ∧ (∀ h, h < 3 → s.1 17 h = σ.1 9 h ∧ s.1 18 h = σ.1 10 h ∧ s.1 19 h = σ.1 11 h))) := by
  unfold f_X3_copy_draft_listing
  have hF : FR [12, 13, 14, 15, 16, 17, 18, 19] [] σ σ := FR.rf
  have g_1 := gX_4 hB 0
  refine ok_lt fun s_1 e_s_1 => ?_
  have hB_s_1 : BX s_1 := by rw [e_s_1]; exact pX_12 hB (by omega)
  have hF_s_1 : FR [12, 13, 14, 15, 16, 17, 18, 19] [] σ s_1 := by rw [e_s_1]; exact FR.st hF (by decide)
  have g_2 := gX_5 hB_s_1 0
  have g_3 : (s_1.1 5 0).toInt = (σ.1 5 0).toInt := by rw [hF_s_1.1 5 (by decide)]
  have g_4 := gX_5 hB 0
  refine ok_lt fun s_2 e_s_2 => ?_
  have hB_s_2 : BX s_2 := by rw [e_s_2]; exact pX_13 hB_s_1 (by omega)
  have hF_s_2 : FR [12, 13, 14, 15, 16, 17, 18, 19] [] σ s_2 := by rw [e_s_2]; exact FR.st hF_s_1 (by decide)
  refine ok_lt fun s_3 e_s_3 => ?_
  have hB_s_3 : BX s_3 := by rw [e_s_3]; exact BD.stc hB_s_2 (fun j => by unfold va_cpy; split; exact hB_s_2 6 _; exact hB_s_2 14 j)
  have hF_s_3 : FR [12, 13, 14, 15, 16, 17, 18, 19] [] σ s_3 := by rw [e_s_3]; exact FR.stc hF_s_2 (by decide)
  refine ok_lt fun s_4 e_s_4 => ?_
  have hB_s_4 : BX s_4 := by rw [e_s_4]; exact BD.stc hB_s_3 (fun j => by unfold va_cpy; split; exact hB_s_3 7 _; exact hB_s_3 15 j)
  have hF_s_4 : FR [12, 13, 14, 15, 16, 17, 18, 19] [] σ s_4 := by rw [e_s_4]; exact FR.stc hF_s_3 (by decide)
  refine ok_lt fun s_5 e_s_5 => ?_
  have hB_s_5 : BX s_5 := by rw [e_s_5]; exact BD.stc hB_s_4 (fun j => by unfold va_cpy; split; exact hB_s_4 8 _; exact hB_s_4 16 j)
  have hF_s_5 : FR [12, 13, 14, 15, 16, 17, 18, 19] [] σ s_5 := by rw [e_s_5]; exact FR.stc hF_s_4 (by decide)
  refine ok_lt fun s_6 e_s_6 => ?_
  have hB_s_6 : BX s_6 := by rw [e_s_6]; exact BD.stc hB_s_5 (fun j => by unfold va_cpy; split; exact hB_s_5 9 _; exact hB_s_5 17 j)
  have hF_s_6 : FR [12, 13, 14, 15, 16, 17, 18, 19] [] σ s_6 := by rw [e_s_6]; exact FR.stc hF_s_5 (by decide)
  refine ok_lt fun s_7 e_s_7 => ?_
  have hB_s_7 : BX s_7 := by rw [e_s_7]; exact BD.stc hB_s_6 (fun j => by unfold va_cpy; split; exact hB_s_6 10 _; exact hB_s_6 18 j)
  have hF_s_7 : FR [12, 13, 14, 15, 16, 17, 18, 19] [] σ s_7 := by rw [e_s_7]; exact FR.stc hF_s_6 (by decide)
  refine ok_lt fun s_8 e_s_8 => ?_
  have hB_s_8 : BX s_8 := by rw [e_s_8]; exact BD.stc hB_s_7 (fun j => by unfold va_cpy; split; exact hB_s_7 11 _; exact hB_s_7 19 j)
  have hF_s_8 : FR [12, 13, 14, 15, 16, 17, 18, 19] [] σ s_8 := by rw [e_s_8]; exact FR.stc hF_s_7 (by decide)
  exact ok_ret ⟨hB_s_8, hF_s_8, ⟨(by rw [e_s_8, e_s_7, e_s_6, e_s_5, e_s_4, e_s_3, e_s_2, e_s_1]; rfl), (by rw [e_s_8, e_s_7, e_s_6, e_s_5, e_s_4, e_s_3, e_s_2, e_s_1]; rfl), (fun i hi => ⟨(by rw [e_s_8, e_s_7, e_s_6, e_s_5, e_s_4, e_s_3, e_s_2, e_s_1]; exact cpy_lt (f := σ.1 6) (g := σ.1 14) (n := 40) rfl rfl rfl hi), (by rw [e_s_8, e_s_7, e_s_6, e_s_5, e_s_4, e_s_3, e_s_2, e_s_1]; exact cpy_lt (f := σ.1 7) (g := σ.1 15) (n := 40) rfl rfl rfl hi), (by rw [e_s_8, e_s_7, e_s_6, e_s_5, e_s_4, e_s_3, e_s_2, e_s_1]; exact cpy_lt (f := σ.1 8) (g := σ.1 16) (n := 40) rfl rfl rfl hi)⟩), (fun i hi => ⟨(by rw [e_s_8, e_s_7, e_s_6, e_s_5, e_s_4, e_s_3, e_s_2, e_s_1]; exact cpy_lt (f := σ.1 9) (g := σ.1 17) (n := 3) rfl rfl rfl hi), (by rw [e_s_8, e_s_7, e_s_6, e_s_5, e_s_4, e_s_3, e_s_2, e_s_1]; exact cpy_lt (f := σ.1 10) (g := σ.1 18) (n := 3) rfl rfl rfl hi), (by rw [e_s_8, e_s_7, e_s_6, e_s_5, e_s_4, e_s_3, e_s_2, e_s_1]; exact cpy_lt (f := σ.1 11) (g := σ.1 19) (n := 3) rfl rfl rfl hi)⟩)⟩⟩

set_option maxHeartbeats 4000000 in
theorem s_X11_put {x1 : Int32} {x2 : Int32} {x3 : Int32} {σ : Sto} (hB : BX σ) (hPI : PI σ) (hSI : SI σ) (hLI : LI σ) (hQV : QV σ) (hFE : FE σ) (hBV : BV σ) (hPA : PA σ) (hES : ES σ) (hTS : TS σ) (hFS : FS σ) (hLQ : LQ σ) : OK (f_X11_put x1 x2 x3 σ) (fun r => ((-6) ≤ r.1.toInt ∧ r.1.toInt ≤ 40) ∧ BX r.2 ∧ FR [0, 4, 5, 6, 7, 8, 9, 10, 11, 12, 13, 14, 15, 16, 17, 18, 19, 20, 21, 22, 23, 24, 25, 26, 27, 28, 29, 30, 31, 32, 33, 34, 35, 36, 37, 38, 39, 40, 41, 42, 43, 44, 45, 46, 47, 48, 49, 50, 51, 52, 53, 54, 55, 56, 57, 58, 59, 60, 61, 62, 63, 64, 65, 66, 67, 68, 69, 70, 71, 72, 73, 74, 75, 76, 77] [0, 1, 2, 3, 4, 5, 6] σ r.2 ∧ PI r.2 ∧ SI r.2 ∧ LI r.2 ∧ QV r.2 ∧ FE r.2 ∧ BV r.2 ∧ PA r.2 ∧ ES r.2 ∧ TS r.2 ∧ FS r.2 ∧ LQ r.2) := by
  unfold f_X11_put
  have hF : FR [0, 4, 5, 6, 7, 8, 9, 10, 11, 12, 13, 14, 15, 16, 17, 18, 19, 20, 21, 22, 23, 24, 25, 26, 27, 28, 29, 30, 31, 32, 33, 34, 35, 36, 37, 38, 39, 40, 41, 42, 43, 44, 45, 46, 47, 48, 49, 50, 51, 52, 53, 54, 55, 56, 57, 58, 59, 60, 61, 62, 63, 64, 65, 66, 67, 68, 69, 70, 71, 72, 73, 74, 75, 76, 77] [0, 1, 2, 3, 4, 5, 6] σ σ := FR.rf
  have k_m1 : ((-1) : Int32).toInt = -1 := by decide +kernel
  have k_0 : (0 : Int32).toInt = 0 := by decide +kernel
  have g_2 := gX_0 hB 0
  refine ok_ite (fun c_1 => ?_) (fun c_1 => ?_)
  · rw [fa_eq] at c_1
    exact ok_ret ⟨(by (try dsimp only); omega), hB, hF, hPI, hSI, hLI, hQV, hFE, hBV, hPA, hES, hTS, hFS, hLQ⟩
  · rw [fa_eq] at c_1
    refine ok_ite (fun c_3 => ?_) (fun c_3 => ?_)
    · rw [fa_lt] at c_3
      exact ok_ret ⟨(by (try dsimp only); omega), hB, hF, hPI, hSI, hLI, hQV, hFE, hBV, hPA, hES, hTS, hFS, hLQ⟩
    · rw [fa_lt] at c_3
      have g_5 := gX_4 hB 0
      refine ok_ite (fun c_4 => ?_) (fun c_4 => ?_)
      · rw [fa_le] at c_4
        exact ok_ret ⟨(by (try dsimp only); omega), hB, hF, hPI, hSI, hLI, hQV, hFE, hBV, hPA, hES, hTS, hFS, hLQ⟩
      · rw [fa_le] at c_4
        refine ok_calp (s_X11_isInstruction (x1 := x2) (x2 := x3) ) (fun v_4 h_6 => ?_)
        obtain ⟨b_v_4, x_v_4⟩ := h_6
        (try dsimp only at b_v_4 x_v_4)
        refine ok_ite (fun c_7 => ?_) (fun c_7 => ?_)
        · rw [fa_eq] at c_7
          exact ok_ret ⟨(by (try dsimp only); omega), hB, hF, hPI, hSI, hLI, hQV, hFE, hBV, hPA, hES, hTS, hFS, hLQ⟩
        · rw [fa_eq] at c_7
          refine ok_cals (s_X3_copy_draft_listing  (σ := σ) hB) (fun s_6 h_8 => ?_)
          obtain ⟨hB_s_6, hG_s_6, x_s_6⟩ := h_8
          (try dsimp only at hB_s_6 hG_s_6 x_s_6)
          have hF_s_6 : FR [0, 4, 5, 6, 7, 8, 9, 10, 11, 12, 13, 14, 15, 16, 17, 18, 19, 20, 21, 22, 23, 24, 25, 26, 27, 28, 29, 30, 31, 32, 33, 34, 35, 36, 37, 38, 39, 40, 41, 42, 43, 44, 45, 46, 47, 48, 49, 50, 51, 52, 53, 54, 55, 56, 57, 58, 59, 60, 61, 62, 63, 64, 65, 66, 67, 68, 69, 70, 71, 72, 73, 74, 75, 76, 77] [0, 1, 2, 3, 4, 5, 6] σ s_6 := FR.cal hF hG_s_6 rfl rfl
          have w_s_6_0 : (s_6.1 0 0).toInt = (σ.1 0 0).toInt := by rw [hG_s_6.1 0 (by decide)]
          have w_s_6_4 : (s_6.1 4 0).toInt = (σ.1 4 0).toInt := by rw [hG_s_6.1 4 (by decide)]
          have w_s_6_20 : (s_6.1 20 0).toInt = (σ.1 20 0).toInt := by rw [hG_s_6.1 20 (by decide)]
          have hPI_s_6 : PI s_6 := PI.fr hG_s_6 (by decide) hPI
          have hSI_s_6 : SI s_6 := SI.fr hG_s_6 (by decide) hSI
          have hLI_s_6 : LI s_6 := LI.fr hG_s_6 (by decide) hLI
          have hQV_s_6 : QV s_6 := QV.fr hG_s_6 (by decide) hQV
          have hFE_s_6 : FE s_6 := FE.fr hG_s_6 (by decide) hFE
          have hBV_s_6 : BV s_6 := BV.fr hG_s_6 (by decide) hBV
          have hPA_s_6 : PA s_6 := PA.fr hG_s_6 (by decide) hPA
          have hES_s_6 : ES s_6 := ES.fr hG_s_6 (by decide) hES
          have hTS_s_6 : TS s_6 := TS.fr hG_s_6 (by decide) hTS
          have hFS_s_6 : FS s_6 := FS.fr hG_s_6 (by decide) hFS
          have hLQ_s_6 : LQ s_6 := LQ.fr hG_s_6 (by decide) hLQ
          have hq := hQV (by omega)
          have hq1 := hq.1
          have hVI := x_v_4 (by omega)
          have hVI2 := hVI.2
          have g4 := gX_4 hB 0
          have z12 := x_s_6.1
          have hDS_s_6 : DS s_6 := fun i hi => by have hi4 : (i : Int) < (σ.1 4 0).toInt := (by omega); have q := x_s_6.2.2.1 i (by omega); rw [q.1, q.2.1]; exact (hq.2.1 i hi4).1
          refine ok_ix ⟨by omega, by omega⟩ ?_
          refine ok_lt fun s_7 e_s_7 => ?_
          have hB_s_7 : BX s_7 := by rw [e_s_7]; exact pX_14 hB_s_6 (by omega)
          have hF_s_7 : FR [0, 4, 5, 6, 7, 8, 9, 10, 11, 12, 13, 14, 15, 16, 17, 18, 19, 20, 21, 22, 23, 24, 25, 26, 27, 28, 29, 30, 31, 32, 33, 34, 35, 36, 37, 38, 39, 40, 41, 42, 43, 44, 45, 46, 47, 48, 49, 50, 51, 52, 53, 54, 55, 56, 57, 58, 59, 60, 61, 62, 63, 64, 65, 66, 67, 68, 69, 70, 71, 72, 73, 74, 75, 76, 77] [0, 1, 2, 3, 4, 5, 6] σ s_7 := by rw [e_s_7]; exact FR.st hF_s_6 (by decide)
          have w_s_7_0 : (s_7.1 0 0).toInt = (s_6.1 0 0).toInt := by rw [e_s_7]; rfl
          have w_s_7_4 : (s_7.1 4 0).toInt = (s_6.1 4 0).toInt := by rw [e_s_7]; rfl
          have w_s_7_20 : (s_7.1 20 0).toInt = (s_6.1 20 0).toInt := by rw [e_s_7]; rfl
          have hPI_s_7 : PI s_7 := by rw [e_s_7]; exact PI.st1 (by decide) hPI_s_6
          have hSI_s_7 : SI s_7 := by rw [e_s_7]; exact SI.st1 (by decide) hSI_s_6
          have hLI_s_7 : LI s_7 := by rw [e_s_7]; exact LI.st1 (by decide) hLI_s_6
          have hQV_s_7 : QV s_7 := by rw [e_s_7]; exact QV.st1 (by decide) hQV_s_6
          have hFE_s_7 : FE s_7 := by rw [e_s_7]; exact FE.st1 (by decide) hFE_s_6
          have hBV_s_7 : BV s_7 := by rw [e_s_7]; exact BV.st1 (by decide) hBV_s_6
          have hPA_s_7 : PA s_7 := by rw [e_s_7]; exact PA.st1 (by decide) hPA_s_6
          have hES_s_7 : ES s_7 := by rw [e_s_7]; exact ES.st1 (by decide) hES_s_6
          have hTS_s_7 : TS s_7 := by rw [e_s_7]; exact TS.st1 (by decide) hTS_s_6
          have hFS_s_7 : FS s_7 := by rw [e_s_7]; exact FS.st1 (by decide) hFS_s_6
          have hLQ_s_7 : LQ s_7 := by rw [e_s_7]; exact LQ.st1 (by decide) hLQ_s_6
          refine ok_ix ⟨by omega, by omega⟩ ?_
          refine ok_lt fun s_8 e_s_8 => ?_
          have hB_s_8 : BX s_8 := by rw [e_s_8]; exact pX_15 hB_s_7 (by omega)
          have hF_s_8 : FR [0, 4, 5, 6, 7, 8, 9, 10, 11, 12, 13, 14, 15, 16, 17, 18, 19, 20, 21, 22, 23, 24, 25, 26, 27, 28, 29, 30, 31, 32, 33, 34, 35, 36, 37, 38, 39, 40, 41, 42, 43, 44, 45, 46, 47, 48, 49, 50, 51, 52, 53, 54, 55, 56, 57, 58, 59, 60, 61, 62, 63, 64, 65, 66, 67, 68, 69, 70, 71, 72, 73, 74, 75, 76, 77] [0, 1, 2, 3, 4, 5, 6] σ s_8 := by rw [e_s_8]; exact FR.st hF_s_7 (by decide)
          have w_s_8_0 : (s_8.1 0 0).toInt = (s_7.1 0 0).toInt := by rw [e_s_8]; rfl
          have w_s_8_4 : (s_8.1 4 0).toInt = (s_7.1 4 0).toInt := by rw [e_s_8]; rfl
          have w_s_8_20 : (s_8.1 20 0).toInt = (s_7.1 20 0).toInt := by rw [e_s_8]; rfl
          have hPI_s_8 : PI s_8 := by rw [e_s_8]; exact PI.st1 (by decide) hPI_s_7
          have hSI_s_8 : SI s_8 := by rw [e_s_8]; exact SI.st1 (by decide) hSI_s_7
          have hLI_s_8 : LI s_8 := by rw [e_s_8]; exact LI.st1 (by decide) hLI_s_7
          have hQV_s_8 : QV s_8 := by rw [e_s_8]; exact QV.st1 (by decide) hQV_s_7
          have hFE_s_8 : FE s_8 := by rw [e_s_8]; exact FE.st1 (by decide) hFE_s_7
          have hBV_s_8 : BV s_8 := by rw [e_s_8]; exact BV.st1 (by decide) hBV_s_7
          have hPA_s_8 : PA s_8 := by rw [e_s_8]; exact PA.st1 (by decide) hPA_s_7
          have hES_s_8 : ES s_8 := by rw [e_s_8]; exact ES.st1 (by decide) hES_s_7
          have hTS_s_8 : TS s_8 := by rw [e_s_8]; exact TS.st1 (by decide) hTS_s_7
          have hFS_s_8 : FS s_8 := by rw [e_s_8]; exact FS.st1 (by decide) hFS_s_7
          have hLQ_s_8 : LQ s_8 := by rw [e_s_8]; exact LQ.st1 (by decide) hLQ_s_7
          have z8 : (s_8.1 12 0).toInt = (σ.1 4 0).toInt := by rw [e_s_8, e_s_7]; exact z12
          have hDS_s_8 : DS s_8 := fun i hi => by have hi6 : (i : Int) < (s_6.1 12 0).toInt := (by omega); rw [show s_8.1 14 = s_7.1 14 by rw [e_s_8]; rfl, show s_8.1 15 = (sti s_7 15 x1.toNatClampNeg x3).1 15 by rw [e_s_8], e_s_7, sti_if, sti_if]; by_cases q : i = x1.toNatClampNeg; (rw [if_pos q, if_pos q]; exact hVI.1); (rw [if_neg q, if_neg q]; exact hDS_s_6 i hi6)
          refine ok_calv (s_X3_judge_draft  (σ := s_8) hB_s_8 (by omega)) (fun v_9 s_9 h_9 => ?_)
          obtain ⟨b_v_9, hB_s_9, hG_s_9, x_s_9⟩ := h_9
          (try dsimp only at b_v_9 hB_s_9 hG_s_9 x_s_9)
          have hF_s_9 : FR [0, 4, 5, 6, 7, 8, 9, 10, 11, 12, 13, 14, 15, 16, 17, 18, 19, 20, 21, 22, 23, 24, 25, 26, 27, 28, 29, 30, 31, 32, 33, 34, 35, 36, 37, 38, 39, 40, 41, 42, 43, 44, 45, 46, 47, 48, 49, 50, 51, 52, 53, 54, 55, 56, 57, 58, 59, 60, 61, 62, 63, 64, 65, 66, 67, 68, 69, 70, 71, 72, 73, 74, 75, 76, 77] [0, 1, 2, 3, 4, 5, 6] σ s_9 := FR.cal hF_s_8 hG_s_9 rfl rfl
          have w_s_9_0 : (s_9.1 0 0).toInt = (s_8.1 0 0).toInt := by rw [hG_s_9.1 0 (by decide)]
          have w_s_9_4 : (s_9.1 4 0).toInt = (s_8.1 4 0).toInt := by rw [hG_s_9.1 4 (by decide)]
          have w_s_9_20 : (s_9.1 20 0).toInt = (s_8.1 20 0).toInt := by rw [hG_s_9.1 20 (by decide)]
          have hPI_s_9 : PI s_9 := PI.fr hG_s_9 (by decide) hPI_s_8
          have hSI_s_9 : SI s_9 := SI.fr hG_s_9 (by decide) hSI_s_8
          have hLI_s_9 : LI s_9 := LI.fr hG_s_9 (by decide) hLI_s_8
          have hQV_s_9 : QV s_9 := QV.fr hG_s_9 (by decide) hQV_s_8
          have hFE_s_9 : FE s_9 := FE.fr hG_s_9 (by decide) hFE_s_8
          have hBV_s_9 : BV s_9 := BV.fr hG_s_9 (by decide) hBV_s_8
          have hPA_s_9 : PA s_9 := PA.fr hG_s_9 (by decide) hPA_s_8
          have hES_s_9 : ES s_9 := ES.fr hG_s_9 (by decide) hES_s_8
          have hTS_s_9 : TS s_9 := TS.fr hG_s_9 (by decide) hTS_s_8
          have hFS_s_9 : FS s_9 := FS.fr hG_s_9 (by decide) hFS_s_8
          have hLQ_s_9 : LQ s_9 := LQ.fr hG_s_9 (by decide) hLQ_s_8
          have hDS_s_9 : DS s_9 := DS.fr hG_s_9 (by decide) hDS_s_8
          refine ok_ite (fun c_10 => ?_) (fun c_10 => ?_)
          · rw [fa_eq] at c_10
            have hDV_s_9 : DV s_9 := DV.of (σ := s_8) (v := v_9.toInt) (by omega) hDS_s_8 hB_s_8 (by omega) x_s_9 (fun k h1 h2 h3 => hG_s_9.1 k (by simp; omega))
            refine ok_cals (s_X11_adoptDraft  (σ := s_9) hB_s_9 hDV_s_9 hPI_s_9 hSI_s_9 hLI_s_9 hFE_s_9 hBV_s_9) (fun s_11 h_11 => ?_)
            obtain ⟨hB_s_11, hG_s_11, hPI_s_11, hSI_s_11, hLI_s_11, hQV_s_11, hFE_s_11, hBV_s_11, hPA_s_11, hES_s_11, hTS_s_11, hFS_s_11, hLQ_s_11⟩ := h_11
            (try dsimp only at hB_s_11 hG_s_11 hPI_s_11 hSI_s_11 hLI_s_11 hQV_s_11 hFE_s_11 hBV_s_11 hPA_s_11 hES_s_11 hTS_s_11 hFS_s_11 hLQ_s_11)
            have hF_s_11 : FR [0, 4, 5, 6, 7, 8, 9, 10, 11, 12, 13, 14, 15, 16, 17, 18, 19, 20, 21, 22, 23, 24, 25, 26, 27, 28, 29, 30, 31, 32, 33, 34, 35, 36, 37, 38, 39, 40, 41, 42, 43, 44, 45, 46, 47, 48, 49, 50, 51, 52, 53, 54, 55, 56, 57, 58, 59, 60, 61, 62, 63, 64, 65, 66, 67, 68, 69, 70, 71, 72, 73, 74, 75, 76, 77] [0, 1, 2, 3, 4, 5, 6] σ s_11 := FR.cal hF_s_9 hG_s_11 rfl rfl
            have hDS_s_11 : DS s_11 := DS.fr hG_s_11 (by decide) hDS_s_9
            have hDV_s_11 : DV s_11 := DV.fr hG_s_11 (by decide) hDV_s_9
            have g_12 := gX_20 hB_s_11 0
            exact ok_ret ⟨(by (try dsimp only); omega), hB_s_11, hF_s_11, hPI_s_11, hSI_s_11, hLI_s_11, hQV_s_11, hFE_s_11, hBV_s_11, hPA_s_11, hES_s_11, hTS_s_11, hFS_s_11, hLQ_s_11⟩
          · rw [fa_eq] at c_10
            exact ok_ret ⟨(by (try dsimp only); omega), hB_s_9, hF_s_9, hPI_s_9, hSI_s_9, hLI_s_9, hQV_s_9, hFE_s_9, hBV_s_9, hPA_s_9, hES_s_9, hTS_s_9, hFS_s_9, hLQ_s_9⟩

set_option maxHeartbeats 4000000 in
theorem s_X11_count {x1 : Int32} {σ : Sto} (hB : BX σ) : OK (f_X11_count x1 σ) (fun v => ((-1000000) ≤ v.toInt ∧ v.toInt ≤ 800)) := by
  unfold f_X11_count
  have hF : FR [] [] σ σ := FR.rf
  have k_m1000000 : ((-1000000) : Int32).toInt = -1000000 := by decide +kernel
  have k_m1 : ((-1) : Int32).toInt = -1 := by decide +kernel
  have k_0 : (0 : Int32).toInt = 0 := by decide +kernel
  have k_1 : (1 : Int32).toInt = 1 := by decide +kernel
  have k_2 : (2 : Int32).toInt = 2 := by decide +kernel
  have k_3 : (3 : Int32).toInt = 3 := by decide +kernel
  have k_4 : (4 : Int32).toInt = 4 := by decide +kernel
  have k_5 : (5 : Int32).toInt = 5 := by decide +kernel
  have k_6 : (6 : Int32).toInt = 6 := by decide +kernel
  have k_7 : (7 : Int32).toInt = 7 := by decide +kernel
  have k_8 : (8 : Int32).toInt = 8 := by decide +kernel
  have k_9 : (9 : Int32).toInt = 9 := by decide +kernel
  have k_10 : (10 : Int32).toInt = 10 := by decide +kernel
  have k_11 : (11 : Int32).toInt = 11 := by decide +kernel
  have k_12 : (12 : Int32).toInt = 12 := by decide +kernel
  have k_13 : (13 : Int32).toInt = 13 := by decide +kernel
  have k_14 : (14 : Int32).toInt = 14 := by decide +kernel
  refine ok_ite (fun c_1 => ?_) (fun c_1 => ?_)
  · rw [fa_eq] at c_1
    have g_2 := gX_2 hB 0
    exact ok_ret (by (try dsimp only); omega)
  · rw [fa_eq] at c_1
    have g_4 := gX_0 hB 0
    refine ok_ite (fun c_3 => ?_) (fun c_3 => ?_)
    · rw [fa_eq] at c_3
      exact ok_ret (by (try dsimp only); omega)
    · rw [fa_eq] at c_3
      refine ok_ite (fun c_5 => ?_) (fun c_5 => ?_)
      · have c_5 := c_5
        have g_6 := gX_4 hB 0
        exact ok_ret (by (try dsimp only); omega)
      · have c_5 := c_5
        refine ok_ite (fun c_7 => ?_) (fun c_7 => ?_)
        · have c_7 := c_7
          have g_8 := gX_20 hB 0
          exact ok_ret (by (try dsimp only); omega)
        · have c_7 := c_7
          refine ok_ite (fun c_9 => ?_) (fun c_9 => ?_)
          · have c_9 := c_9
            have g_10 := gX_27 hB 0
            exact ok_ret (by (try dsimp only); omega)
          · have c_9 := c_9
            refine ok_ite (fun c_11 => ?_) (fun c_11 => ?_)
            · have c_11 := c_11
              have g_12 := gX_5 hB 0
              exact ok_ret (by (try dsimp only); omega)
            · have c_11 := c_11
              refine ok_ite (fun c_13 => ?_) (fun c_13 => ?_)
              · have c_13 := c_13
                refine ok_calp (s_J13_bitCount_95d88 (x1 := (σ.2 2 0)) ) (fun v_4 h_14 => ?_)
                obtain ⟨b_v_4, x_v_4⟩ := h_14
                (try dsimp only at b_v_4 x_v_4)
                exact ok_ret (by (try dsimp only); omega)
              · have c_13 := c_13
                refine ok_ite (fun c_15 => ?_) (fun c_15 => ?_)
                · have c_15 := c_15
                  refine ok_calp (s_J13_bitCount_95d88 (x1 := (σ.2 4 0)) ) (fun v_5 h_16 => ?_)
                  obtain ⟨b_v_5, x_v_5⟩ := h_16
                  (try dsimp only at b_v_5 x_v_5)
                  exact ok_ret (by (try dsimp only); omega)
                · have c_15 := c_15
                  refine ok_ite (fun c_17 => ?_) (fun c_17 => ?_)
                  · have c_17 := c_17
                    have g_19 := gX_34 hB 0
                    refine ok_ite (fun c_18 => ?_) (fun c_18 => ?_)
                    · rw [fa_eq] at c_18
                      have g_20 := gX_36 hB 0
                      exact ok_ret (by (try dsimp only); omega)
                    · rw [fa_eq] at c_18
                      exact ok_ret (by (try dsimp only); omega)
                  · have c_17 := c_17
                    refine ok_ite (fun c_21 => ?_) (fun c_21 => ?_)
                    · have c_21 := c_21
                      have g_23 := gX_35 hB 0
                      refine ok_ite (fun c_22 => ?_) (fun c_22 => ?_)
                      · rw [fa_eq] at c_22
                        exact ok_ret (by (try dsimp only); omega)
                      · rw [fa_eq] at c_22
                        exact ok_ret (by (try dsimp only); omega)
                    · have c_21 := c_21
                      refine ok_ite (fun c_24 => ?_) (fun c_24 => ?_)
                      · have c_24 := c_24
                        have g_26 := gX_34 hB 0
                        refine ok_ite (fun c_25 => ?_) (fun c_25 => ?_)
                        · rw [fa_eq] at c_25
                          have g_27 := gX_68 hB 0
                          exact ok_ret (by (try dsimp only); omega)
                        · rw [fa_eq] at c_25
                          exact ok_ret (by (try dsimp only); omega)
                      · have c_24 := c_24
                        refine ok_ite (fun c_28 => ?_) (fun c_28 => ?_)
                        · have c_28 := c_28
                          have g_29 := gX_52 hB 0
                          exact ok_ret (by (try dsimp only); omega)
                        · have c_28 := c_28
                          refine ok_ite (fun c_30 => ?_) (fun c_30 => ?_)
                          · have c_30 := c_30
                            have g_31 := gX_58 hB 0
                            exact ok_ret (by (try dsimp only); omega)
                          · have c_30 := c_30
                            refine ok_ite (fun c_32 => ?_) (fun c_32 => ?_)
                            · have c_32 := c_32
                              have g_33 := gX_32 hB 0
                              exact ok_ret (by (try dsimp only); omega)
                            · have c_32 := c_32
                              refine ok_ite (fun c_34 => ?_) (fun c_34 => ?_)
                              · have c_34 := c_34
                                have g_35 := gX_59 hB 0
                                exact ok_ret (by (try dsimp only); omega)
                              · have c_34 := c_34
                                refine ok_ite (fun c_36 => ?_) (fun c_36 => ?_)
                                · have c_36 := c_36
                                  refine ok_calp (s_J13_bitCount_95d88 (x1 := (σ.2 6 0)) ) (fun v_9 h_37 => ?_)
                                  obtain ⟨b_v_9, x_v_9⟩ := h_37
                                  (try dsimp only at b_v_9 x_v_9)
                                  exact ok_ret (by (try dsimp only); omega)
                                · have c_36 := c_36
                                  exact ok_ret (by (try dsimp only); omega)

