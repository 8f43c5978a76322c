set_option maxHeartbeats 4000000 in
theorem s_X0_join {x1 : Int32} {σ : Sto} (hB : BX σ) (hLV : LV σ) (hOF : OF σ) (hTG : TG σ) (p_x1 : 0 ≤ x1.toInt ∧ x1.toInt ≤ 39) (he : (σ.1 27 0).toInt ≤ 117) (hl : (σ.1 22 x1.toNatClampNeg).toInt < (σ.1 4 0).toInt) (hd : (σ.1 8 (σ.1 22 x1.toNatClampNeg).toNatClampNeg).toInt ≠ -1) : OK (f_X0_join x1 σ) (fun s => BX s ∧ FR [24, 25, 26, 27, 28, 29, 30, 31] [0] σ s ∧ TG s ∧ ((s.1 27 0).toInt ≤ (σ.1 27 0).toInt + 3 ∧ (σ.1 27 0).toInt ≤ (s.1 27 0).toInt ∧ s.1 28 = (sti σ 28 x1.toNatClampNeg (σ.1 27 0)).1 28 ∧ (∀ q : Nat, q ≠ x1.toNatClampNeg → s.1 24 q = σ.1 24 q ∧ s.1 25 q = σ.1 25 q) ∧ (s.1 24 x1.toNatClampNeg).toInt < (σ.1 20 0).toInt ∧ (s.1 25 x1.toNatClampNeg).toInt < (σ.1 20 0).toInt)) := by
  unfold f_X0_join
  have hF : FR [24, 25, 26, 27, 28, 29, 30, 31] [0] σ σ := FR.rf
  have k_m1 : ((-1) : Int32).toInt = -1 := by decide +kernel
  have k_0 : (0 : Int32).toInt = 0 := by decide +kernel
  have k_1 : (1 : Int32).toInt = 1 := by decide +kernel
  have g4 := gX_4 hB 0
  have g22 := gX_22 hB x1.toNatClampNeg
  have g20 := gX_20 hB 0
  refine ok_ix ⟨by omega, by omega⟩ ?_
  have g_1 := gX_22 hB (x1.toNatClampNeg)
  refine ok_lt fun v_1 e_v_1 => ?_
  have b_v_1 : 0 ≤ v_1.toInt ∧ v_1.toInt ≤ 39 := by rw [e_v_1]; exact gX_22 hB _
  have V := hLV.1 v_1.toNatClampNeg (by have := clamp_I (x := v_1) (by rw [e_v_1]; have := gX_22 hB x1.toNatClampNeg; omega); rw [e_v_1] at this ⊢; omega)
  have y8 := V.2.2 (by rw [e_v_1]; exact hd)
  refine ok_ix ⟨by omega, by omega⟩ ?_
  have g_2 := gX_27 hB 0
  refine ok_lt fun s_2 e_s_2 => ?_
  have hB_s_2 : BX s_2 := by rw [e_s_2]; exact pX_28 hB (by omega)
  have hF_s_2 : FR [24, 25, 26, 27, 28, 29, 30, 31] [0] σ s_2 := by rw [e_s_2]; exact FR.st hF (by decide)
  have w_s_2_27 : (s_2.1 27 0).toInt = (σ.1 27 0).toInt := by rw [e_s_2]; rfl
  have f_s_2_20 : (s_2.1 20 0).toInt = (σ.1 20 0).toInt := by rw [hF_s_2.1 20 (by decide)]
  have hLV_s_2 : LV s_2 := by rw [e_s_2]; exact LV.st1 (by decide) hLV
  have hOF_s_2 : OF s_2 := by rw [e_s_2]; exact OF.st1 (by decide) hOF
  have hTG_s_2 : TG s_2 := by rw [e_s_2]; exact TG.st1 (by decide) hTG
  have z28_s_2 : (s_2.1 28 x1.toNatClampNeg).toInt = (σ.1 27 0).toInt := by rw [e_s_2, sti_s]
  have hR28_s_2 : s_2.1 28 = (sti σ 28 x1.toNatClampNeg (σ.1 27 0)).1 28 := by rw [e_s_2]
  refine ok_ix ⟨by omega, by omega⟩ ?_
  refine ok_lt fun s_3 e_s_3 => ?_
  have hB_s_3 : BX s_3 := by rw [e_s_3]; exact BD.stl hB_s_2
  have hF_s_3 : FR [24, 25, 26, 27, 28, 29, 30, 31] [0] σ s_3 := by rw [e_s_3]; exact FR.stl hF_s_2 (by decide)
  have w_s_3_27 : (s_3.1 27 0).toInt = (s_2.1 27 0).toInt := by rw [e_s_3]; rfl
  have f_s_3_20 : (s_3.1 20 0).toInt = (σ.1 20 0).toInt := by rw [hF_s_3.1 20 (by decide)]
  have z28_s_3 : (s_3.1 28 x1.toNatClampNeg).toInt = (s_2.1 28 x1.toNatClampNeg).toInt := by rw [e_s_3]; rfl
  have hLV_s_3 : LV s_3 := by rw [e_s_3]; exact LV.st2 (by decide) hLV_s_2
  have hOF_s_3 : OF s_3 := by rw [e_s_3]; exact OF.st2 (by decide) hOF_s_2
  have hTG_s_3 : TG s_3 := by rw [e_s_3]; exact TG.st2 (by decide) hTG_s_2
  have hR28_s_3 : s_3.1 28 = (sti σ 28 x1.toNatClampNeg (σ.1 27 0)).1 28 := by rw [e_s_3]; exact hR28_s_2
  refine ok_ix ⟨by omega, by omega⟩ ?_
  refine ok_lt fun s_4 e_s_4 => ?_
  have hB_s_4 : BX s_4 := by rw [e_s_4]; exact pX_24 hB_s_3 (by omega)
  have hF_s_4 : FR [24, 25, 26, 27, 28, 29, 30, 31] [0] σ s_4 := by rw [e_s_4]; exact FR.st hF_s_3 (by decide)
  have w_s_4_27 : (s_4.1 27 0).toInt = (s_3.1 27 0).toInt := by rw [e_s_4]; rfl
  have f_s_4_20 : (s_4.1 20 0).toInt = (σ.1 20 0).toInt := by rw [hF_s_4.1 20 (by decide)]
  have z28_s_4 : (s_4.1 28 x1.toNatClampNeg).toInt = (s_3.1 28 x1.toNatClampNeg).toInt := by rw [e_s_4]; rfl
  have hLV_s_4 : LV s_4 := by rw [e_s_4]; exact LV.st1 (by decide) hLV_s_3
  have hOF_s_4 : OF s_4 := by rw [e_s_4]; exact OF.st1 (by decide) hOF_s_3
  have hTG_s_4 : TG s_4 := by rw [e_s_4]; exact TG.st1 (by decide) hTG_s_3
  have hR28_s_4 : s_4.1 28 = (sti σ 28 x1.toNatClampNeg (σ.1 27 0)).1 28 := by rw [e_s_4]; exact hR28_s_3
  refine ok_ix ⟨by omega, by omega⟩ ?_
  refine ok_lt fun s_5 e_s_5 => ?_
  have hB_s_5 : BX s_5 := by rw [e_s_5]; exact pX_25 hB_s_4 (by omega)
  have hF_s_5 : FR [24, 25, 26, 27, 28, 29, 30, 31] [0] σ s_5 := by rw [e_s_5]; exact FR.st hF_s_4 (by decide)
  have w_s_5_27 : (s_5.1 27 0).toInt = (s_4.1 27 0).toInt := by rw [e_s_5]; rfl
  have f_s_5_20 : (s_5.1 20 0).toInt = (σ.1 20 0).toInt := by rw [hF_s_5.1 20 (by decide)]
  have z28_s_5 : (s_5.1 28 x1.toNatClampNeg).toInt = (s_4.1 28 x1.toNatClampNeg).toInt := by rw [e_s_5]; rfl
  have hLV_s_5 : LV s_5 := by rw [e_s_5]; exact LV.st1 (by decide) hLV_s_4
  have hOF_s_5 : OF s_5 := by rw [e_s_5]; exact OF.st1 (by decide) hOF_s_4
  have hTG_s_5 : TG s_5 := by rw [e_s_5]; exact TG.st1 (by decide) hTG_s_4
  have hR28_s_5 : s_5.1 28 = (sti σ 28 x1.toNatClampNeg (σ.1 27 0)).1 28 := by rw [e_s_5]; exact hR28_s_4
  have hO1_s_5 : (∀ q : Nat, q ≠ x1.toNatClampNeg → s_5.1 24 q = σ.1 24 q ∧ s_5.1 25 q = σ.1 25 q) ∧ (s_5.1 24 x1.toNatClampNeg).toInt < (σ.1 20 0).toInt ∧ (s_5.1 25 x1.toNatClampNeg).toInt < (σ.1 20 0).toInt := ⟨fun q hq => by rw [show s_5.1 24 = (sti s_3 24 x1.toNatClampNeg (-1)).1 24 by rw [e_s_5, e_s_4]; rfl, e_s_5, sti_j hq, sti_j hq, show s_4.1 25 = σ.1 25 by rw [e_s_4, e_s_3, e_s_2]; rfl, show s_3.1 24 = σ.1 24 by rw [e_s_3, e_s_2]; rfl]; exact ⟨rfl, rfl⟩, by rw [show s_5.1 24 = (sti s_3 24 x1.toNatClampNeg (-1)).1 24 by rw [e_s_5, e_s_4]; rfl, sti_s]; omega, by rw [e_s_5, sti_s]; omega⟩
  refine ok_calp (s_X3_goesOn (x1 := v_1) (σ := s_5) hB_s_5 (by omega)) (fun v_6 h_3 => ?_)
  obtain ⟨b_v_6, x_v_6⟩ := h_3
  (try dsimp only at b_v_6 x_v_6)
  have y6 : v_6.toInt = 1 → v_1.toInt + 1 < (σ.1 4 0).toInt := fun h => by have h8 := x_v_6 h; rw [hF_s_5.1 6 (by decide)] at h8; have h9 := (y8.2.1 h8).1; have := clamp_I (x := v_1) (by omega); omega
  refine ok_jnI1 (fun (s_7 : Sto) => True ∧ (BX s_7) ∧ (FR [24, 25, 26, 27, 28, 29, 30, 31] [0] σ s_7) ∧ (LV s_7) ∧ (OF s_7) ∧ (TG s_7) ∧ (s_7.1 28 = (sti σ 28 x1.toNatClampNeg (σ.1 27 0)).1 28) ∧ ((∀ q : Nat, q ≠ x1.toNatClampNeg → s_7.1 24 q = σ.1 24 q ∧ s_7.1 25 q = σ.1 25 q) ∧ (s_7.1 24 x1.toNatClampNeg).toInt < (σ.1 20 0).toInt ∧ (s_7.1 25 x1.toNatClampNeg).toInt < (σ.1 20 0).toInt) ∧ ((s_7.1 28 x1.toNatClampNeg).toInt = (σ.1 27 0).toInt) ∧ ((s_7.1 27 0).toInt ≤ (σ.1 27 0).toInt + 1 ∧ (σ.1 27 0).toInt ≤ (s_7.1 27 0).toInt)) ?_ ?_
  · intro s_7 hJ
    obtain ⟨-, hB_s_7, hF_s_7, hLV_s_7, hOF_s_7, hTG_s_7, hR28_s_7, hO1_s_7, j28, j27⟩ := hJ
    have f_s_7_20 : (s_7.1 20 0).toInt = (σ.1 20 0).toInt := by rw [hF_s_7.1 20 (by decide)]
    refine ok_calp (s_X3_goesElsewhere (x1 := v_1) (σ := s_7) hB_s_7 (by omega)) (fun v_8 h_4 => ?_)
    obtain ⟨b_v_8, x_v_8⟩ := h_4
    (try dsimp only at b_v_8 x_v_8)
    refine ok_jnI1 (fun (s_9 : Sto) => True ∧ (BX s_9) ∧ (FR [24, 25, 26, 27, 28, 29, 30, 31] [0] σ s_9) ∧ (LV s_9) ∧ (OF s_9) ∧ (TG s_9) ∧ (s_9.1 28 = (sti σ 28 x1.toNatClampNeg (σ.1 27 0)).1 28) ∧ ((∀ q : Nat, q ≠ x1.toNatClampNeg → s_9.1 24 q = σ.1 24 q ∧ s_9.1 25 q = σ.1 25 q) ∧ (s_9.1 24 x1.toNatClampNeg).toInt < (σ.1 20 0).toInt ∧ (s_9.1 25 x1.toNatClampNeg).toInt < (σ.1 20 0).toInt) ∧ ((s_9.1 28 x1.toNatClampNeg).toInt = (σ.1 27 0).toInt) ∧ ((s_9.1 27 0).toInt ≤ (σ.1 27 0).toInt + 2 ∧ (σ.1 27 0).toInt ≤ (s_9.1 27 0).toInt)) ?_ ?_
    · intro s_9 hJ
      obtain ⟨-, hB_s_9, hF_s_9, hLV_s_9, hOF_s_9, hTG_s_9, hR28_s_9, hO1_s_9, j28, j27⟩ := hJ
      have f_s_9_20 : (s_9.1 20 0).toInt = (σ.1 20 0).toInt := by rw [hF_s_9.1 20 (by decide)]
      refine ok_calp (s_X0_catcherOf (x1 := x1) (σ := s_9) hB_s_9 hLV_s_9 hOF_s_9 (by omega)) (fun v_10 h_5 => ?_)
      obtain ⟨b_v_10, x_v_10⟩ := h_5
      (try dsimp only at b_v_10 x_v_10)
      rw [hF_s_9.1 20 (by decide)] at x_v_10
      refine ok_ix ⟨by omega, by omega⟩ ?_
      refine ok_lt fun s_11 e_s_11 => ?_
      have hB_s_11 : BX s_11 := by rw [e_s_11]; exact pX_26 hB_s_9 (by omega)
      have hF_s_11 : FR [24, 25, 26, 27, 28, 29, 30, 31] [0] σ s_11 := by rw [e_s_11]; exact FR.st hF_s_9 (by decide)
      have w_s_11_27 : (s_11.1 27 0).toInt = (s_9.1 27 0).toInt := by rw [e_s_11]; rfl
      have f_s_11_20 : (s_11.1 20 0).toInt = (σ.1 20 0).toInt := by rw [hF_s_11.1 20 (by decide)]
      have z28_s_11 : (s_11.1 28 x1.toNatClampNeg).toInt = (s_9.1 28 x1.toNatClampNeg).toInt := by rw [e_s_11]; rfl
      have hLV_s_11 : LV s_11 := by rw [e_s_11]; exact LV.st1 (by decide) hLV_s_9
      have hOF_s_11 : OF s_11 := by rw [e_s_11]; exact OF.st1 (by decide) hOF_s_9
      have hTG_s_11 : TG s_11 := by rw [e_s_11]; exact TG.st1 (by decide) hTG_s_9
      have hR28_s_11 : s_11.1 28 = (sti σ 28 x1.toNatClampNeg (σ.1 27 0)).1 28 := by rw [e_s_11]; exact hR28_s_9
      have hO1_s_11 : (∀ q : Nat, q ≠ x1.toNatClampNeg → s_11.1 24 q = σ.1 24 q ∧ s_11.1 25 q = σ.1 25 q) ∧ (s_11.1 24 x1.toNatClampNeg).toInt < (σ.1 20 0).toInt ∧ (s_11.1 25 x1.toNatClampNeg).toInt < (σ.1 20 0).toInt := by rw [e_s_11]; exact hO1_s_9
      refine ok_ix ⟨by omega, by omega⟩ ?_
      have g_6 := gX_26 hB_s_11 (x1.toNatClampNeg)
      refine ok_lt fun v_12 e_v_12 => ?_
      have b_v_12 : (-1) ≤ v_12.toInt ∧ v_12.toInt ≤ 39 := by rw [e_v_12]; exact gX_26 hB_s_11 _
      have q_v_12 : v_12.toInt = (s_11.1 26 x1.toNatClampNeg).toInt := by rw [e_v_12]
      refine ok_ite (fun c_7 => ?_) (fun c_7 => ?_)
      · rw [fa_eq] at c_7
        exact ok_ret ⟨hB_s_11, hF_s_11, hTG_s_11, ⟨by (try dsimp only); omega, by (try dsimp only); omega, hR28_s_11, hO1_s_11⟩⟩
      · rw [fa_eq] at c_7
        refine ok_ix ⟨by omega, by omega⟩ ?_
        refine ok_lt fun v_14 e_v_14 => ?_
        have b_v_14 : (-1) ≤ v_14.toInt ∧ v_14.toInt ≤ 39 := by rw [e_v_14]; exact gX_26 hB_s_11 _
        have q_v_14 : v_14.toInt = (s_11.1 26 x1.toNatClampNeg).toInt := by rw [e_v_14]
        have z14 : v_14.toInt = v_10.toInt := by rw [e_v_14, e_s_11, sti_s]
        refine ok_cals (s_X0_lead (x1 := x1) (x2 := v_14) (x3 := (1 : Int32)) (σ := s_11) hB_s_11 hTG_s_11 (by omega) (by omega) (by omega) (by omega) (by omega) (by omega)) (fun s_15 h_8 => ?_)
        obtain ⟨hB_s_15, hG_s_15, hTG_s_15, x_s_15⟩ := h_8
        (try dsimp only at hB_s_15 hG_s_15 hTG_s_15 x_s_15)
        have hF_s_15 : FR [24, 25, 26, 27, 28, 29, 30, 31] [0] σ s_15 := FR.cal hF_s_11 hG_s_15 rfl rfl
        have f_s_15_20 : (s_15.1 20 0).toInt = (σ.1 20 0).toInt := by rw [hF_s_15.1 20 (by decide)]
        have z28_s_15 : (s_15.1 28 x1.toNatClampNeg).toInt = (s_11.1 28 x1.toNatClampNeg).toInt := by rw [hG_s_15.1 28 (by decide)]
        have hLV_s_15 : LV s_15 := LV.fr hG_s_15 (by decide) hLV_s_11
        have hOF_s_15 : OF s_15 := OF.fr hG_s_15 (by decide) hOF_s_11
        have hR28_s_15 : s_15.1 28 = (sti σ 28 x1.toNatClampNeg (σ.1 27 0)).1 28 := by rw [hG_s_15.1 28 (by decide)]; exact hR28_s_11
        have hO1_s_15 : (∀ q : Nat, q ≠ x1.toNatClampNeg → s_15.1 24 q = σ.1 24 q ∧ s_15.1 25 q = σ.1 25 q) ∧ (s_15.1 24 x1.toNatClampNeg).toInt < (σ.1 20 0).toInt ∧ (s_15.1 25 x1.toNatClampNeg).toInt < (σ.1 20 0).toInt := by rw [hG_s_15.1 24 (by decide), hG_s_15.1 25 (by decide)]; exact hO1_s_11
        exact ok_ret ⟨hB_s_15, hF_s_15, hTG_s_15, ⟨by (try dsimp only); omega, by (try dsimp only); omega, hR28_s_15, hO1_s_15⟩⟩
    · intro k_147 hk_k_147
      refine ok_ite (fun c_9 => ?_) (fun c_9 => ?_)
      · rw [fa_eq] at c_9
        exact hk_k_147 s_7 ⟨trivial, hB_s_7, hF_s_7, hLV_s_7, hOF_s_7, hTG_s_7, hR28_s_7, hO1_s_7, (by omega), (by omega)⟩
      · rw [fa_eq] at c_9
        refine ok_ix ⟨by omega, by omega⟩ ?_
        have g_10 := gX_7 hB_s_7 (v_1.toNatClampNeg)
        refine ok_lt fun v_17 e_v_17 => ?_
        have b_v_17 : 0 ≤ v_17.toInt ∧ v_17.toInt ≤ 999 := by rw [e_v_17]; exact gX_7 hB_s_7 _
        have y17 : v_17.toInt ≤ 39 := by have h9 := x_v_8.1 (by omega); rw [hF_s_7.1 6 (by decide)] at h9; rw [e_v_17, hF_s_7.1 7 (by decide)]; exact V.1.2.2.1 h9
        refine ok_ix ⟨by omega, by omega⟩ ?_
        have g_11 := gX_23 hB_s_7 (v_17.toNatClampNeg)
        refine ok_lt fun v_18 e_v_18 => ?_
        have b_v_18 : (-1) ≤ v_18.toInt ∧ v_18.toInt ≤ 39 := by rw [e_v_18]; exact gX_23 hB_s_7 _
        have y17b : v_17.toInt < (σ.1 4 0).toInt := by have h9 := x_v_8.1 (by omega); rw [hF_s_7.1 6 (by decide)] at h9; rw [e_v_17, hF_s_7.1 7 (by decide)]; exact V.2.1 h9
        have o_v_18 : v_18.toInt < (σ.1 20 0).toInt := by rw [e_v_18, hF_s_7.1 23 (by decide)]; exact hOF _ (by have := clamp_I (x := v_17) (by omega); omega)
        refine ok_ix ⟨by omega, by omega⟩ ?_
        have g_12 := gX_24 hB_s_7 (x1.toNatClampNeg)
        refine ok_lt fun v_19 e_v_19 => ?_
        have b_v_19 : (-1) ≤ v_19.toInt ∧ v_19.toInt ≤ 39 := by rw [e_v_19]; exact gX_24 hB_s_7 _
        have q_v_19 : v_19.toInt = (s_7.1 24 x1.toNatClampNeg).toInt := by rw [e_v_19]
        refine ok_jnI1 (fun (s_20 : Sto) => True ∧ (BX s_20) ∧ (FR [24, 25, 26, 27, 28, 29, 30, 31] [0] σ s_20) ∧ (LV s_20) ∧ (OF s_20) ∧ (TG s_20) ∧ (s_20.1 28 = (sti σ 28 x1.toNatClampNeg (σ.1 27 0)).1 28) ∧ ((∀ q : Nat, q ≠ x1.toNatClampNeg → s_20.1 24 q = σ.1 24 q ∧ s_20.1 25 q = σ.1 25 q) ∧ (s_20.1 24 x1.toNatClampNeg).toInt < (σ.1 20 0).toInt ∧ (s_20.1 25 x1.toNatClampNeg).toInt < (σ.1 20 0).toInt) ∧ ((s_20.1 28 x1.toNatClampNeg).toInt = (σ.1 27 0).toInt) ∧ ((s_20.1 27 0).toInt ≤ (σ.1 27 0).toInt + 1 ∧ (σ.1 27 0).toInt ≤ (s_20.1 27 0).toInt)) ?_ ?_
        · intro s_20 hJ
          obtain ⟨-, hB_s_20, hF_s_20, hLV_s_20, hOF_s_20, hTG_s_20, hR28_s_20, hO1_s_20, j28, j27⟩ := hJ
          have f_s_20_20 : (s_20.1 20 0).toInt = (σ.1 20 0).toInt := by rw [hF_s_20.1 20 (by decide)]
          refine ok_cals (s_X0_lead (x1 := x1) (x2 := v_18) (x3 := (0 : Int32)) (σ := s_20) hB_s_20 hTG_s_20 (by omega) (by omega) (by omega) (by omega) (by omega) (by omega)) (fun s_21 h_13 => ?_)
          obtain ⟨hB_s_21, hG_s_21, hTG_s_21, x_s_21⟩ := h_13
          (try dsimp only at hB_s_21 hG_s_21 hTG_s_21 x_s_21)
          have hF_s_21 : FR [24, 25, 26, 27, 28, 29, 30, 31] [0] σ s_21 := FR.cal hF_s_20 hG_s_21 rfl rfl
          have f_s_21_20 : (s_21.1 20 0).toInt = (σ.1 20 0).toInt := by rw [hF_s_21.1 20 (by decide)]
          have z28_s_21 : (s_21.1 28 x1.toNatClampNeg).toInt = (s_20.1 28 x1.toNatClampNeg).toInt := by rw [hG_s_21.1 28 (by decide)]
          have hLV_s_21 : LV s_21 := LV.fr hG_s_21 (by decide) hLV_s_20
          have hOF_s_21 : OF s_21 := OF.fr hG_s_21 (by decide) hOF_s_20
          have hR28_s_21 : s_21.1 28 = (sti σ 28 x1.toNatClampNeg (σ.1 27 0)).1 28 := by rw [hG_s_21.1 28 (by decide)]; exact hR28_s_20
          have hO1_s_21 : (∀ q : Nat, q ≠ x1.toNatClampNeg → s_21.1 24 q = σ.1 24 q ∧ s_21.1 25 q = σ.1 25 q) ∧ (s_21.1 24 x1.toNatClampNeg).toInt < (σ.1 20 0).toInt ∧ (s_21.1 25 x1.toNatClampNeg).toInt < (σ.1 20 0).toInt := by rw [hG_s_21.1 24 (by decide), hG_s_21.1 25 (by decide)]; exact hO1_s_20
          exact hk_k_147 s_21 ⟨trivial, hB_s_21, hF_s_21, hLV_s_21, hOF_s_21, hTG_s_21, hR28_s_21, hO1_s_21, (by omega), (by omega)⟩
        · intro k_140 hk_k_140
          refine ok_ite (fun c_14 => ?_) (fun c_14 => ?_)
          · rw [fa_eq] at c_14
            refine ok_ix ⟨by omega, by omega⟩ ?_
            refine ok_lt fun s_23 e_s_23 => ?_
            have hB_s_23 : BX s_23 := by rw [e_s_23]; exact pX_24 hB_s_7 (by omega)
            have hF_s_23 : FR [24, 25, 26, 27, 28, 29, 30, 31] [0] σ s_23 := by rw [e_s_23]; exact FR.st hF_s_7 (by decide)
            have w_s_23_27 : (s_23.1 27 0).toInt = (s_7.1 27 0).toInt := by rw [e_s_23]; rfl
            have f_s_23_20 : (s_23.1 20 0).toInt = (σ.1 20 0).toInt := by rw [hF_s_23.1 20 (by decide)]
            have z28_s_23 : (s_23.1 28 x1.toNatClampNeg).toInt = (s_7.1 28 x1.toNatClampNeg).toInt := by rw [e_s_23]; rfl
            have hLV_s_23 : LV s_23 := by rw [e_s_23]; exact LV.st1 (by decide) hLV_s_7
            have hOF_s_23 : OF s_23 := by rw [e_s_23]; exact OF.st1 (by decide) hOF_s_7
            have hTG_s_23 : TG s_23 := by rw [e_s_23]; exact TG.st1 (by decide) hTG_s_7
            have hR28_s_23 : s_23.1 28 = (sti σ 28 x1.toNatClampNeg (σ.1 27 0)).1 28 := by rw [e_s_23]; exact hR28_s_7
            have hO1_s_23 : (∀ q : Nat, q ≠ x1.toNatClampNeg → s_23.1 24 q = σ.1 24 q ∧ s_23.1 25 q = σ.1 25 q) ∧ (s_23.1 24 x1.toNatClampNeg).toInt < (σ.1 20 0).toInt ∧ (s_23.1 25 x1.toNatClampNeg).toInt < (σ.1 20 0).toInt := ⟨fun q hq => by rw [e_s_23, sti_j hq]; exact hO1_s_7.1 q hq, by rw [e_s_23, sti_s]; omega, by rw [e_s_23]; exact hO1_s_7.2.2⟩
            exact hk_k_140 s_23 ⟨trivial, hB_s_23, hF_s_23, hLV_s_23, hOF_s_23, hTG_s_23, hR28_s_23, hO1_s_23, (by omega), (by omega)⟩
          · rw [fa_eq] at c_14
            refine ok_ix ⟨by omega, by omega⟩ ?_
            refine ok_lt fun v_24 e_v_24 => ?_
            have b_v_24 : (-1) ≤ v_24.toInt ∧ v_24.toInt ≤ 39 := by rw [e_v_24]; exact gX_24 hB_s_7 _
            have q_v_24 : v_24.toInt = (s_7.1 24 x1.toNatClampNeg).toInt := by rw [e_v_24]
            refine ok_ite (fun c_15 => ?_) (fun c_15 => ?_)
            · rw [fa_eq] at c_15
              exact hk_k_140 s_7 ⟨trivial, hB_s_7, hF_s_7, hLV_s_7, hOF_s_7, hTG_s_7, hR28_s_7, hO1_s_7, (by omega), (by omega)⟩
            · rw [fa_eq] at c_15
              refine ok_ix ⟨by omega, by omega⟩ ?_
              refine ok_lt fun s_26 e_s_26 => ?_
              have hB_s_26 : BX s_26 := by rw [e_s_26]; exact pX_25 hB_s_7 (by omega)
              have hF_s_26 : FR [24, 25, 26, 27, 28, 29, 30, 31] [0] σ s_26 := by rw [e_s_26]; exact FR.st hF_s_7 (by decide)
              have w_s_26_27 : (s_26.1 27 0).toInt = (s_7.1 27 0).toInt := by rw [e_s_26]; rfl
              have f_s_26_20 : (s_26.1 20 0).toInt = (σ.1 20 0).toInt := by rw [hF_s_26.1 20 (by decide)]
              have z28_s_26 : (s_26.1 28 x1.toNatClampNeg).toInt = (s_7.1 28 x1.toNatClampNeg).toInt := by rw [e_s_26]; rfl
              have hLV_s_26 : LV s_26 := by rw [e_s_26]; exact LV.st1 (by decide) hLV_s_7
              have hOF_s_26 : OF s_26 := by rw [e_s_26]; exact OF.st1 (by decide) hOF_s_7
              have hTG_s_26 : TG s_26 := by rw [e_s_26]; exact TG.st1 (by decide) hTG_s_7
              have hR28_s_26 : s_26.1 28 = (sti σ 28 x1.toNatClampNeg (σ.1 27 0)).1 28 := by rw [e_s_26]; exact hR28_s_7
              have hO1_s_26 : (∀ q : Nat, q ≠ x1.toNatClampNeg → s_26.1 24 q = σ.1 24 q ∧ s_26.1 25 q = σ.1 25 q) ∧ (s_26.1 24 x1.toNatClampNeg).toInt < (σ.1 20 0).toInt ∧ (s_26.1 25 x1.toNatClampNeg).toInt < (σ.1 20 0).toInt := ⟨fun q hq => by rw [e_s_26, sti_j hq]; exact hO1_s_7.1 q hq, by rw [e_s_26]; exact hO1_s_7.2.1, by rw [e_s_26, sti_s]; omega⟩
              exact hk_k_140 s_26 ⟨trivial, hB_s_26, hF_s_26, hLV_s_26, hOF_s_26, hTG_s_26, hR28_s_26, hO1_s_26, (by omega), (by omega)⟩
  · intro k_77 hk_k_77
    refine ok_ite (fun c_16 => ?_) (fun c_16 => ?_)
    · rw [fa_eq] at c_16
      exact hk_k_77 s_5 ⟨trivial, hB_s_5, hF_s_5, hLV_s_5, hOF_s_5, hTG_s_5, hR28_s_5, hO1_s_5, (by omega), (by omega)⟩
    · rw [fa_eq] at c_16
      obtain ⟨t_17, ht_17, g_17⟩ : ∃ t : Int, (v_1 + 1).toInt = t ∧ t = v_1.toInt + (1 : Int32).toInt := ⟨_, rfl, by have h9 := fb_addI (x := v_1) (y := (1 : Int32)) (by omega) (by omega); exact h9⟩
      refine ok_ix ⟨by rw [ht_17]; omega, by rw [ht_17]; omega⟩ ?_
      have g_18 := gX_23 hB_s_5 ((v_1 + 1).toNatClampNeg)
      refine ok_lt fun v_28 e_v_28 => ?_
      have b_v_28 : (-1) ≤ v_28.toInt ∧ v_28.toInt ≤ 39 := by rw [e_v_28]; exact gX_23 hB_s_5 _
      have q_v_28 : v_28.toInt = (σ.1 23 ((v_1 + 1).toNatClampNeg)).toInt := by rw [e_v_28, hF_s_5.1 23 (by decide)]
      have o28 := y6 (by omega)
      have o_v_28 : v_28.toInt < (σ.1 20 0).toInt := by rw [e_v_28, hF_s_5.1 23 (by decide)]; exact hOF _ (by have := clamp_I (x := (v_1 + 1)) (by omega); omega)
      refine ok_ix ⟨by omega, by omega⟩ ?_
      refine ok_lt fun s_29 e_s_29 => ?_
      have hB_s_29 : BX s_29 := by rw [e_s_29]; exact pX_24 hB_s_5 (by omega)
      have hF_s_29 : FR [24, 25, 26, 27, 28, 29, 30, 31] [0] σ s_29 := by rw [e_s_29]; exact FR.st hF_s_5 (by decide)
      have w_s_29_27 : (s_29.1 27 0).toInt = (s_5.1 27 0).toInt := by rw [e_s_29]; rfl
      have f_s_29_20 : (s_29.1 20 0).toInt = (σ.1 20 0).toInt := by rw [hF_s_29.1 20 (by decide)]
      have z28_s_29 : (s_29.1 28 x1.toNatClampNeg).toInt = (s_5.1 28 x1.toNatClampNeg).toInt := by rw [e_s_29]; rfl
      have hLV_s_29 : LV s_29 := by rw [e_s_29]; exact LV.st1 (by decide) hLV_s_5
      have hOF_s_29 : OF s_29 := by rw [e_s_29]; exact OF.st1 (by decide) hOF_s_5
      have hTG_s_29 : TG s_29 := by rw [e_s_29]; exact TG.st1 (by decide) hTG_s_5
      have hR28_s_29 : s_29.1 28 = (sti σ 28 x1.toNatClampNeg (σ.1 27 0)).1 28 := by rw [e_s_29]; exact hR28_s_5
      have hO1_s_29 : (∀ q : Nat, q ≠ x1.toNatClampNeg → s_29.1 24 q = σ.1 24 q ∧ s_29.1 25 q = σ.1 25 q) ∧ (s_29.1 24 x1.toNatClampNeg).toInt < (σ.1 20 0).toInt ∧ (s_29.1 25 x1.toNatClampNeg).toInt < (σ.1 20 0).toInt := ⟨fun q hq => by rw [e_s_29, sti_j hq]; exact hO1_s_5.1 q hq, by rw [e_s_29, sti_s]; omega, by rw [e_s_29]; exact hO1_s_5.2.2⟩
      refine ok_ix ⟨by rw [ht_17]; omega, by rw [ht_17]; omega⟩ ?_
      have g_19 := gX_23 hB_s_29 ((v_1 + 1).toNatClampNeg)
      refine ok_lt fun v_30 e_v_30 => ?_
      have b_v_30 : (-1) ≤ v_30.toInt ∧ v_30.toInt ≤ 39 := by rw [e_v_30]; exact gX_23 hB_s_29 _
      have q_v_30 : v_30.toInt = (σ.1 23 ((v_1 + 1).toNatClampNeg)).toInt := by rw [e_v_30, hF_s_29.1 23 (by decide)]
      have o_v_30 : v_30.toInt < (σ.1 20 0).toInt := by rw [e_v_30, hF_s_29.1 23 (by decide)]; exact hOF _ (by have := clamp_I (x := (v_1 + 1)) (by omega); omega)
      refine ok_cals (s_X0_lead (x1 := x1) (x2 := v_30) (x3 := (0 : Int32)) (σ := s_29) hB_s_29 hTG_s_29 (by omega) (by omega) (by omega) (by omega) (by omega) (by omega)) (fun s_31 h_20 => ?_)
      obtain ⟨hB_s_31, hG_s_31, hTG_s_31, x_s_31⟩ := h_20
      (try dsimp only at hB_s_31 hG_s_31 hTG_s_31 x_s_31)
      have hF_s_31 : FR [24, 25, 26, 27, 28, 29, 30, 31] [0] σ s_31 := FR.cal hF_s_29 hG_s_31 rfl rfl
      have f_s_31_20 : (s_31.1 20 0).toInt = (σ.1 20 0).toInt := by rw [hF_s_31.1 20 (by decide)]
      have z28_s_31 : (s_31.1 28 x1.toNatClampNeg).toInt = (s_29.1 28 x1.toNatClampNeg).toInt := by rw [hG_s_31.1 28 (by decide)]
      have hLV_s_31 : LV s_31 := LV.fr hG_s_31 (by decide) hLV_s_29
      have hOF_s_31 : OF s_31 := OF.fr hG_s_31 (by decide) hOF_s_29
      have hR28_s_31 : s_31.1 28 = (sti σ 28 x1.toNatClampNeg (σ.1 27 0)).1 28 := by rw [hG_s_31.1 28 (by decide)]; exact hR28_s_29
      have hO1_s_31 : (∀ q : Nat, q ≠ x1.toNatClampNeg → s_31.1 24 q = σ.1 24 q ∧ s_31.1 25 q = σ.1 25 q) ∧ (s_31.1 24 x1.toNatClampNeg).toInt < (σ.1 20 0).toInt ∧ (s_31.1 25 x1.toNatClampNeg).toInt < (σ.1 20 0).toInt := by rw [hG_s_31.1 24 (by decide), hG_s_31.1 25 (by decide)]; exact hO1_s_29
      exact hk_k_77 s_31 ⟨trivial, hB_s_31, hF_s_31, hLV_s_31, hOF_s_31, hTG_s_31, hR28_s_31, hO1_s_31, (by omega), (by omega)⟩

set_option maxHeartbeats 4000000 in
theorem s_X3_depthBehind {x1 : Int32} {σ : Sto} (hB : BX σ) (p_x1 : 0 ≤ x1.toInt ∧ x1.toInt ≤ 39) : OK (f_X3_depthBehind x1 σ) (fun v => ((-3) ≤ v.toInt ∧ v.toInt ≤ 8) ∧ (HD (σ.1 6 x1.toNatClampNeg).toInt (σ.1 8 x1.toNatClampNeg).toInt v.toInt)) := by
  unfold f_X3_depthBehind
  have hF : FR [] [] σ σ := FR.rf
  refine ok_ix ⟨by omega, by omega⟩ ?_
  have g_1 := gX_8 hB (x1.toNatClampNeg)
  refine ok_lt fun v_1 e_v_1 => ?_
  have b_v_1 : (-1) ≤ v_1.toInt ∧ v_1.toInt ≤ 6 := by rw [e_v_1]; exact gX_8 hB _
  refine ok_ix ⟨by omega, by omega⟩ ?_
  have g_2 := gX_6 hB (x1.toNatClampNeg)
  refine ok_lt fun v_2 e_v_2 => ?_
  have b_v_2 : 0 ≤ v_2.toInt ∧ v_2.toInt ≤ 255 := by rw [e_v_2]; exact gX_6 hB _
  have q_v_2 : v_2.toInt = (σ.1 6 x1.toNatClampNeg).toInt := by rw [e_v_2]
  refine ok_calp (s_X3_needs (x1 := v_2) (by omega)) (fun v_3 h_3 => ?_)
  obtain ⟨b_v_3, x_v_3⟩ := h_3
  (try dsimp only at b_v_3 x_v_3)
  refine ok_ix ⟨by omega, by omega⟩ ?_
  refine ok_lt fun v_4 e_v_4 => ?_
  have b_v_4 : 0 ≤ v_4.toInt ∧ v_4.toInt ≤ 255 := by rw [e_v_4]; exact gX_6 hB _
  have q_v_4 : v_4.toInt = (σ.1 6 x1.toNatClampNeg).toInt := by rw [e_v_4]
  refine ok_calp (s_X3_gives (x1 := v_4) (by omega)) (fun v_5 h_4 => ?_)
  obtain ⟨b_v_5, x_v_5⟩ := h_4
  (try dsimp only at b_v_5 x_v_5)
  have y3 : v_3.toInt = ndI (σ.1 6 x1.toNatClampNeg).toInt := by rw [x_v_3, e_v_2]
  have y5 : v_5.toInt = gvI (σ.1 6 x1.toNatClampNeg).toInt := by rw [x_v_5, e_v_4]
  have y1 : v_1.toInt = (σ.1 8 x1.toNatClampNeg).toInt := by rw [e_v_1]
  obtain ⟨t_5, ht_5, g_5⟩ : ∃ t : Int, (v_1 - v_3).toInt = t ∧ t = v_1.toInt - v_3.toInt := ⟨_, rfl, by have h9 := fb_subI (x := v_1) (y := v_3) (by omega) (by omega); exact h9⟩
  obtain ⟨t_6, ht_6, g_6⟩ : ∃ t : Int, ((v_1 - v_3) + v_5).toInt = t ∧ t = t_5 + v_5.toInt := ⟨_, rfl, by have h9 := fb_addI (x := (v_1 - v_3)) (y := v_5) (by rw [ht_5]; omega) (by rw [ht_5]; omega); rw [ht_5] at h9; exact h9⟩
  exact ok_ret ⟨(by (try dsimp only); rw [ht_6]; omega), (by (try dsimp only); unfold HD; omega)⟩

set_option maxHeartbeats 4000000 in
theorem s_X0_cut {σ : Sto} (hB : BX σ) (hLV : LV σ) (hLW : LW σ) (hFE : FE σ) : OK (f_X0_cut σ) (fun s => BX s ∧ FR [20, 21, 22, 23, 24, 25, 26, 27, 28, 29, 30, 31, 32, 33] [0] σ s ∧ GB s ∧ EB s ∧ FE s ∧ ON s) := by
  unfold f_X0_cut
  have hF : FR [20, 21, 22, 23, 24, 25, 26, 27, 28, 29, 30, 31, 32, 33] [0] σ σ := FR.rf
  have k_m1 : ((-1) : Int32).toInt = -1 := by decide +kernel
  have k_0 : (0 : Int32).toInt = 0 := by decide +kernel
  have k_1 : (1 : Int32).toInt = 1 := by decide +kernel
  have g4 := gX_4 hB 0
  have g5 := gX_5 hB 0
  have hR := hLW.2.2.2
  have hz1 := hLW.1
  have hd0 : (mk (σ.1 4 0).toInt.toNat (σ.1 8)) 0 ≠ -1 := by have := hR.2.2.1; omega
  refine ok_cals (s_X0_markCuts  (σ := σ) hB hLV) (fun s_1 h_1 => ?_)
  obtain ⟨hB_s_1, hG_s_1, x_s_1⟩ := h_1
  (try dsimp only at hB_s_1 hG_s_1 x_s_1)
  have hF_s_1 : FR [20, 21, 22, 23, 24, 25, 26, 27, 28, 29, 30, 31, 32, 33] [0] σ s_1 := FR.cal hF hG_s_1 rfl rfl
  have w_s_1_20 : (s_1.1 20 0).toInt = (σ.1 20 0).toInt := by rw [hG_s_1.1 20 (by decide)]
  have w_s_1_27 : (s_1.1 27 0).toInt = (σ.1 27 0).toInt := by rw [hG_s_1.1 27 (by decide)]
  have w_s_1_32 : (s_1.1 32 0).toInt = (σ.1 32 0).toInt := by rw [hG_s_1.1 32 (by decide)]
  have f_s_1_4 : (s_1.1 4 0).toInt = (σ.1 4 0).toInt := by rw [hF_s_1.1 4 (by decide)]
  have f_s_1_5 : (s_1.1 5 0).toInt = (σ.1 5 0).toInt := by rw [hF_s_1.1 5 (by decide)]
  have hLV_s_1 : LV s_1 := LV.fr hG_s_1 (by decide) hLV
  have hLW_s_1 : LW s_1 := LW.fr hG_s_1 (by decide) hLW
  have hFE_s_1 : FE s_1 := FE.fr hG_s_1 (by decide) hFE
  have hRC_s_1 : ∀ i : Nat, i ≤ 40 → ((s_1.1 33 i).toInt ≠ 0 ↔ CUTC (σ.1 4 0).toInt.toNat (σ.1 5 0).toInt.toNat (ri (σ.1 6)) (ri (σ.1 7)) (ri (σ.1 9)) (ri (σ.1 10)) (ri (σ.1 11)) (mk (σ.1 4 0).toInt.toNat (σ.1 8)) i) := x_s_1
  refine ok_lt fun s_2 e_s_2 => ?_
  have hB_s_2 : BX s_2 := by rw [e_s_2]; exact pX_20 hB_s_1 (by omega)
  have hF_s_2 : FR [20, 21, 22, 23, 24, 25, 26, 27, 28, 29, 30, 31, 32, 33] [0] σ s_2 := by rw [e_s_2]; exact FR.st hF_s_1 (by decide)
  have w_s_2_20 : (s_2.1 20 0).toInt = (0 : Int32).toInt := by rw [e_s_2, sti_s]
  have w_s_2_27 : (s_2.1 27 0).toInt = (s_1.1 27 0).toInt := by rw [e_s_2]; rfl
  have w_s_2_32 : (s_2.1 32 0).toInt = (s_1.1 32 0).toInt := by rw [e_s_2]; rfl
  have f_s_2_4 : (s_2.1 4 0).toInt = (σ.1 4 0).toInt := by rw [hF_s_2.1 4 (by decide)]
  have f_s_2_5 : (s_2.1 5 0).toInt = (σ.1 5 0).toInt := by rw [hF_s_2.1 5 (by decide)]
  have hLV_s_2 : LV s_2 := by rw [e_s_2]; exact LV.st1 (by decide) hLV_s_1
  have hLW_s_2 : LW s_2 := by rw [e_s_2]; exact LW.st1 (by decide) hLW_s_1
  have hFE_s_2 : FE s_2 := by rw [e_s_2]; exact FE.st1 (by decide) hFE_s_1
  have hRC_s_2 : ∀ i : Nat, i ≤ 40 → ((s_2.1 33 i).toInt ≠ 0 ↔ CUTC (σ.1 4 0).toInt.toNat (σ.1 5 0).toInt.toNat (ri (σ.1 6)) (ri (σ.1 7)) (ri (σ.1 9)) (ri (σ.1 10)) (ri (σ.1 11)) (mk (σ.1 4 0).toInt.toNat (σ.1 8)) i) := by rw [e_s_2]; exact hRC_s_1
  refine ok_lt fun s_3 e_s_3 => ?_
  have hB_s_3 : BX s_3 := by rw [e_s_3]; exact pX_32 hB_s_2 (by omega)
  have hF_s_3 : FR [20, 21, 22, 23, 24, 25, 26, 27, 28, 29, 30, 31, 32, 33] [0] σ s_3 := by rw [e_s_3]; exact FR.st hF_s_2 (by decide)
  have w_s_3_20 : (s_3.1 20 0).toInt = (s_2.1 20 0).toInt := by rw [e_s_3]; rfl
  have w_s_3_27 : (s_3.1 27 0).toInt = (s_2.1 27 0).toInt := by rw [e_s_3]; rfl
  have w_s_3_32 : (s_3.1 32 0).toInt = (0 : Int32).toInt := by rw [e_s_3, sti_s]
  have f_s_3_4 : (s_3.1 4 0).toInt = (σ.1 4 0).toInt := by rw [hF_s_3.1 4 (by decide)]
  have f_s_3_5 : (s_3.1 5 0).toInt = (σ.1 5 0).toInt := by rw [hF_s_3.1 5 (by decide)]
  have hLV_s_3 : LV s_3 := by rw [e_s_3]; exact LV.st1 (by decide) hLV_s_2
  have hLW_s_3 : LW s_3 := by rw [e_s_3]; exact LW.st1 (by decide) hLW_s_2
  have hFE_s_3 : FE s_3 := by rw [e_s_3]; exact FE.st1 (by decide) hFE_s_2
  have hRC_s_3 : ∀ i : Nat, i ≤ 40 → ((s_3.1 33 i).toInt ≠ 0 ↔ CUTC (σ.1 4 0).toInt.toNat (σ.1 5 0).toInt.toNat (ri (σ.1 6)) (ri (σ.1 7)) (ri (σ.1 9)) (ri (σ.1 10)) (ri (σ.1 11)) (mk (σ.1 4 0).toInt.toNat (σ.1 8)) i) := by rw [e_s_3]; exact hRC_s_2
  refine ok_itr2 (fun (n : Nat) (x1_4 : Int32) (s_4 : Sto) => n = (41 - x1_4.toInt).toNat ∧ (0 ≤ x1_4.toInt ∧ x1_4.toInt ≤ 40) ∧ (BX s_4) ∧ (FR [20, 21, 22, 23, 24, 25, 26, 27, 28, 29, 30, 31, 32, 33] [0] σ s_4) ∧ (∀ i : Nat, i ≤ 40 → ((s_4.1 33 i).toInt ≠ 0 ↔ CUTC (σ.1 4 0).toInt.toNat (σ.1 5 0).toInt.toNat (ri (σ.1 6)) (ri (σ.1 7)) (ri (σ.1 9)) (ri (σ.1 10)) (ri (σ.1 11)) (mk (σ.1 4 0).toInt.toNat (σ.1 8)) i)) ∧ (FE s_4) ∧ (x1_4.toInt ≤ (σ.1 4 0).toInt) ∧ (BKI (mk (σ.1 4 0).toInt.toNat (σ.1 8)) (CUTC (σ.1 4 0).toInt.toNat (σ.1 5 0).toInt.toNat (ri (σ.1 6)) (ri (σ.1 7)) (ri (σ.1 9)) (ri (σ.1 10)) (ri (σ.1 11)) (mk (σ.1 4 0).toInt.toNat (σ.1 8))) x1_4.toNatClampNeg (ri (s_4.1 21)) (ri (s_4.1 22)) (ri (s_4.1 23)) (s_4.1 20 0).toInt.toNat)) ?_ (n := _) ⟨rfl, (by omega), hB_s_3, hF_s_3, hRC_s_3, hFE_s_3, (by omega), (BKI.z (by omega))⟩ (show _ < 10000000 by omega)
  intro a_16 n x1_4 s_4 hI ih_a_16
  obtain ⟨hn_a_16, b_x1_4, hB_s_4, hF_s_4, hRC_s_4, hFE_s_4, hle4, hbk⟩ := hI
  have f_s_4_4 : (s_4.1 4 0).toInt = (σ.1 4 0).toInt := by rw [hF_s_4.1 4 (by decide)]
  have f_s_4_5 : (s_4.1 5 0).toInt = (σ.1 5 0).toInt := by rw [hF_s_4.1 5 (by decide)]
  have g_3 := gX_4 hB_s_4 0
  have g_4 : (s_4.1 4 0).toInt = (σ.1 4 0).toInt := by rw [hF_s_4.1 4 (by decide)]
  have g_5 := gX_4 hB 0
  refine ok_ite (fun c_2 => ?_) (fun c_2 => ?_)
  · rw [fa_le] at c_2
    refine ok_lt fun s_6 e_s_6 => ?_
    have hB_s_6 : BX s_6 := by rw [e_s_6]; exact pX_27 hB_s_4 (by omega)
    have hF_s_6 : FR [20, 21, 22, 23, 24, 25, 26, 27, 28, 29, 30, 31, 32, 33] [0] σ s_6 := by rw [e_s_6]; exact FR.st hF_s_4 (by decide)
    have w_s_6_20 : (s_6.1 20 0).toInt = (s_4.1 20 0).toInt := by rw [e_s_6]; rfl
    have w_s_6_27 : (s_6.1 27 0).toInt = (0 : Int32).toInt := by rw [e_s_6, sti_s]
    have w_s_6_32 : (s_6.1 32 0).toInt = (s_4.1 32 0).toInt := by rw [e_s_6]; rfl
    have f_s_6_4 : (s_6.1 4 0).toInt = (σ.1 4 0).toInt := by rw [hF_s_6.1 4 (by decide)]
    have f_s_6_5 : (s_6.1 5 0).toInt = (σ.1 5 0).toInt := by rw [hF_s_6.1 5 (by decide)]
    have hRC_s_6 : ∀ i : Nat, i ≤ 40 → ((s_6.1 33 i).toInt ≠ 0 ↔ CUTC (σ.1 4 0).toInt.toNat (σ.1 5 0).toInt.toNat (ri (σ.1 6)) (ri (σ.1 7)) (ri (σ.1 9)) (ri (σ.1 10)) (ri (σ.1 11)) (mk (σ.1 4 0).toInt.toNat (σ.1 8)) i) := by rw [e_s_6]; exact hRC_s_4
    have hFE_s_6 : FE s_6 := by rw [e_s_6]; exact FE.st1 (by decide) hFE_s_4
    have g20b := gX_20 hB_s_6 0
    have hbk6 := hbk
    rw [show x1_4.toNatClampNeg = (σ.1 4 0).toInt.toNat by have := clamp_I (x := x1_4) (by omega); omega] at hbk6
    have hBK_s_6 : BKI (mk (σ.1 4 0).toInt.toNat (σ.1 8)) (CUTC (σ.1 4 0).toInt.toNat (σ.1 5 0).toInt.toNat (ri (σ.1 6)) (ri (σ.1 7)) (ri (σ.1 9)) (ri (σ.1 10)) (ri (σ.1 11)) (mk (σ.1 4 0).toInt.toNat (σ.1 8))) (σ.1 4 0).toInt.toNat (ri (s_6.1 21)) (ri (s_6.1 22)) (ri (s_6.1 23)) (s_6.1 20 0).toInt.toNat := by rw [show s_6.1 20 = s_4.1 20 by rw [e_s_6]; rfl, show s_6.1 21 = s_4.1 21 by rw [e_s_6]; rfl, show s_6.1 22 = s_4.1 22 by rw [e_s_6]; rfl, show s_6.1 23 = s_4.1 23 by rw [e_s_6]; rfl]; exact hbk6
    have hOF_s_6 : OF s_6 := fun i hi => by have g20 := gX_20 hB_s_6 0; have := (hBK_s_6.ofl (i := i) (by omega)).2; unfold ri at this; omega
    have hTG_s_6 : TG s_6 := fun e he => by exfalso; omega
    have hLV_s_6 : LV s_6 := LV.fr hF_s_6 (by decide) hLV
    refine ok_itr2 (fun (n : Nat) (x1_7 : Int32) (s_7 : Sto) => n = (41 - x1_7.toInt).toNat ∧ (0 ≤ x1_7.toInt ∧ x1_7.toInt ≤ 40) ∧ (BX s_7) ∧ (FR [20, 21, 22, 23, 24, 25, 26, 27, 28, 29, 30, 31, 32, 33] [0] σ s_7) ∧ (BKI (mk (σ.1 4 0).toInt.toNat (σ.1 8)) (CUTC (σ.1 4 0).toInt.toNat (σ.1 5 0).toInt.toNat (ri (σ.1 6)) (ri (σ.1 7)) (ri (σ.1 9)) (ri (σ.1 10)) (ri (σ.1 11)) (mk (σ.1 4 0).toInt.toNat (σ.1 8))) (σ.1 4 0).toInt.toNat (ri (s_7.1 21)) (ri (s_7.1 22)) (ri (s_7.1 23)) (s_7.1 20 0).toInt.toNat) ∧ (TG s_7) ∧ (OF s_7) ∧ (LV s_7) ∧ (FE s_7) ∧ (x1_7.toInt ≤ (s_7.1 20 0).toInt) ∧ ((s_7.1 27 0).toInt ≤ 3 * x1_7.toInt) ∧ (∀ b : Nat, (b : Int) < x1_7.toInt → (s_7.1 28 b).toInt ≤ (s_7.1 27 0).toInt) ∧ (∀ p q : Nat, p ≤ q → (q : Int) < x1_7.toInt → (s_7.1 28 p).toInt ≤ (s_7.1 28 q).toInt) ∧ (∀ b : Nat, (b : Int) < x1_7.toInt → (s_7.1 24 b).toInt < (s_7.1 20 0).toInt ∧ (s_7.1 25 b).toInt < (s_7.1 20 0).toInt)) ?_ (n := _) ⟨rfl, (by omega), hB_s_6, hF_s_6, hBK_s_6, hTG_s_6, hOF_s_6, hLV_s_6, hFE_s_6, (by omega), (by omega), (fun b hb => by exfalso; have h9 : (0 : Int32).toInt = 0 := (by decide +kernel); omega), (fun p q _ hb => by exfalso; have h9 : (0 : Int32).toInt = 0 := (by decide +kernel); omega), (fun b hb => by exfalso; have h9 : (0 : Int32).toInt = 0 := (by decide +kernel); omega)⟩ (show _ < 10000000 by omega)
    intro a_120 n x1_7 s_7 hI ih_a_120
    obtain ⟨hn_a_120, b_x1_7, hB_s_7, hF_s_7, hBK_s_7, hTG_s_7, hOF_s_7, hLV_s_7, hFE_s_7, hle7, he3, hfe, hmo, hon⟩ := hI
    have f_s_7_4 : (s_7.1 4 0).toInt = (σ.1 4 0).toInt := by rw [hF_s_7.1 4 (by decide)]
    have f_s_7_5 : (s_7.1 5 0).toInt = (σ.1 5 0).toInt := by rw [hF_s_7.1 5 (by decide)]
    have g_7 := gX_20 hB_s_7 0
    refine ok_ite (fun c_6 => ?_) (fun c_6 => ?_)
    · rw [fa_le] at c_6
      refine ok_ix ⟨by omega, by omega⟩ ?_
      have g_8 := gX_27 hB_s_7 0
      refine ok_lt fun s_9 e_s_9 => ?_
      have hB_s_9 : BX s_9 := by rw [e_s_9]; exact pX_28 hB_s_7 (by omega)
      have hF_s_9 : FR [20, 21, 22, 23, 24, 25, 26, 27, 28, 29, 30, 31, 32, 33] [0] σ s_9 := by rw [e_s_9]; exact FR.st hF_s_7 (by decide)
      have w_s_9_20 : (s_9.1 20 0).toInt = (s_7.1 20 0).toInt := by rw [e_s_9]; rfl
      have w_s_9_27 : (s_9.1 27 0).toInt = (s_7.1 27 0).toInt := by rw [e_s_9]; rfl
      have w_s_9_32 : (s_9.1 32 0).toInt = (s_7.1 32 0).toInt := by rw [e_s_9]; rfl
      have f_s_9_4 : (s_9.1 4 0).toInt = (σ.1 4 0).toInt := by rw [hF_s_9.1 4 (by decide)]
      have f_s_9_5 : (s_9.1 5 0).toInt = (σ.1 5 0).toInt := by rw [hF_s_9.1 5 (by decide)]
      have hBK_s_9 : BKI (mk (σ.1 4 0).toInt.toNat (σ.1 8)) (CUTC (σ.1 4 0).toInt.toNat (σ.1 5 0).toInt.toNat (ri (σ.1 6)) (ri (σ.1 7)) (ri (σ.1 9)) (ri (σ.1 10)) (ri (σ.1 11)) (mk (σ.1 4 0).toInt.toNat (σ.1 8))) (σ.1 4 0).toInt.toNat (ri (s_9.1 21)) (ri (s_9.1 22)) (ri (s_9.1 23)) (s_9.1 20 0).toInt.toNat := by rw [e_s_9]; exact hBK_s_7
      have hTG_s_9 : TG s_9 := by rw [e_s_9]; exact TG.st1 (by decide) hTG_s_7
      have hOF_s_9 : OF s_9 := by rw [e_s_9]; exact OF.st1 (by decide) hOF_s_7
      have hLV_s_9 : LV s_9 := by rw [e_s_9]; exact LV.st1 (by decide) hLV_s_7
      have c9 := clamp_I (x := s_7.1 20 0) (by omega)
      have hGB_s_9 : GB s_9 := GB.of hB hLW (s := s_9) (by rw [e_s_9]; exact hBK_s_7) (hF_s_9.1 6 (by decide)) (hF_s_9.1 7 (by decide)) (hF_s_9.1 8 (by decide))
      have hFE_s_9 : FE s_9 := fun b hb => by rw [e_s_9, sti_if]; by_cases q : b = (s_7.1 20 0).toNatClampNeg; (rw [if_pos q]; omega); (rw [if_neg q]; exact hFE_s_7 b hb)
      have h20p : 1 ≤ (s_7.1 20 0).toInt := by have h8 : (s_7.1 20 0).toInt.toNat = cbP (mk (σ.1 4 0).toInt.toNat (σ.1 8)) (CUTC (σ.1 4 0).toInt.toNat (σ.1 5 0).toInt.toNat (ri (σ.1 6)) (ri (σ.1 7)) (ri (σ.1 9)) (ri (σ.1 10)) (ri (σ.1 11)) (mk (σ.1 4 0).toInt.toNat (σ.1 8))) (σ.1 4 0).toInt.toNat := hBK_s_7.1; have h9 := cb_pos (dd := mk (σ.1 4 0).toInt.toNat (σ.1 8)) (ct := CUTC (σ.1 4 0).toInt.toNat (σ.1 5 0).toInt.toNat (ri (σ.1 6)) (ri (σ.1 7)) (ri (σ.1 9)) (ri (σ.1 10)) (ri (σ.1 11)) (mk (σ.1 4 0).toInt.toNat (σ.1 8))) (i := (σ.1 4 0).toInt.toNat) hd0 (by omega); omega
      have hEB_s_9 : EB s_9 := ⟨by omega, fun p q hpq hq => by rw [show s_9.1 28 = (sti s_7 28 (s_7.1 20 0).toNatClampNeg (s_7.1 27 0)).1 28 by rw [e_s_9], sti_if, sti_if]; by_cases r : q = (s_7.1 20 0).toNatClampNeg; (rw [if_pos r]; by_cases r2 : p = (s_7.1 20 0).toNatClampNeg; (rw [if_pos r2]; exact Int.le_refl _); (rw [if_neg r2]; exact hfe p (by omega))); (rw [if_neg r, if_neg (by omega)]; exact hmo p q hpq (by omega)), fun b hb => by rw [show s_9.1 28 = (sti s_7 28 (s_7.1 20 0).toNatClampNeg (s_7.1 27 0)).1 28 by rw [e_s_9], sti_if, if_pos (by omega)]; omega, fun e he => by rw [show s_9.1 30 = s_7.1 30 by rw [e_s_9]; rfl]; have := hTG_s_7 e (by omega); omega⟩
      have hON_s_9 : ON s_9 := fun b hb => by rw [show s_9.1 24 = s_7.1 24 by rw [e_s_9]; rfl, show s_9.1 25 = s_7.1 25 by rw [e_s_9]; rfl, show s_9.1 20 = s_7.1 20 by rw [e_s_9]; rfl] at *; exact hon b (by omega)
      exact ok_ret ⟨hB_s_9, hF_s_9, hGB_s_9, hEB_s_9, hFE_s_9, hON_s_9⟩
    · rw [fa_le] at c_6
      refine ok_cals (s_X0_join (x1 := x1_7) (σ := s_7) hB_s_7 hLV_s_7 hOF_s_7 hTG_s_7 (by omega) (by omega) (by obtain ⟨f, l, r1, r2, r3, r4, r5, r6, r7, r8, r9⟩ := hBK_s_7.blk hR.nx (b := x1_7.toNatClampNeg) (by have := clamp_I (x := x1_7) (by omega); omega); have r2b : (s_7.1 22 x1_7.toNatClampNeg).toInt = l := r2; rw [hF_s_7.1 4 (by decide)]; omega) (by obtain ⟨f, l, r1, r2, r3, r4, r5, r6, r7, r8, r9⟩ := hBK_s_7.blk hR.nx (b := x1_7.toNatClampNeg) (by have := clamp_I (x := x1_7) (by omega); omega); have r2b : (s_7.1 22 x1_7.toNatClampNeg).toInt = l := r2; have q := (r8 l r3 (Nat.le_refl _)).1; rw [mk_lt r4] at q; rw [hF_s_7.1 8 (by decide), show (s_7.1 22 x1_7.toNatClampNeg).toNatClampNeg = l by have := clamp_I (x := s_7.1 22 x1_7.toNatClampNeg) (by omega); omega]; exact q)) (fun s_10 h_9 => ?_)
      obtain ⟨hB_s_10, hG_s_10, hTG_s_10, x_s_10⟩ := h_9
      (try dsimp only at hB_s_10 hG_s_10 hTG_s_10 x_s_10)
      have hF_s_10 : FR [20, 21, 22, 23, 24, 25, 26, 27, 28, 29, 30, 31, 32, 33] [0] σ s_10 := FR.cal hF_s_7 hG_s_10 rfl rfl
      have w_s_10_20 : (s_10.1 20 0).toInt = (s_7.1 20 0).toInt := by rw [hG_s_10.1 20 (by decide)]
      have w_s_10_32 : (s_10.1 32 0).toInt = (s_7.1 32 0).toInt := by rw [hG_s_10.1 32 (by decide)]
      have f_s_10_4 : (s_10.1 4 0).toInt = (σ.1 4 0).toInt := by rw [hF_s_10.1 4 (by decide)]
      have f_s_10_5 : (s_10.1 5 0).toInt = (σ.1 5 0).toInt := by rw [hF_s_10.1 5 (by decide)]
      have hBK_s_10 : BKI (mk (σ.1 4 0).toInt.toNat (σ.1 8)) (CUTC (σ.1 4 0).toInt.toNat (σ.1 5 0).toInt.toNat (ri (σ.1 6)) (ri (σ.1 7)) (ri (σ.1 9)) (ri (σ.1 10)) (ri (σ.1 11)) (mk (σ.1 4 0).toInt.toNat (σ.1 8))) (σ.1 4 0).toInt.toNat (ri (s_10.1 21)) (ri (s_10.1 22)) (ri (s_10.1 23)) (s_10.1 20 0).toInt.toNat := by rw [hG_s_10.1 20 (by decide), hG_s_10.1 21 (by decide), hG_s_10.1 22 (by decide), hG_s_10.1 23 (by decide)]; exact hBK_s_7
      have hOF_s_10 : OF s_10 := OF.fr hG_s_10 (by decide) hOF_s_7
      have hLV_s_10 : LV s_10 := LV.fr hG_s_10 (by decide) hLV_s_7
      have hn10 : (s_10.1 20 0).toInt = (s_7.1 20 0).toInt := by rw [hG_s_10.1 20 (by decide)]
      have hFE_s_10 : FE s_10 := fun b hb => by rw [x_s_10.2.2.1, sti_if]; by_cases q : b = x1_7.toNatClampNeg; (rw [if_pos q]; omega); (rw [if_neg q]; exact hFE_s_7 b hb)
      refine ok_ix ⟨by omega, by omega⟩ ?_
      have g_10 := gX_21 hB_s_10 (x1_7.toNatClampNeg)
      refine ok_lt fun v_11 e_v_11 => ?_
      have b_v_11 : 0 ≤ v_11.toInt ∧ v_11.toInt ≤ 39 := by rw [e_v_11]; exact gX_21 hB_s_10 _
      refine ok_ix ⟨by omega, by omega⟩ ?_
      have g_11 := gX_8 hB_s_10 (v_11.toNatClampNeg)
      refine ok_lt fun v_12 e_v_12 => ?_
      have b_v_12 : (-1) ≤ v_12.toInt ∧ v_12.toInt ≤ 6 := by rw [e_v_12]; exact gX_8 hB_s_10 _
      refine ok_ix ⟨by omega, by omega⟩ ?_
      have g_12 := gX_22 hB_s_10 (x1_7.toNatClampNeg)
      refine ok_lt fun v_13 e_v_13 => ?_
      have b_v_13 : 0 ≤ v_13.toInt ∧ v_13.toInt ≤ 39 := by rw [e_v_13]; exact gX_22 hB_s_10 _
      refine ok_calp (s_X3_depthBehind (x1 := v_13) (σ := s_10) hB_s_10 (by omega)) (fun v_14 h_13 => ?_)
      obtain ⟨b_v_14, x_v_14⟩ := h_13
      (try dsimp only at b_v_14 x_v_14)
      have y14 : v_14.toInt ≤ 6 := by obtain ⟨f, l, r1, r2, r3, r4, r5, r6, r7, r8, r9⟩ := hBK_s_7.blk hR.nx (b := x1_7.toNatClampNeg) (by have := clamp_I (x := x1_7) (by omega); omega); have r2b : (s_7.1 22 x1_7.toNatClampNeg).toInt = l := r2; have q13 : v_13.toNatClampNeg = l := (by have z := congrArg Int32.toInt e_v_13; rw [hG_s_10.1 22 (by decide)] at z; have := clamp_I (x := v_13) (by omega); omega); have o := hR.1 l r4 (r8 l r3 (Nat.le_refl _)).1; have x9 := x_v_14; unfold HD at x9; rw [q13, hF_s_10.1 6 (by decide), hF_s_10.1 8 (by decide)] at x9; have o2 := o.2.1; rw [mk_lt r4] at o2; unfold ri at o2; omega
      obtain ⟨t_14, ht_14, g_14⟩ : ∃ t : Int, (if v_12 < v_14 then v_14 else v_12).toInt = t ∧ -2147483648 ≤ t ∧ t ≤ 2147483647 := ⟨_, rfl, tI_rng _⟩
      refine ok_lt fun v_15 e_v_15 => ?_
      have b_v_15 := mx_spec e_v_15
      obtain ⟨t_15, ht_15, g_15⟩ : ∃ t : Int, (if (s_10.1 32 0) < v_15 then v_15 else (s_10.1 32 0)).toInt = t ∧ -2147483648 ≤ t ∧ t ≤ 2147483647 := ⟨_, rfl, tI_rng _⟩
      refine ok_lt fun v_16 e_v_16 => ?_
      have g_16 := gX_32 hB_s_10 0
      have b_v_16 := mx_spec e_v_16
      refine ok_lt fun s_17 e_s_17 => ?_
      have hB_s_17 : BX s_17 := by rw [e_s_17]; exact pX_32 hB_s_10 (by omega)
      have hF_s_17 : FR [20, 21, 22, 23, 24, 25, 26, 27, 28, 29, 30, 31, 32, 33] [0] σ s_17 := by rw [e_s_17]; exact FR.st hF_s_10 (by decide)
      have w_s_17_20 : (s_17.1 20 0).toInt = (s_10.1 20 0).toInt := by rw [e_s_17]; rfl
      have w_s_17_27 : (s_17.1 27 0).toInt = (s_10.1 27 0).toInt := by rw [e_s_17]; rfl
      have w_s_17_32 : (s_17.1 32 0).toInt = v_16.toInt := by rw [e_s_17, sti_s]
      have f_s_17_4 : (s_17.1 4 0).toInt = (σ.1 4 0).toInt := by rw [hF_s_17.1 4 (by decide)]
      have f_s_17_5 : (s_17.1 5 0).toInt = (σ.1 5 0).toInt := by rw [hF_s_17.1 5 (by decide)]
      have hTG_s_17 : TG s_17 := by rw [e_s_17]; exact TG.st1 (by decide) hTG_s_10
      have hBK_s_17 : BKI (mk (σ.1 4 0).toInt.toNat (σ.1 8)) (CUTC (σ.1 4 0).toInt.toNat (σ.1 5 0).toInt.toNat (ri (σ.1 6)) (ri (σ.1 7)) (ri (σ.1 9)) (ri (σ.1 10)) (ri (σ.1 11)) (mk (σ.1 4 0).toInt.toNat (σ.1 8))) (σ.1 4 0).toInt.toNat (ri (s_17.1 21)) (ri (s_17.1 22)) (ri (s_17.1 23)) (s_17.1 20 0).toInt.toNat := by rw [e_s_17]; exact hBK_s_10
      have hOF_s_17 : OF s_17 := by rw [e_s_17]; exact OF.st1 (by decide) hOF_s_10
      have hLV_s_17 : LV s_17 := by rw [e_s_17]; exact LV.st1 (by decide) hLV_s_10
      have hFE_s_17 : FE s_17 := by rw [e_s_17]; exact FE.st1 (by decide) hFE_s_10
      have cx7 := clamp_I (x := x1_7) (by omega)
      obtain ⟨t_17, ht_17, g_17⟩ : ∃ t : Int, (x1_7 + 1).toInt = t ∧ t = x1_7.toInt + (1 : Int32).toInt := ⟨_, rfl, by have h9 := fb_addI (x := x1_7) (y := (1 : Int32)) (by omega) (by omega); exact h9⟩
      refine ok_lt fun x1_18 e_x1_18 => ?_
      have q_x1_18 : x1_18.toInt = t_17 := by rw [e_x1_18]; exact ht_17
      exact ih_a_120 _ x1_18 s_17 (by rw [hn_a_120]; omega) ⟨rfl, (by omega), hB_s_17, hF_s_17, hBK_s_17, hTG_s_17, hOF_s_17, hLV_s_17, hFE_s_17, (by omega), (by omega), (fun b hb => by rw [show s_17.1 28 = s_10.1 28 by rw [e_s_17]; rfl, x_s_10.2.2.1, sti_if]; by_cases q : b = x1_7.toNatClampNeg; (rw [if_pos q]; omega); (rw [if_neg q]; have := hfe b (by omega); omega)), (fun p q hpq hq => by rw [show s_17.1 28 = s_10.1 28 by rw [e_s_17]; rfl, x_s_10.2.2.1, sti_if, sti_if]; by_cases r : q = x1_7.toNatClampNeg; (rw [if_pos r]; by_cases r2 : p = x1_7.toNatClampNeg; (rw [if_pos r2]; exact Int.le_refl _); (rw [if_neg r2]; exact hfe p (by omega))); (rw [if_neg r, if_neg (by omega)]; exact hmo p q hpq (by omega))), (fun b hb => by rw [show s_17.1 24 = s_10.1 24 by rw [e_s_17]; rfl, show s_17.1 25 = s_10.1 25 by rw [e_s_17]; rfl, show s_17.1 20 = s_10.1 20 by rw [e_s_17]; rfl, hn10]; by_cases q : b = x1_7.toNatClampNeg; (rw [q]; exact x_s_10.2.2.2.2); (rw [(x_s_10.2.2.2.1 b q).1, (x_s_10.2.2.2.1 b q).2]; exact hon b (by omega)))⟩
  · rw [fa_le] at c_2
    refine ok_ix ⟨by omega, by omega⟩ ?_
    refine ok_lt fun s_19 e_s_19 => ?_
    have hB_s_19 : BX s_19 := by rw [e_s_19]; exact pX_23 hB_s_4 (by omega)
    have hF_s_19 : FR [20, 21, 22, 23, 24, 25, 26, 27, 28, 29, 30, 31, 32, 33] [0] σ s_19 := by rw [e_s_19]; exact FR.st hF_s_4 (by decide)
    have w_s_19_20 : (s_19.1 20 0).toInt = (s_4.1 20 0).toInt := by rw [e_s_19]; rfl
    have w_s_19_27 : (s_19.1 27 0).toInt = (s_4.1 27 0).toInt := by rw [e_s_19]; rfl
    have w_s_19_32 : (s_19.1 32 0).toInt = (s_4.1 32 0).toInt := by rw [e_s_19]; rfl
    have f_s_19_4 : (s_19.1 4 0).toInt = (σ.1 4 0).toInt := by rw [hF_s_19.1 4 (by decide)]
    have f_s_19_5 : (s_19.1 5 0).toInt = (σ.1 5 0).toInt := by rw [hF_s_19.1 5 (by decide)]
    have hRC_s_19 : ∀ i : Nat, i ≤ 40 → ((s_19.1 33 i).toInt ≠ 0 ↔ CUTC (σ.1 4 0).toInt.toNat (σ.1 5 0).toInt.toNat (ri (σ.1 6)) (ri (σ.1 7)) (ri (σ.1 9)) (ri (σ.1 10)) (ri (σ.1 11)) (mk (σ.1 4 0).toInt.toNat (σ.1 8)) i) := by rw [e_s_19]; exact hRC_s_4
    have hFE_s_19 : FE s_19 := by rw [e_s_19]; exact FE.st1 (by decide) hFE_s_4
    have cx4 := clamp_I (x := x1_4) (by omega)
    refine ok_ix ⟨by omega, by omega⟩ ?_
    have g_18 := gX_8 hB_s_19 (x1_4.toNatClampNeg)
    refine ok_lt fun v_20 e_v_20 => ?_
    have b_v_20 : (-1) ≤ v_20.toInt ∧ v_20.toInt ≤ 6 := by rw [e_v_20]; exact gX_8 hB_s_19 _
    have z20 : (mk (σ.1 4 0).toInt.toNat (σ.1 8)) x1_4.toNatClampNeg = v_20.toInt := by rw [mk_lt (by omega), e_v_20, hF_s_19.1 8 (by decide)]
    have hnb4 : (s_4.1 20 0).toInt.toNat = cbP (mk (σ.1 4 0).toInt.toNat (σ.1 8)) (CUTC (σ.1 4 0).toInt.toNat (σ.1 5 0).toInt.toNat (ri (σ.1 6)) (ri (σ.1 7)) (ri (σ.1 9)) (ri (σ.1 10)) (ri (σ.1 11)) (mk (σ.1 4 0).toInt.toNat (σ.1 8))) x1_4.toNatClampNeg := hbk.1
    have hle20 : (s_4.1 20 0).toInt.toNat ≤ x1_4.toNatClampNeg := by rw [hnb4]; exact fb_ct_le _ _
    have hp4 : 0 < x1_4.toNatClampNeg → 1 ≤ (s_4.1 20 0).toInt.toNat := fun h => by rw [hnb4]; exact cb_pos hd0 h
    have hq4 : x1_4.toNatClampNeg = 0 → (s_4.1 20 0).toInt.toNat = 0 := fun h => by rw [hnb4, h]; rfl
    refine ok_jnI1 (fun (s_21 : Sto) => True ∧ (BX s_21) ∧ (FR [20, 21, 22, 23, 24, 25, 26, 27, 28, 29, 30, 31, 32, 33] [0] σ s_21) ∧ (∀ i : Nat, i ≤ 40 → ((s_21.1 33 i).toInt ≠ 0 ↔ CUTC (σ.1 4 0).toInt.toNat (σ.1 5 0).toInt.toNat (ri (σ.1 6)) (ri (σ.1 7)) (ri (σ.1 9)) (ri (σ.1 10)) (ri (σ.1 11)) (mk (σ.1 4 0).toInt.toNat (σ.1 8)) i)) ∧ (FE s_21) ∧ ((s_21.1 4 0).toInt = (σ.1 4 0).toInt) ∧ (BKI (mk (σ.1 4 0).toInt.toNat (σ.1 8)) (CUTC (σ.1 4 0).toInt.toNat (σ.1 5 0).toInt.toNat (ri (σ.1 6)) (ri (σ.1 7)) (ri (σ.1 9)) (ri (σ.1 10)) (ri (σ.1 11)) (mk (σ.1 4 0).toInt.toNat (σ.1 8))) (x1_4.toNatClampNeg + 1) (ri (s_21.1 21)) (ri (s_21.1 22)) (ri (s_21.1 23)) (s_21.1 20 0).toInt.toNat)) ?_ ?_
    · intro s_21 hJ
      obtain ⟨-, hB_s_21, hF_s_21, hRC_s_21, hFE_s_21, j4, j21⟩ := hJ
      have f_s_21_4 : (s_21.1 4 0).toInt = (σ.1 4 0).toInt := by rw [hF_s_21.1 4 (by decide)]
      have f_s_21_5 : (s_21.1 5 0).toInt = (σ.1 5 0).toInt := by rw [hF_s_21.1 5 (by decide)]
      obtain ⟨t_19, ht_19, g_19⟩ : ∃ t : Int, (x1_4 + 1).toInt = t ∧ t = x1_4.toInt + (1 : Int32).toInt := ⟨_, rfl, by have h9 := fb_addI (x := x1_4) (y := (1 : Int32)) (by omega) (by omega); exact h9⟩
      refine ok_lt fun x1_22 e_x1_22 => ?_
      have q_x1_22 : x1_22.toInt = t_19 := by rw [e_x1_22]; exact ht_19
      exact ih_a_16 _ x1_22 s_21 (by rw [hn_a_16]; omega) ⟨rfl, (by omega), hB_s_21, hF_s_21, hRC_s_21, hFE_s_21, (by omega), (by rw [show x1_22.toNatClampNeg = x1_4.toNatClampNeg + 1 by rw [e_x1_22]; exact c_s (by omega) (by omega)]; exact j21)⟩
    · intro k_107 hk_k_107
      refine ok_ite (fun c_20 => ?_) (fun c_20 => ?_)
      · rw [fa_eq] at c_20
        exact hk_k_107 s_19 ⟨trivial, hB_s_19, hF_s_19, hRC_s_19, hFE_s_19, (by omega), (BKI.st_no hbk (by omega) rfl e_s_19 (by omega))⟩
      · rw [fa_eq] at c_20
        refine ok_jn ?_
        refine ok_jn ?_
        have g_22 := gX_20 hB_s_19 0
        refine ok_ite (fun c_21 => ?_) (fun c_21 => ?_)
        · rw [fa_eq] at c_21
          refine ok_ix ⟨by omega, by omega⟩ ?_
          refine ok_lt fun s_28 e_s_28 => ?_
          have hB_s_28 : BX s_28 := by rw [e_s_28]; exact pX_21 hB_s_19 (by omega)
          have hF_s_28 : FR [20, 21, 22, 23, 24, 25, 26, 27, 28, 29, 30, 31, 32, 33] [0] σ s_28 := by rw [e_s_28]; exact FR.st hF_s_19 (by decide)
          have w_s_28_20 : (s_28.1 20 0).toInt = (s_19.1 20 0).toInt := by rw [e_s_28]; rfl
          have w_s_28_27 : (s_28.1 27 0).toInt = (s_19.1 27 0).toInt := by rw [e_s_28]; rfl
          have w_s_28_32 : (s_28.1 32 0).toInt = (s_19.1 32 0).toInt := by rw [e_s_28]; rfl
          have f_s_28_4 : (s_28.1 4 0).toInt = (σ.1 4 0).toInt := by rw [hF_s_28.1 4 (by decide)]
          have f_s_28_5 : (s_28.1 5 0).toInt = (σ.1 5 0).toInt := by rw [hF_s_28.1 5 (by decide)]
          have hRC_s_28 : ∀ i : Nat, i ≤ 40 → ((s_28.1 33 i).toInt ≠ 0 ↔ CUTC (σ.1 4 0).toInt.toNat (σ.1 5 0).toInt.toNat (ri (σ.1 6)) (ri (σ.1 7)) (ri (σ.1 9)) (ri (σ.1 10)) (ri (σ.1 11)) (mk (σ.1 4 0).toInt.toNat (σ.1 8)) i) := by rw [e_s_28]; exact hRC_s_19
          have hFE_s_28 : FE s_28 := by rw [e_s_28]; exact FE.st1 (by decide) hFE_s_19
          have hct : CUTC (σ.1 4 0).toInt.toNat (σ.1 5 0).toInt.toNat (ri (σ.1 6)) (ri (σ.1 7)) (ri (σ.1 9)) (ri (σ.1 10)) (ri (σ.1 11)) (mk (σ.1 4 0).toInt.toNat (σ.1 8)) x1_4.toNatClampNeg ∨ x1_4.toNatClampNeg = 0 := by first | exact Or.inr (by omega) | exact Or.inl ((hRC_s_19 _ (by omega)).mp (by rw [← e_v_31]; omega))
          have g_23 := gX_20 hB_s_28 0
          obtain ⟨t_24, ht_24, g_24⟩ : ∃ t : Int, ((s_28.1 20 0) + 1).toInt = t ∧ t = (s_28.1 20 0).toInt + (1 : Int32).toInt := ⟨_, rfl, by have h9 := fb_addI (x := (s_28.1 20 0)) (y := (1 : Int32)) (by omega) (by omega); exact h9⟩
          refine ok_lt fun s_29 e_s_29 => ?_
          have hB_s_29 : BX s_29 := by rw [e_s_29]; exact pX_20 hB_s_28 (by rw [ht_24]; omega)
          have hF_s_29 : FR [20, 21, 22, 23, 24, 25, 26, 27, 28, 29, 30, 31, 32, 33] [0] σ s_29 := by rw [e_s_29]; exact FR.st hF_s_28 (by decide)
          have w_s_29_20 : (s_29.1 20 0).toInt = t_24 := by rw [e_s_29, sti_s, ht_24]
          have w_s_29_27 : (s_29.1 27 0).toInt = (s_28.1 27 0).toInt := by rw [e_s_29]; rfl
          have w_s_29_32 : (s_29.1 32 0).toInt = (s_28.1 32 0).toInt := by rw [e_s_29]; rfl
          have f_s_29_4 : (s_29.1 4 0).toInt = (σ.1 4 0).toInt := by rw [hF_s_29.1 4 (by decide)]
          have f_s_29_5 : (s_29.1 5 0).toInt = (σ.1 5 0).toInt := by rw [hF_s_29.1 5 (by decide)]
          have hRC_s_29 : ∀ i : Nat, i ≤ 40 → ((s_29.1 33 i).toInt ≠ 0 ↔ CUTC (σ.1 4 0).toInt.toNat (σ.1 5 0).toInt.toNat (ri (σ.1 6)) (ri (σ.1 7)) (ri (σ.1 9)) (ri (σ.1 10)) (ri (σ.1 11)) (mk (σ.1 4 0).toInt.toNat (σ.1 8)) i) := by rw [e_s_29]; exact hRC_s_28
          have hFE_s_29 : FE s_29 := by rw [e_s_29]; exact FE.st1 (by decide) hFE_s_28
          refine ok_ix ⟨by omega, by omega⟩ ?_
          have g_25 := gX_20 hB_s_29 0
          obtain ⟨t_26, ht_26, g_26⟩ : ∃ t : Int, ((s_29.1 20 0) - 1).toInt = t ∧ t = (s_29.1 20 0).toInt - (1 : Int32).toInt := ⟨_, rfl, by have h9 := fb_subI (x := (s_29.1 20 0)) (y := (1 : Int32)) (by omega) (by omega); exact h9⟩
          refine ok_lt fun s_25 e_s_25 => ?_
          have hB_s_25 : BX s_25 := by rw [e_s_25]; exact pX_23 hB_s_29 (by rw [ht_26]; omega)
          have hF_s_25 : FR [20, 21, 22, 23, 24, 25, 26, 27, 28, 29, 30, 31, 32, 33] [0] σ s_25 := by rw [e_s_25]; exact FR.st hF_s_29 (by decide)
          have w_s_25_20 : (s_25.1 20 0).toInt = (s_29.1 20 0).toInt := by rw [e_s_25]; rfl
          have w_s_25_27 : (s_25.1 27 0).toInt = (s_29.1 27 0).toInt := by rw [e_s_25]; rfl
          have w_s_25_32 : (s_25.1 32 0).toInt = (s_29.1 32 0).toInt := by rw [e_s_25]; rfl
          have f_s_25_4 : (s_25.1 4 0).toInt = (σ.1 4 0).toInt := by rw [hF_s_25.1 4 (by decide)]
          have f_s_25_5 : (s_25.1 5 0).toInt = (σ.1 5 0).toInt := by rw [hF_s_25.1 5 (by decide)]
          have hRC_s_25 : ∀ i : Nat, i ≤ 40 → ((s_25.1 33 i).toInt ≠ 0 ↔ CUTC (σ.1 4 0).toInt.toNat (σ.1 5 0).toInt.toNat (ri (σ.1 6)) (ri (σ.1 7)) (ri (σ.1 9)) (ri (σ.1 10)) (ri (σ.1 11)) (mk (σ.1 4 0).toInt.toNat (σ.1 8)) i) := by rw [e_s_25]; exact hRC_s_29
          have hFE_s_25 : FE s_25 := by rw [e_s_25]; exact FE.st1 (by decide) hFE_s_29
          have g_27 := gX_20 hB_s_25 0
          obtain ⟨t_28, ht_28, g_28⟩ : ∃ t : Int, ((s_25.1 20 0) - 1).toInt = t ∧ t = (s_25.1 20 0).toInt - (1 : Int32).toInt := ⟨_, rfl, by have h9 := fb_subI (x := (s_25.1 20 0)) (y := (1 : Int32)) (by omega) (by omega); exact h9⟩
          refine ok_ix ⟨by rw [ht_28]; omega, by rw [ht_28]; omega⟩ ?_
          refine ok_lt fun s_26 e_s_26 => ?_
          have hB_s_26 : BX s_26 := by rw [e_s_26]; exact pX_22 hB_s_25 (by omega)
          have hF_s_26 : FR [20, 21, 22, 23, 24, 25, 26, 27, 28, 29, 30, 31, 32, 33] [0] σ s_26 := by rw [e_s_26]; exact FR.st hF_s_25 (by decide)
          have w_s_26_20 : (s_26.1 20 0).toInt = (s_25.1 20 0).toInt := by rw [e_s_26]; rfl
          have w_s_26_27 : (s_26.1 27 0).toInt = (s_25.1 27 0).toInt := by rw [e_s_26]; rfl
          have w_s_26_32 : (s_26.1 32 0).toInt = (s_25.1 32 0).toInt := by rw [e_s_26]; rfl
          have f_s_26_4 : (s_26.1 4 0).toInt = (σ.1 4 0).toInt := by rw [hF_s_26.1 4 (by decide)]
          have f_s_26_5 : (s_26.1 5 0).toInt = (σ.1 5 0).toInt := by rw [hF_s_26.1 5 (by decide)]
          have hRC_s_26 : ∀ i : Nat, i ≤ 40 → ((s_26.1 33 i).toInt ≠ 0 ↔ CUTC (σ.1 4 0).toInt.toNat (σ.1 5 0).toInt.toNat (ri (σ.1 6)) (ri (σ.1 7)) (ri (σ.1 9)) (ri (σ.1 10)) (ri (σ.1 11)) (mk (σ.1 4 0).toInt.toNat (σ.1 8)) i) := by rw [e_s_26]; exact hRC_s_25
          have hFE_s_26 : FE s_26 := by rw [e_s_26]; exact FE.st1 (by decide) hFE_s_25
          exact hk_k_107 s_26 ⟨trivial, hB_s_26, hF_s_26, hRC_s_26, hFE_s_26, (by omega), (by first | exact BKI.st_bg hbk (bgP_t.mpr ⟨by omega, hct⟩) rfl (by omega) e_s_19 e_s_28 e_s_29 e_s_25 (by omega) e_s_26 (by omega) (by omega) | exact BKI.st_on hbk (by omega) (bgP_f.mpr (fun z => z.2.elim (fun y => absurd ((hRC_s_19 _ (by omega)).mpr y) (by rw [← e_v_31]; omega)) (fun y => by omega))) rfl (by omega) e_s_19 e_s_25 (by omega) e_s_26 (by omega) (by omega))⟩
        · rw [fa_eq] at c_21
          refine ok_ix ⟨by omega, by omega⟩ ?_
          have g_29 := gX_33 hB_s_19 (x1_4.toNatClampNeg)
          refine ok_lt fun v_31 e_v_31 => ?_
          have b_v_31 : 0 ≤ v_31.toInt ∧ v_31.toInt ≤ 1 := by rw [e_v_31]; exact gX_33 hB_s_19 _
          refine ok_ite (fun c_30 => ?_) (fun c_30 => ?_)
          · rw [fa_eq] at c_30
            refine ok_ix ⟨by omega, by omega⟩ ?_
            obtain ⟨t_31, ht_31, g_31⟩ : ∃ t : Int, ((s_19.1 20 0) - 1).toInt = t ∧ t = (s_19.1 20 0).toInt - (1 : Int32).toInt := ⟨_, rfl, by have h9 := fb_subI (x := (s_19.1 20 0)) (y := (1 : Int32)) (by omega) (by omega); exact h9⟩
            refine ok_lt fun s_25 e_s_25 => ?_
            have hB_s_25 : BX s_25 := by rw [e_s_25]; exact pX_23 hB_s_19 (by rw [ht_31]; omega)
            have hF_s_25 : FR [20, 21, 22, 23, 24, 25, 26, 27, 28, 29, 30, 31, 32, 33] [0] σ s_25 := by rw [e_s_25]; exact FR.st hF_s_19 (by decide)
            have w_s_25_20 : (s_25.1 20 0).toInt = (s_19.1 20 0).toInt := by rw [e_s_25]; rfl
            have w_s_25_27 : (s_25.1 27 0).toInt = (s_19.1 27 0).toInt := by rw [e_s_25]; rfl
            have w_s_25_32 : (s_25.1 32 0).toInt = (s_19.1 32 0).toInt := by rw [e_s_25]; rfl
            have f_s_25_4 : (s_25.1 4 0).toInt = (σ.1 4 0).toInt := by rw [hF_s_25.1 4 (by decide)]
            have f_s_25_5 : (s_25.1 5 0).toInt = (σ.1 5 0).toInt := by rw [hF_s_25.1 5 (by decide)]
            have hRC_s_25 : ∀ i : Nat, i ≤ 40 → ((s_25.1 33 i).toInt ≠ 0 ↔ CUTC (σ.1 4 0).toInt.toNat (σ.1 5 0).toInt.toNat (ri (σ.1 6)) (ri (σ.1 7)) (ri (σ.1 9)) (ri (σ.1 10)) (ri (σ.1 11)) (mk (σ.1 4 0).toInt.toNat (σ.1 8)) i) := by rw [e_s_25]; exact hRC_s_19
            have hFE_s_25 : FE s_25 := by rw [e_s_25]; exact FE.st1 (by decide) hFE_s_19
            have g_32 := gX_20 hB_s_25 0
            obtain ⟨t_33, ht_33, g_33⟩ : ∃ t : Int, ((s_25.1 20 0) - 1).toInt = t ∧ t = (s_25.1 20 0).toInt - (1 : Int32).toInt := ⟨_, rfl, by have h9 := fb_subI (x := (s_25.1 20 0)) (y := (1 : Int32)) (by omega) (by omega); exact h9⟩
            refine ok_ix ⟨by rw [ht_33]; omega, by rw [ht_33]; omega⟩ ?_
            refine ok_lt fun s_26 e_s_26 => ?_
            have hB_s_26 : BX s_26 := by rw [e_s_26]; exact pX_22 hB_s_25 (by omega)
            have hF_s_26 : FR [20, 21, 22, 23, 24, 25, 26, 27, 28, 29, 30, 31, 32, 33] [0] σ s_26 := by rw [e_s_26]; exact FR.st hF_s_25 (by decide)
            have w_s_26_20 : (s_26.1 20 0).toInt = (s_25.1 20 0).toInt := by rw [e_s_26]; rfl
            have w_s_26_27 : (s_26.1 27 0).toInt = (s_25.1 27 0).toInt := by rw [e_s_26]; rfl
            have w_s_26_32 : (s_26.1 32 0).toInt = (s_25.1 32 0).toInt := by rw [e_s_26]; rfl
            have f_s_26_4 : (s_26.1 4 0).toInt = (σ.1 4 0).toInt := by rw [hF_s_26.1 4 (by decide)]
            have f_s_26_5 : (s_26.1 5 0).toInt = (σ.1 5 0).toInt := by rw [hF_s_26.1 5 (by decide)]
            have hRC_s_26 : ∀ i : Nat, i ≤ 40 → ((s_26.1 33 i).toInt ≠ 0 ↔ CUTC (σ.1 4 0).toInt.toNat (σ.1 5 0).toInt.toNat (ri (σ.1 6)) (ri (σ.1 7)) (ri (σ.1 9)) (ri (σ.1 10)) (ri (σ.1 11)) (mk (σ.1 4 0).toInt.toNat (σ.1 8)) i) := by rw [e_s_26]; exact hRC_s_25
            have hFE_s_26 : FE s_26 := by rw [e_s_26]; exact FE.st1 (by decide) hFE_s_25
            exact hk_k_107 s_26 ⟨trivial, hB_s_26, hF_s_26, hRC_s_26, hFE_s_26, (by omega), (by first | exact BKI.st_bg hbk (bgP_t.mpr ⟨by omega, hct⟩) rfl (by omega) e_s_19 e_s_28 e_s_29 e_s_25 (by omega) e_s_26 (by omega) (by omega) | exact BKI.st_on hbk (by omega) (bgP_f.mpr (fun z => z.2.elim (fun y => absurd ((hRC_s_19 _ (by omega)).mpr y) (by rw [← e_v_31]; omega)) (fun y => by omega))) rfl (by omega) e_s_19 e_s_25 (by omega) e_s_26 (by omega) (by omega))⟩
          · rw [fa_eq] at c_30
            refine ok_ix ⟨by omega, by omega⟩ ?_
            refine ok_lt fun s_28 e_s_28 => ?_
            have hB_s_28 : BX s_28 := by rw [e_s_28]; exact pX_21 hB_s_19 (by omega)
            have hF_s_28 : FR [20, 21, 22, 23, 24, 25, 26, 27, 28, 29, 30, 31, 32, 33] [0] σ s_28 := by rw [e_s_28]; exact FR.st hF_s_19 (by decide)
            have w_s_28_20 : (s_28.1 20 0).toInt = (s_19.1 20 0).toInt := by rw [e_s_28]; rfl
            have w_s_28_27 : (s_28.1 27 0).toInt = (s_19.1 27 0).toInt := by rw [e_s_28]; rfl
            have w_s_28_32 : (s_28.1 32 0).toInt = (s_19.1 32 0).toInt := by rw [e_s_28]; rfl
            have f_s_28_4 : (s_28.1 4 0).toInt = (σ.1 4 0).toInt := by rw [hF_s_28.1 4 (by decide)]
            have f_s_28_5 : (s_28.1 5 0).toInt = (σ.1 5 0).toInt := by rw [hF_s_28.1 5 (by decide)]
            have hRC_s_28 : ∀ i : Nat, i ≤ 40 → ((s_28.1 33 i).toInt ≠ 0 ↔ CUTC (σ.1 4 0).toInt.toNat (σ.1 5 0).toInt.toNat (ri (σ.1 6)) (ri (σ.1 7)) (ri (σ.1 9)) (ri (σ.1 10)) (ri (σ.1 11)) (mk (σ.1 4 0).toInt.toNat (σ.1 8)) i) := by rw [e_s_28]; exact hRC_s_19
            have hFE_s_28 : FE s_28 := by rw [e_s_28]; exact FE.st1 (by decide) hFE_s_19
            have hct : CUTC (σ.1 4 0).toInt.toNat (σ.1 5 0).toInt.toNat (ri (σ.1 6)) (ri (σ.1 7)) (ri (σ.1 9)) (ri (σ.1 10)) (ri (σ.1 11)) (mk (σ.1 4 0).toInt.toNat (σ.1 8)) x1_4.toNatClampNeg ∨ x1_4.toNatClampNeg = 0 := by first | exact Or.inr (by omega) | exact Or.inl ((hRC_s_19 _ (by omega)).mp (by rw [← e_v_31]; omega))
            have g_34 := gX_20 hB_s_28 0
            obtain ⟨t_35, ht_35, g_35⟩ : ∃ t : Int, ((s_28.1 20 0) + 1).toInt = t ∧ t = (s_28.1 20 0).toInt + (1 : Int32).toInt := ⟨_, rfl, by have h9 := fb_addI (x := (s_28.1 20 0)) (y := (1 : Int32)) (by omega) (by omega); exact h9⟩
            refine ok_lt fun s_29 e_s_29 => ?_
            have hB_s_29 : BX s_29 := by rw [e_s_29]; exact pX_20 hB_s_28 (by rw [ht_35]; omega)
            have hF_s_29 : FR [20, 21, 22, 23, 24, 25, 26, 27, 28, 29, 30, 31, 32, 33] [0] σ s_29 := by rw [e_s_29]; exact FR.st hF_s_28 (by decide)
            have w_s_29_20 : (s_29.1 20 0).toInt = t_35 := by rw [e_s_29, sti_s, ht_35]
            have w_s_29_27 : (s_29.1 27 0).toInt = (s_28.1 27 0).toInt := by rw [e_s_29]; rfl
            have w_s_29_32 : (s_29.1 32 0).toInt = (s_28.1 32 0).toInt := by rw [e_s_29]; rfl
            have f_s_29_4 : (s_29.1 4 0).toInt = (σ.1 4 0).toInt := by rw [hF_s_29.1 4 (by decide)]
            have f_s_29_5 : (s_29.1 5 0).toInt = (σ.1 5 0).toInt := by rw [hF_s_29.1 5 (by decide)]
            have hRC_s_29 : ∀ i : Nat, i ≤ 40 → ((s_29.1 33 i).toInt ≠ 0 ↔ CUTC (σ.1 4 0).toInt.toNat (σ.1 5 0).toInt.toNat (ri (σ.1 6)) (ri (σ.1 7)) (ri (σ.1 9)) (ri (σ.1 10)) (ri (σ.1 11)) (mk (σ.1 4 0).toInt.toNat (σ.1 8)) i) := by rw [e_s_29]; exact hRC_s_28
            have hFE_s_29 : FE s_29 := by rw [e_s_29]; exact FE.st1 (by decide) hFE_s_28
            refine ok_ix ⟨by omega, by omega⟩ ?_
            have g_36 := gX_20 hB_s_29 0
            obtain ⟨t_37, ht_37, g_37⟩ : ∃ t : Int, ((s_29.1 20 0) - 1).toInt = t ∧ t = (s_29.1 20 0).toInt - (1 : Int32).toInt := ⟨_, rfl, by have h9 := fb_subI (x := (s_29.1 20 0)) (y := (1 : Int32)) (by omega) (by omega); exact h9⟩
            refine ok_lt fun s_25 e_s_25 => ?_
            have hB_s_25 : BX s_25 := by rw [e_s_25]; exact pX_23 hB_s_29 (by rw [ht_37]; omega)
            have hF_s_25 : FR [20, 21, 22, 23, 24, 25, 26, 27, 28, 29, 30, 31, 32, 33] [0] σ s_25 := by rw [e_s_25]; exact FR.st hF_s_29 (by decide)
            have w_s_25_20 : (s_25.1 20 0).toInt = (s_29.1 20 0).toInt := by rw [e_s_25]; rfl
            have w_s_25_27 : (s_25.1 27 0).toInt = (s_29.1 27 0).toInt := by rw [e_s_25]; rfl
            have w_s_25_32 : (s_25.1 32 0).toInt = (s_29.1 32 0).toInt := by rw [e_s_25]; rfl
            have f_s_25_4 : (s_25.1 4 0).toInt = (σ.1 4 0).toInt := by rw [hF_s_25.1 4 (by decide)]
            have f_s_25_5 : (s_25.1 5 0).toInt = (σ.1 5 0).toInt := by rw [hF_s_25.1 5 (by decide)]
            have hRC_s_25 : ∀ i : Nat, i ≤ 40 → ((s_25.1 33 i).toInt ≠ 0 ↔ CUTC (σ.1 4 0).toInt.toNat (σ.1 5 0).toInt.toNat (ri (σ.1 6)) (ri (σ.1 7)) (ri (σ.1 9)) (ri (σ.1 10)) (ri (σ.1 11)) (mk (σ.1 4 0).toInt.toNat (σ.1 8)) i) := by rw [e_s_25]; exact hRC_s_29
            have hFE_s_25 : FE s_25 := by rw [e_s_25]; exact FE.st1 (by decide) hFE_s_29
            have g_38 := gX_20 hB_s_25 0
            obtain ⟨t_39, ht_39, g_39⟩ : ∃ t : Int, ((s_25.1 20 0) - 1).toInt = t ∧ t = (s_25.1 20 0).toInt - (1 : Int32).toInt := ⟨_, rfl, by have h9 := fb_subI (x := (s_25.1 20 0)) (y := (1 : Int32)) (by omega) (by omega); exact h9⟩
            refine ok_ix ⟨by rw [ht_39]; omega, by rw [ht_39]; omega⟩ ?_
            refine ok_lt fun s_26 e_s_26 => ?_
            have hB_s_26 : BX s_26 := by rw [e_s_26]; exact pX_22 hB_s_25 (by omega)
            have hF_s_26 : FR [20, 21, 22, 23, 24, 25, 26, 27, 28, 29, 30, 31, 32, 33] [0] σ s_26 := by rw [e_s_26]; exact FR.st hF_s_25 (by decide)
            have w_s_26_20 : (s_26.1 20 0).toInt = (s_25.1 20 0).toInt := by rw [e_s_26]; rfl
            have w_s_26_27 : (s_26.1 27 0).toInt = (s_25.1 27 0).toInt := by rw [e_s_26]; rfl
            have w_s_26_32 : (s_26.1 32 0).toInt = (s_25.1 32 0).toInt := by rw [e_s_26]; rfl
            have f_s_26_4 : (s_26.1 4 0).toInt = (σ.1 4 0).toInt := by rw [hF_s_26.1 4 (by decide)]
            have f_s_26_5 : (s_26.1 5 0).toInt = (σ.1 5 0).toInt := by rw [hF_s_26.1 5 (by decide)]
            have hRC_s_26 : ∀ i : Nat, i ≤ 40 → ((s_26.1 33 i).toInt ≠ 0 ↔ CUTC (σ.1 4 0).toInt.toNat (σ.1 5 0).toInt.toNat (ri (σ.1 6)) (ri (σ.1 7)) (ri (σ.1 9)) (ri (σ.1 10)) (ri (σ.1 11)) (mk (σ.1 4 0).toInt.toNat (σ.1 8)) i) := by rw [e_s_26]; exact hRC_s_25
            have hFE_s_26 : FE s_26 := by rw [e_s_26]; exact FE.st1 (by decide) hFE_s_25
            exact hk_k_107 s_26 ⟨trivial, hB_s_26, hF_s_26, hRC_s_26, hFE_s_26, (by omega), (by first | exact BKI.st_bg hbk (bgP_t.mpr ⟨by omega, hct⟩) rfl (by omega) e_s_19 e_s_28 e_s_29 e_s_25 (by omega) e_s_26 (by omega) (by omega) | exact BKI.st_on hbk (by omega) (bgP_f.mpr (fun z => z.2.elim (fun y => absurd ((hRC_s_19 _ (by omega)).mpr y) (by rw [← e_v_31]; omega)) (fun y => by omega))) rfl (by omega) e_s_19 e_s_25 (by omega) e_s_26 (by omega) (by omega))⟩

set_option maxHeartbeats 4000000 in
theorem s_X8_allAreComeTo {σ : Sto} (hB : BX σ) (hEB : EB σ) : OK (f_X8_allAreComeTo σ) (fun r => (0 ≤ r.1.toInt ∧ r.1.toInt ≤ 1) ∧ BX r.2 ∧ FR [39, 40, 42, 43] [] σ r.2) := by
  unfold f_X8_allAreComeTo
  have hF : FR [39, 40, 42, 43] [] σ σ := FR.rf
  have k_m1 : ((-1) : Int32).toInt = -1 := by decide +kernel
  have k_0 : (0 : Int32).toInt = 0 := by decide +kernel
  have k_1 : (1 : Int32).toInt = 1 := by decide +kernel
  have k_1000000 : (1000000 : Int32).toInt = 1000000 := by decide +kernel
  have he1 := hEB.1
  have g20 := gX_20 hB 0
  have g27 := gX_27 hB 0
  refine ok_ix ⟨by omega, by omega⟩ ?_
  refine ok_lt fun s_1 e_s_1 => ?_
  have hB_s_1 : BX s_1 := by rw [e_s_1]; exact pX_42 hB (by omega)
  have hF_s_1 : FR [39, 40, 42, 43] [] σ s_1 := by rw [e_s_1]; exact FR.st hF (by decide)
  have f_s_1_20 : (s_1.1 20 0).toInt = (σ.1 20 0).toInt := by rw [hF_s_1.1 20 (by decide)]
  have f_s_1_27 : (s_1.1 27 0).toInt = (σ.1 27 0).toInt := by rw [hF_s_1.1 27 (by decide)]
  have hEB_s_1 : EB s_1 := by rw [e_s_1]; exact EB.st1 (by decide) hEB
  refine ok_ix ⟨by omega, by omega⟩ ?_
  have g_1 := gX_28 hB_s_1 ((0 : Int32).toNatClampNeg)
  refine ok_lt fun v_2 e_v_2 => ?_
  have b_v_2 : 0 ≤ v_2.toInt ∧ v_2.toInt ≤ 120 := by rw [e_v_2]; exact gX_28 hB_s_1 _
  refine ok_ix ⟨by omega, by omega⟩ ?_
  refine ok_lt fun s_3 e_s_3 => ?_
  have hB_s_3 : BX s_3 := by rw [e_s_3]; exact pX_43 hB_s_1 (by omega)
  have hF_s_3 : FR [39, 40, 42, 43] [] σ s_3 := by rw [e_s_3]; exact FR.st hF_s_1 (by decide)
  have f_s_3_20 : (s_3.1 20 0).toInt = (σ.1 20 0).toInt := by rw [hF_s_3.1 20 (by decide)]
  have f_s_3_27 : (s_3.1 27 0).toInt = (σ.1 27 0).toInt := by rw [hF_s_3.1 27 (by decide)]
  have hEB_s_3 : EB s_3 := by rw [e_s_3]; exact EB.st1 (by decide) hEB_s_1
  have op3 : OPN (σ.1 28) (s_3.1 42) (s_3.1 43) (σ.1 20 0).toInt 1 := fun k hk => by have ek : k = 0 := (by omega); subst ek; have z0 : (0 : Int32).toNatClampNeg = 0 := rfl; have a : s_3.1 42 = s_1.1 42 := (by rw [e_s_3]; rfl); have v2 : v_2 = σ.1 28 0 := (by rw [e_v_2, e_s_1, z0]; rfl); rw [a, e_s_1, e_s_3, sti_if, sti_if, z0, if_pos rfl, if_pos rfl, v2, z0]; exact ⟨by rw [k_0]; omega, Int.le_refl _, hEB.2.1 0 1 (by omega) (by omega)⟩
  refine ok_itr5 (fun (n : Nat) (x1_4 : Int64) (x3_4 : Int32) (x4_4 : Int32) (x5_4 : Int32) (s_4 : Sto) => n = (1000001 - x5_4.toInt).toNat ∧ (0 ≤ x3_4.toInt ∧ x3_4.toInt ≤ 40) ∧ (0 ≤ x4_4.toInt ∧ x4_4.toInt ≤ 40) ∧ (0 ≤ x5_4.toInt ∧ x5_4.toInt ≤ 1000000) ∧ (BX s_4) ∧ (FR [39, 40, 42, 43] [] σ s_4) ∧ (EB s_4) ∧ ((fb_ct (bL x1_4) (σ.1 20 0).toInt.toNat : Int) = x3_4.toInt + x4_4.toInt) ∧ (OPN (σ.1 28) (s_4.1 42) (s_4.1 43) (σ.1 20 0).toInt x4_4.toInt)) ?_ (n := _) ⟨rfl, (by omega), (by omega), (by omega), hB_s_3, hF_s_3, hEB_s_3, (by rw [ct_one (n := (σ.1 20 0).toInt.toNat) (by have := hEB.1; omega)]; omega), (by rw [show (1 : Int32).toInt = 1 from k_1]; exact op3)⟩ (show _ < 10000000 by omega)
  intro a_32 n x1_4 x3_4 x4_4 x5_4 s_4 hI ih_a_32
  obtain ⟨hn_a_32, b_x3_4, b_x4_4, b_x5_4, hB_s_4, hF_s_4, hEB_s_4, hct, hop⟩ := hI
  have f_s_4_20 : (s_4.1 20 0).toInt = (σ.1 20 0).toInt := by rw [hF_s_4.1 20 (by decide)]
  have f_s_4_27 : (s_4.1 27 0).toInt = (σ.1 27 0).toInt := by rw [hF_s_4.1 27 (by decide)]
  have lct := fb_ct_le (bL x1_4) (σ.1 20 0).toInt.toNat
  refine ok_jn ?_
  refine ok_ite (fun c_2 => ?_) (fun c_2 => ?_)
  · rw [fa_le] at c_2
    have g_4 := gX_20 hB_s_4 0
    have g_5 : (s_4.1 20 0).toInt = (σ.1 20 0).toInt := by rw [hF_s_4.1 20 (by decide)]
    have g_6 := gX_20 hB 0
    refine ok_ite (fun c_3 => ?_) (fun c_3 => ?_)
    · rw [fa_eq] at c_3
      exact ok_ret ⟨(by (try dsimp only); omega), hB_s_4, hF_s_4⟩
    · rw [fa_eq] at c_3
      exact ok_ret ⟨(by (try dsimp only); omega), hB_s_4, hF_s_4⟩
  · rw [fa_le] at c_2
    refine ok_ite (fun c_7 => ?_) (fun c_7 => ?_)
    · rw [fa_le] at c_7
      have g_9 := gX_20 hB_s_4 0
      have g_10 : (s_4.1 20 0).toInt = (σ.1 20 0).toInt := by rw [hF_s_4.1 20 (by decide)]
      have g_11 := gX_20 hB 0
      refine ok_ite (fun c_8 => ?_) (fun c_8 => ?_)
      · rw [fa_eq] at c_8
        exact ok_ret ⟨(by (try dsimp only); omega), hB_s_4, hF_s_4⟩
      · rw [fa_eq] at c_8
        exact ok_ret ⟨(by (try dsimp only); omega), hB_s_4, hF_s_4⟩
    · rw [fa_le] at c_7
      obtain ⟨t_12, ht_12, g_12⟩ : ∃ t : Int, (x4_4 - 1).toInt = t ∧ t = x4_4.toInt - (1 : Int32).toInt := ⟨_, rfl, by have h9 := fb_subI (x := x4_4) (y := (1 : Int32)) (by omega) (by omega); exact h9⟩
      refine ok_ix ⟨by rw [ht_12]; omega, by rw [ht_12]; omega⟩ ?_
      have g_13 := gX_42 hB_s_4 ((x4_4 - 1).toNatClampNeg)
      refine ok_lt fun v_9 e_v_9 => ?_
      have b_v_9 : 0 ≤ v_9.toInt ∧ v_9.toInt ≤ 39 := by rw [e_v_9]; exact gX_42 hB_s_4 _
      have cx4 : (x4_4 - 1).toNatClampNeg + 1 = x4_4.toNatClampNeg ∧ ((x4_4 - 1).toNatClampNeg : Int) < x4_4.toInt := by have h1 := clamp_I (x := x4_4) (by omega); have h2 := clamp_I (x := (x4_4 - 1)) (by omega); omega
      have o9 := hop (x4_4 - 1).toNatClampNeg cx4.2
      rw [← e_v_9] at o9
      have c9 := clamp_I (x := v_9) (by omega)
      refine ok_ix ⟨by rw [ht_12]; omega, by rw [ht_12]; omega⟩ ?_
      have g_14 := gX_43 hB_s_4 ((x4_4 - 1).toNatClampNeg)
      refine ok_lt fun v_10 e_v_10 => ?_
      have b_v_10 : 0 ≤ v_10.toInt ∧ v_10.toInt ≤ 120 := by rw [e_v_10]; exact gX_43 hB_s_4 _
      rw [← e_v_10] at o9
      obtain ⟨t_15, ht_15, g_15⟩ : ∃ t : Int, (v_9 + 1).toInt = t ∧ t = v_9.toInt + (1 : Int32).toInt := ⟨_, rfl, by have h9 := fb_addI (x := v_9) (y := (1 : Int32)) (by omega) (by omega); exact h9⟩
      refine ok_ix ⟨by rw [ht_15]; omega, by rw [ht_15]; omega⟩ ?_
      have g_16 := gX_28 hB_s_4 ((v_9 + 1).toNatClampNeg)
      refine ok_lt fun v_11 e_v_11 => ?_
      have b_v_11 : 0 ≤ v_11.toInt ∧ v_11.toInt ≤ 120 := by rw [e_v_11]; exact gX_28 hB_s_4 _
      have z11 : v_11.toInt = (σ.1 28 (v_9.toNatClampNeg + 1)).toInt := by rw [e_v_11, hF_s_4.1 28 (by decide), c_s (by omega) (by omega)]
      have m11 := hEB.2.1 (v_9.toNatClampNeg + 1) (σ.1 20 0).toInt.toNat (by omega) (by omega)
      have t11 := hEB.2.2.1 (σ.1 20 0).toInt.toNat (by omega)
      refine ok_jnI4 (fun (x1_12 : Int64) (x3_12 : Int32) (x4_12 : Int32) (s_12 : Sto) => True ∧ (0 ≤ x3_12.toInt ∧ x3_12.toInt ≤ 40) ∧ (0 ≤ x4_12.toInt ∧ x4_12.toInt ≤ 40) ∧ (BX s_12) ∧ (FR [39, 40, 42, 43] [] σ s_12) ∧ (EB s_12) ∧ ((fb_ct (bL x1_12) (σ.1 20 0).toInt.toNat : Int) = x3_12.toInt + x4_12.toInt) ∧ (OPN (σ.1 28) (s_12.1 42) (s_12.1 43) (σ.1 20 0).toInt x4_12.toInt)) ?_ ?_
      · intro x1_12 x3_12 x4_12 s_12 hJ
        obtain ⟨-, b_x3_12, b_x4_12, hB_s_12, hF_s_12, hEB_s_12, jct, j12⟩ := hJ
        have f_s_12_20 : (s_12.1 20 0).toInt = (σ.1 20 0).toInt := by rw [hF_s_12.1 20 (by decide)]
        have f_s_12_27 : (s_12.1 27 0).toInt = (σ.1 27 0).toInt := by rw [hF_s_12.1 27 (by decide)]
        obtain ⟨t_17, ht_17, g_17⟩ : ∃ t : Int, (x5_4 + 1).toInt = t ∧ t = x5_4.toInt + (1 : Int32).toInt := ⟨_, rfl, by have h9 := fb_addI (x := x5_4) (y := (1 : Int32)) (by omega) (by omega); exact h9⟩
        refine ok_lt fun x5_13 e_x5_13 => ?_
        have q_x5_13 : x5_13.toInt = t_17 := by rw [e_x5_13]; exact ht_17
        exact ih_a_32 _ x1_12 x3_12 x4_12 x5_13 s_12 (by rw [hn_a_32]; omega) ⟨rfl, (by omega), (by omega), (by omega), hB_s_12, hF_s_12, hEB_s_12, (by omega), j12⟩
      · intro k_204 hk_k_204
        refine ok_ite (fun c_18 => ?_) (fun c_18 => ?_)
        · rw [fa_eq] at c_18
          obtain ⟨t_19, ht_19, g_19⟩ : ∃ t : Int, (x4_4 + (-1)).toInt = t ∧ t = x4_4.toInt + ((-1) : Int32).toInt := ⟨_, rfl, by have h9 := fb_addI (x := x4_4) (y := ((-1) : Int32)) (by omega) (by omega); exact h9⟩
          refine ok_lt fun x4_15 e_x4_15 => ?_
          have q_x4_15 : x4_15.toInt = t_19 := by rw [e_x4_15]; exact ht_19
          obtain ⟨t_20, ht_20, g_20⟩ : ∃ t : Int, (x3_4 + 1).toInt = t ∧ t = x3_4.toInt + (1 : Int32).toInt := ⟨_, rfl, by have h9 := fb_addI (x := x3_4) (y := (1 : Int32)) (by omega) (by omega); exact h9⟩
          refine ok_lt fun x3_16 e_x3_16 => ?_
          have q_x3_16 : x3_16.toInt = t_20 := by rw [e_x3_16]; exact ht_20
          have g_21 := gX_20 hB_s_4 0
          have g_22 : (s_4.1 20 0).toInt = (σ.1 20 0).toInt := by rw [hF_s_4.1 20 (by decide)]
          have g_23 := gX_20 hB 0
          obtain ⟨t_24, ht_24, g_24⟩ : ∃ t : Int, ((s_4.1 20 0) - x3_16).toInt = t ∧ t = (s_4.1 20 0).toInt - x3_16.toInt := ⟨_, rfl, by have h9 := fb_subI (x := (s_4.1 20 0)) (y := x3_16) (by omega) (by omega); exact h9⟩
          refine ok_ix ⟨by rw [ht_24]; omega, by rw [ht_24]; omega⟩ ?_
          refine ok_lt fun s_17 e_s_17 => ?_
          have hB_s_17 : BX s_17 := by rw [e_s_17]; exact pX_39 hB_s_4 (by omega)
          have hF_s_17 : FR [39, 40, 42, 43] [] σ s_17 := by rw [e_s_17]; exact FR.st hF_s_4 (by decide)
          have f_s_17_20 : (s_17.1 20 0).toInt = (σ.1 20 0).toInt := by rw [hF_s_17.1 20 (by decide)]
          have f_s_17_27 : (s_17.1 27 0).toInt = (σ.1 27 0).toInt := by rw [hF_s_17.1 27 (by decide)]
          have hEB_s_17 : EB s_17 := by rw [e_s_17]; exact EB.st1 (by decide) hEB_s_4
          refine ok_ix ⟨by omega, by omega⟩ ?_
          have g_25 := gX_20 hB_s_17 0
          have g_26 : (s_17.1 20 0).toInt = (σ.1 20 0).toInt := by rw [hF_s_17.1 20 (by decide)]
          obtain ⟨t_27, ht_27, g_27⟩ : ∃ t : Int, ((s_17.1 20 0) - x3_16).toInt = t ∧ t = (s_17.1 20 0).toInt - x3_16.toInt := ⟨_, rfl, by have h9 := fb_subI (x := (s_17.1 20 0)) (y := x3_16) (by omega) (by omega); exact h9⟩
          refine ok_lt fun s_18 e_s_18 => ?_
          have hB_s_18 : BX s_18 := by rw [e_s_18]; exact pX_40 hB_s_17 (by rw [ht_27]; omega)
          have hF_s_18 : FR [39, 40, 42, 43] [] σ s_18 := by rw [e_s_18]; exact FR.st hF_s_17 (by decide)
          have f_s_18_20 : (s_18.1 20 0).toInt = (σ.1 20 0).toInt := by rw [hF_s_18.1 20 (by decide)]
          have f_s_18_27 : (s_18.1 27 0).toInt = (σ.1 27 0).toInt := by rw [hF_s_18.1 27 (by decide)]
          have hEB_s_18 : EB s_18 := by rw [e_s_18]; exact EB.st1 (by decide) hEB_s_17
          exact hk_k_204 x1_4 x3_16 x4_15 s_18 ⟨trivial, (by omega), (by omega), hB_s_18, hF_s_18, hEB_s_18, (by omega), (by rw [show s_18.1 42 = s_4.1 42 by rw [e_s_18, e_s_17]; rfl, show s_18.1 43 = s_4.1 43 by rw [e_s_18, e_s_17]; rfl]; exact fun k hk => hop k (by omega))⟩
        · rw [fa_eq] at c_18
          refine ok_lt fun v_19 e_v_19 => ?_
          have q_v_19 : v_19.toInt = t_12 := by rw [e_v_19]; exact ht_12
          have z19 : v_19.toInt = x4_4.toInt - 1 := by omega
          have n19 : v_19.toNatClampNeg = (x4_4 - 1).toNatClampNeg := by rw [e_v_19]
          refine ok_ix ⟨by omega, by omega⟩ ?_
          have g_28 := gX_43 hB_s_4 (v_19.toNatClampNeg)
          refine ok_lt fun v_20 e_v_20 => ?_
          have b_v_20 : 0 ≤ v_20.toInt ∧ v_20.toInt ≤ 120 := by rw [e_v_20]; exact gX_43 hB_s_4 _
          have z20 : v_20 = v_10 := by rw [e_v_20, e_v_10, n19]
          have z20i : v_20.toInt = v_10.toInt := by rw [z20]
          refine ok_ix ⟨by omega, by omega⟩ ?_
          obtain ⟨t_29, ht_29, g_29⟩ : ∃ t : Int, (v_20 + 1).toInt = t ∧ t = v_20.toInt + (1 : Int32).toInt := ⟨_, rfl, by have h9 := fb_addI (x := v_20) (y := (1 : Int32)) (by omega) (by omega); exact h9⟩
          refine ok_lt fun s_21 e_s_21 => ?_
          have hB_s_21 : BX s_21 := by rw [e_s_21]; exact pX_43 hB_s_4 (by rw [ht_29]; omega)
          have hF_s_21 : FR [39, 40, 42, 43] [] σ s_21 := by rw [e_s_21]; exact FR.st hF_s_4 (by decide)
          have f_s_21_20 : (s_21.1 20 0).toInt = (σ.1 20 0).toInt := by rw [hF_s_21.1 20 (by decide)]
          have f_s_21_27 : (s_21.1 27 0).toInt = (σ.1 27 0).toInt := by rw [hF_s_21.1 27 (by decide)]
          have hEB_s_21 : EB s_21 := by rw [e_s_21]; exact EB.st1 (by decide) hEB_s_4
          have op21 : OPN (σ.1 28) (s_21.1 42) (s_21.1 43) (σ.1 20 0).toInt x4_4.toInt := by have q := OPN.inc (r28 := σ.1 28) (r42 := s_4.1 42) hop e_s_21 (by omega) (by rw [e_v_20]) (by omega) (by rw [n19, ← e_v_10, ← e_v_9]; omega); rw [show s_21.1 42 = s_4.1 42 by rw [e_s_21]; rfl]; exact q
          refine ok_ix ⟨by omega, by omega⟩ ?_
          have g_30 := gX_30 hB_s_21 (v_10.toNatClampNeg)
          refine ok_lt fun v_22 e_v_22 => ?_
          have b_v_22 : 0 ≤ v_22.toInt ∧ v_22.toInt ≤ 39 := by rw [e_v_22]; exact gX_30 hB_s_21 _
          have y22 : v_22.toInt < (σ.1 20 0).toInt := by have q := hEB.2.2.2 v_10.toNatClampNeg (by have := clamp_I (x := v_10) (by omega); omega); rw [e_v_22, hF_s_21.1 30 (by decide)]; exact q
          have c22 := clamp_I (x := v_22) (by omega)
          refine ok_ix ⟨by omega, by omega⟩ ?_
          have g_31 := gX_37 hB_s_21 (v_10.toNatClampNeg)
          refine ok_lt fun v_23 e_v_23 => ?_
          have b_v_23 : 0 ≤ v_23.toInt ∧ v_23.toInt ≤ 1 := by rw [e_v_23]; exact gX_37 hB_s_21 _
          refine ok_ite (fun c_32 => ?_) (fun c_32 => ?_)
          · rw [fa_eq] at c_32
            refine ok_calp (s_X11_isIn (x1 := x1_4) (x2 := v_22) ) (fun v_25 h_33 => ?_)
            obtain ⟨b_v_25, x_v_25⟩ := h_33
            (try dsimp only at b_v_25 x_v_25)
            have x25 := x_v_25 (by omega) (by omega)
            refine ok_ite (fun c_34 => ?_) (fun c_34 => ?_)
            · rw [fa_eq] at c_34
              refine ok_lt fun x1_27 e_x1_27 => ?_
              have f27 : bL x1_4 v_22.toNatClampNeg = false := by cases q : bL x1_4 v_22.toNatClampNeg; rfl; exact absurd (x25.mpr q) (by omega)
              have ct27 : fb_ct (bL x1_27) (σ.1 20 0).toInt.toNat = fb_ct (bL x1_4) (σ.1 20 0).toInt.toNat + 1 := by rw [e_x1_27]; exact set_ct (by omega) (by omega) (by omega) f27
              have lt27 := fb_ct_le (bL x1_27) (σ.1 20 0).toInt.toNat
              refine ok_ix ⟨by omega, by omega⟩ ?_
              refine ok_lt fun s_28 e_s_28 => ?_
              have hB_s_28 : BX s_28 := by rw [e_s_28]; exact pX_42 hB_s_21 (by omega)
              have hF_s_28 : FR [39, 40, 42, 43] [] σ s_28 := by rw [e_s_28]; exact FR.st hF_s_21 (by decide)
              have f_s_28_20 : (s_28.1 20 0).toInt = (σ.1 20 0).toInt := by rw [hF_s_28.1 20 (by decide)]
              have f_s_28_27 : (s_28.1 27 0).toInt = (σ.1 27 0).toInt := by rw [hF_s_28.1 27 (by decide)]
              have hEB_s_28 : EB s_28 := by rw [e_s_28]; exact EB.st1 (by decide) hEB_s_21
              refine ok_ix ⟨by omega, by omega⟩ ?_
              have g_35 := gX_28 hB_s_28 (v_22.toNatClampNeg)
              refine ok_lt fun v_29 e_v_29 => ?_
              have b_v_29 : 0 ≤ v_29.toInt ∧ v_29.toInt ≤ 120 := by rw [e_v_29]; exact gX_28 hB_s_28 _
              have z29 : v_29.toInt = (σ.1 28 v_22.toNatClampNeg).toInt := by rw [e_v_29, hF_s_28.1 28 (by decide)]
              refine ok_ix ⟨by omega, by omega⟩ ?_
              refine ok_lt fun s_30 e_s_30 => ?_
              have hB_s_30 : BX s_30 := by rw [e_s_30]; exact pX_43 hB_s_28 (by omega)
              have hF_s_30 : FR [39, 40, 42, 43] [] σ s_30 := by rw [e_s_30]; exact FR.st hF_s_28 (by decide)
              have f_s_30_20 : (s_30.1 20 0).toInt = (σ.1 20 0).toInt := by rw [hF_s_30.1 20 (by decide)]
              have f_s_30_27 : (s_30.1 27 0).toInt = (σ.1 27 0).toInt := by rw [hF_s_30.1 27 (by decide)]
              have hEB_s_30 : EB s_30 := by rw [e_s_30]; exact EB.st1 (by decide) hEB_s_28
              have op30 : ∀ h : Int, h = x4_4.toInt + 1 → OPN (σ.1 28) (s_30.1 42) (s_30.1 43) (σ.1 20 0).toInt h := fun h hh => OPN.push op21 e_s_28 e_s_30 (clamp_I (by omega)) hh y22 (by omega) (by rw [z29]; exact hEB.2.1 v_22.toNatClampNeg (v_22.toNatClampNeg + 1) (by omega) (by omega))
              obtain ⟨t_36, ht_36, g_36⟩ : ∃ t : Int, (x4_4 + 1).toInt = t ∧ t = x4_4.toInt + (1 : Int32).toInt := ⟨_, rfl, by have h9 := fb_addI (x := x4_4) (y := (1 : Int32)) (by omega) (by omega); exact h9⟩
              refine ok_lt fun x4_31 e_x4_31 => ?_
              have q_x4_31 : x4_31.toInt = t_36 := by rw [e_x4_31]; exact ht_36
              exact hk_k_204 x1_27 x3_4 x4_31 s_30 ⟨trivial, (by omega), (by omega), hB_s_30, hF_s_30, hEB_s_30, (by omega), (op30 _ (by omega))⟩
            · rw [fa_eq] at c_34
              exact hk_k_204 x1_4 x3_4 x4_4 s_21 ⟨trivial, (by omega), (by omega), hB_s_21, hF_s_21, hEB_s_21, (by omega), op21⟩
          · rw [fa_eq] at c_32
            exact hk_k_204 x1_4 x3_4 x4_4 s_21 ⟨trivial, (by omega), (by omega), hB_s_21, hF_s_21, hEB_s_21, (by omega), op21⟩

set_option maxHeartbeats 4000000 in
theorem s_J6_numberOfTrailingZeros_0f7a4 {x1 : Int32} : OK (f_J6_numberOfTrailingZeros_0f7a4 x1) (fun v => True) := by
  unfold f_J6_numberOfTrailingZeros_0f7a4
  have k_0 : (0 : Int32).toInt = 0 := by decide +kernel
  have k_1 : (1 : Int32).toInt = 1 := by decide +kernel
  have k_2 : (2 : Int32).toInt = 2 := by decide +kernel
  have k_4 : (4 : Int32).toInt = 4 := by decide +kernel
  have k_8 : (8 : Int32).toInt = 8 := by decide +kernel
  have k_16 : (16 : Int32).toInt = 16 := by decide +kernel
  have k_256 : (256 : Int32).toInt = 256 := by decide +kernel
  have k_65536 : (65536 : Int32).toInt = 65536 := by decide +kernel
  obtain ⟨t_1, ht_1, g_1⟩ : ∃ t : Int, ((x1 ^^^ (-1)) &&& (x1 - 1)).toInt = t ∧ -2147483648 ≤ t ∧ t ≤ 2147483647 := ⟨_, rfl, tI_rng _⟩
  refine ok_lt fun x0_1 e_x0_1 => ?_
  have q_x0_1 : x0_1.toInt = t_1 := by rw [e_x0_1]; exact ht_1
  refine ok_ite (fun c_2 => ?_) (fun c_2 => ?_)
  · rw [fa_lt] at c_2
    refine ok_jn ?_
    refine ok_ite (fun c_3 => ?_) (fun c_3 => ?_)
    · rw [fa_le] at c_3
      refine ok_jn ?_
      refine ok_ite (fun c_4 => ?_) (fun c_4 => ?_)
      · rw [fa_le] at c_4
        refine ok_jn ?_
        refine ok_ite (fun c_5 => ?_) (fun c_5 => ?_)
        · rw [fa_le] at c_5
          refine ok_jn ?_
          refine ok_ite (fun c_6 => ?_) (fun c_6 => ?_)
          · rw [fa_le] at c_6
            obtain ⟨t_7, ht_7, g_7⟩ : ∃ t : Int, ((x0_1.toUInt32 >>> ((1 : Int32).toUInt32 &&& (31 : Int32).toUInt32)).toInt32).toInt = t ∧ -2147483648 ≤ t ∧ t ≤ 2147483647 := ⟨_, rfl, tI_rng _⟩
            obtain ⟨t_8, ht_8, g_8⟩ : ∃ t : Int, ((1 : Int32) + (x0_1.toUInt32 >>> ((1 : Int32).toUInt32 &&& (31 : Int32).toUInt32)).toInt32).toInt = t ∧ -2147483648 ≤ t ∧ t ≤ 2147483647 := ⟨_, rfl, tI_rng _⟩
            exact ok_ret trivial
          · rw [fa_le] at c_6
            obtain ⟨t_9, ht_9, g_9⟩ : ∃ t : Int, ((1 : Int32) + 2).toInt = t ∧ t = (1 : Int32).toInt + (2 : Int32).toInt := ⟨_, rfl, by have h9 := fb_addI (x := (1 : Int32)) (y := (2 : Int32)) (by omega) (by omega); exact h9⟩
            refine ok_lt fun x1_8 e_x1_8 => ?_
            have q_x1_8 : x1_8.toInt = t_9 := by rw [e_x1_8]; exact ht_9
            obtain ⟨t_10, ht_10, g_10⟩ : ∃ t : Int, ((x0_1.toUInt32 >>> ((2 : Int32).toUInt32 &&& (31 : Int32).toUInt32)).toInt32).toInt = t ∧ -2147483648 ≤ t ∧ t ≤ 2147483647 := ⟨_, rfl, tI_rng _⟩
            refine ok_lt fun x0_9 e_x0_9 => ?_
            have q_x0_9 : x0_9.toInt = t_10 := by rw [e_x0_9]; exact ht_10
            obtain ⟨t_11, ht_11, g_11⟩ : ∃ t : Int, ((x0_9.toUInt32 >>> ((1 : Int32).toUInt32 &&& (31 : Int32).toUInt32)).toInt32).toInt = t ∧ -2147483648 ≤ t ∧ t ≤ 2147483647 := ⟨_, rfl, tI_rng _⟩
            obtain ⟨t_12, ht_12, g_12⟩ : ∃ t : Int, (x1_8 + (x0_9.toUInt32 >>> ((1 : Int32).toUInt32 &&& (31 : Int32).toUInt32)).toInt32).toInt = t ∧ -2147483648 ≤ t ∧ t ≤ 2147483647 := ⟨_, rfl, tI_rng _⟩
            exact ok_ret trivial
        · rw [fa_le] at c_5
          obtain ⟨t_13, ht_13, g_13⟩ : ∃ t : Int, ((1 : Int32) + 4).toInt = t ∧ t = (1 : Int32).toInt + (4 : Int32).toInt := ⟨_, rfl, by have h9 := fb_addI (x := (1 : Int32)) (y := (4 : Int32)) (by omega) (by omega); exact h9⟩
          refine ok_lt fun x1_11 e_x1_11 => ?_
          have q_x1_11 : x1_11.toInt = t_13 := by rw [e_x1_11]; exact ht_13
          obtain ⟨t_14, ht_14, g_14⟩ : ∃ t : Int, ((x0_1.toUInt32 >>> ((4 : Int32).toUInt32 &&& (31 : Int32).toUInt32)).toInt32).toInt = t ∧ -2147483648 ≤ t ∧ t ≤ 2147483647 := ⟨_, rfl, tI_rng _⟩
          refine ok_lt fun x0_12 e_x0_12 => ?_
          have q_x0_12 : x0_12.toInt = t_14 := by rw [e_x0_12]; exact ht_14
          refine ok_jn ?_
          refine ok_ite (fun c_15 => ?_) (fun c_15 => ?_)
          · rw [fa_le] at c_15
            obtain ⟨t_16, ht_16, g_16⟩ : ∃ t : Int, ((x0_12.toUInt32 >>> ((1 : Int32).toUInt32 &&& (31 : Int32).toUInt32)).toInt32).toInt = t ∧ -2147483648 ≤ t ∧ t ≤ 2147483647 := ⟨_, rfl, tI_rng _⟩
            obtain ⟨t_17, ht_17, g_17⟩ : ∃ t : Int, (x1_11 + (x0_12.toUInt32 >>> ((1 : Int32).toUInt32 &&& (31 : Int32).toUInt32)).toInt32).toInt = t ∧ -2147483648 ≤ t ∧ t ≤ 2147483647 := ⟨_, rfl, tI_rng _⟩
            exact ok_ret trivial
          · rw [fa_le] at c_15
            obtain ⟨t_18, ht_18, g_18⟩ : ∃ t : Int, (x1_11 + 2).toInt = t ∧ t = x1_11.toInt + (2 : Int32).toInt := ⟨_, rfl, by have h9 := fb_addI (x := x1_11) (y := (2 : Int32)) (by omega) (by omega); exact h9⟩
            refine ok_lt fun x1_8 e_x1_8 => ?_
            have q_x1_8 : x1_8.toInt = t_18 := by rw [e_x1_8]; exact ht_18
            obtain ⟨t_19, ht_19, g_19⟩ : ∃ t : Int, ((x0_12.toUInt32 >>> ((2 : Int32).toUInt32 &&& (31 : Int32).toUInt32)).toInt32).toInt = t ∧ -2147483648 ≤ t ∧ t ≤ 2147483647 := ⟨_, rfl, tI_rng _⟩
            refine ok_lt fun x0_9 e_x0_9 => ?_
            have q_x0_9 : x0_9.toInt = t_19 := by rw [e_x0_9]; exact ht_19
            obtain ⟨t_20, ht_20, g_20⟩ : ∃ t : Int, ((x0_9.toUInt32 >>> ((1 : Int32).toUInt32 &&& (31 : Int32).toUInt32)).toInt32).toInt = t ∧ -2147483648 ≤ t ∧ t ≤ 2147483647 := ⟨_, rfl, tI_rng _⟩
            obtain ⟨t_21, ht_21, g_21⟩ : ∃ t : Int, (x1_8 + (x0_9.toUInt32 >>> ((1 : Int32).toUInt32 &&& (31 : Int32).toUInt32)).toInt32).toInt = t ∧ -2147483648 ≤ t ∧ t ≤ 2147483647 := ⟨_, rfl, tI_rng _⟩
            exact ok_ret trivial
      · rw [fa_le] at c_4
        obtain ⟨t_22, ht_22, g_22⟩ : ∃ t : Int, ((1 : Int32) + 8).toInt = t ∧ t = (1 : Int32).toInt + (8 : Int32).toInt := ⟨_, rfl, by have h9 := fb_addI (x := (1 : Int32)) (y := (8 : Int32)) (by omega) (by omega); exact h9⟩
        refine ok_lt fun x1_14 e_x1_14 => ?_
        have q_x1_14 : x1_14.toInt = t_22 := by rw [e_x1_14]; exact ht_22
        obtain ⟨t_23, ht_23, g_23⟩ : ∃ t : Int, ((x0_1.toUInt32 >>> ((8 : Int32).toUInt32 &&& (31 : Int32).toUInt32)).toInt32).toInt = t ∧ -2147483648 ≤ t ∧ t ≤ 2147483647 := ⟨_, rfl, tI_rng _⟩
        refine ok_lt fun x0_15 e_x0_15 => ?_
        have q_x0_15 : x0_15.toInt = t_23 := by rw [e_x0_15]; exact ht_23
        refine ok_jn ?_
        refine ok_ite (fun c_24 => ?_) (fun c_24 => ?_)
        · rw [fa_le] at c_24
          refine ok_jn ?_
          refine ok_ite (fun c_25 => ?_) (fun c_25 => ?_)
          · rw [fa_le] at c_25
            obtain ⟨t_26, ht_26, g_26⟩ : ∃ t : Int, ((x0_15.toUInt32 >>> ((1 : Int32).toUInt32 &&& (31 : Int32).toUInt32)).toInt32).toInt = t ∧ -2147483648 ≤ t ∧ t ≤ 2147483647 := ⟨_, rfl, tI_rng _⟩
            obtain ⟨t_27, ht_27, g_27⟩ : ∃ t : Int, (x1_14 + (x0_15.toUInt32 >>> ((1 : Int32).toUInt32 &&& (31 : Int32).toUInt32)).toInt32).toInt = t ∧ -2147483648 ≤ t ∧ t ≤ 2147483647 := ⟨_, rfl, tI_rng _⟩
            exact ok_ret trivial
          · rw [fa_le] at c_25
            obtain ⟨t_28, ht_28, g_28⟩ : ∃ t : Int, (x1_14 + 2).toInt = t ∧ t = x1_14.toInt + (2 : Int32).toInt := ⟨_, rfl, by have h9 := fb_addI (x := x1_14) (y := (2 : Int32)) (by omega) (by omega); exact h9⟩
            refine ok_lt fun x1_8 e_x1_8 => ?_
            have q_x1_8 : x1_8.toInt = t_28 := by rw [e_x1_8]; exact ht_28
            obtain ⟨t_29, ht_29, g_29⟩ : ∃ t : Int, ((x0_15.toUInt32 >>> ((2 : Int32).toUInt32 &&& (31 : Int32).toUInt32)).toInt32).toInt = t ∧ -2147483648 ≤ t ∧ t ≤ 2147483647 := ⟨_, rfl, tI_rng _⟩
            refine ok_lt fun x0_9 e_x0_9 => ?_
            have q_x0_9 : x0_9.toInt = t_29 := by rw [e_x0_9]; exact ht_29
            obtain ⟨t_30, ht_30, g_30⟩ : ∃ t : Int, ((x0_9.toUInt32 >>> ((1 : Int32).toUInt32 &&& (31 : Int32).toUInt32)).toInt32).toInt = t ∧ -2147483648 ≤ t ∧ t ≤ 2147483647 := ⟨_, rfl, tI_rng _⟩
            obtain ⟨t_31, ht_31, g_31⟩ : ∃ t : Int, (x1_8 + (x0_9.toUInt32 >>> ((1 : Int32).toUInt32 &&& (31 : Int32).toUInt32)).toInt32).toInt = t ∧ -2147483648 ≤ t ∧ t ≤ 2147483647 := ⟨_, rfl, tI_rng _⟩
            exact ok_ret trivial
        · rw [fa_le] at c_24
          obtain ⟨t_32, ht_32, g_32⟩ : ∃ t : Int, (x1_14 + 4).toInt = t ∧ t = x1_14.toInt + (4 : Int32).toInt := ⟨_, rfl, by have h9 := fb_addI (x := x1_14) (y := (4 : Int32)) (by omega) (by omega); exact h9⟩
          refine ok_lt fun x1_11 e_x1_11 => ?_
          have q_x1_11 : x1_11.toInt = t_32 := by rw [e_x1_11]; exact ht_32
          obtain ⟨t_33, ht_33, g_33⟩ : ∃ t : Int, ((x0_15.toUInt32 >>> ((4 : Int32).toUInt32 &&& (31 : Int32).toUInt32)).toInt32).toInt = t ∧ -2147483648 ≤ t ∧ t ≤ 2147483647 := ⟨_, rfl, tI_rng _⟩
          refine ok_lt fun x0_12 e_x0_12 => ?_
          have q_x0_12 : x0_12.toInt = t_33 := by rw [e_x0_12]; exact ht_33
          refine ok_jn ?_
          refine ok_ite (fun c_34 => ?_) (fun c_34 => ?_)
          · rw [fa_le] at c_34
            obtain ⟨t_35, ht_35, g_35⟩ : ∃ t : Int, ((x0_12.toUInt32 >>> ((1 : Int32).toUInt32 &&& (31 : Int32).toUInt32)).toInt32).toInt = t ∧ -2147483648 ≤ t ∧ t ≤ 2147483647 := ⟨_, rfl, tI_rng _⟩
            obtain ⟨t_36, ht_36, g_36⟩ : ∃ t : Int, (x1_11 + (x0_12.toUInt32 >>> ((1 : Int32).toUInt32 &&& (31 : Int32).toUInt32)).toInt32).toInt = t ∧ -2147483648 ≤ t ∧ t ≤ 2147483647 := ⟨_, rfl, tI_rng _⟩
            exact ok_ret trivial
          · rw [fa_le] at c_34
            obtain ⟨t_37, ht_37, g_37⟩ : ∃ t : Int, (x1_11 + 2).toInt = t ∧ t = x1_11.toInt + (2 : Int32).toInt := ⟨_, rfl, by have h9 := fb_addI (x := x1_11) (y := (2 : Int32)) (by omega) (by omega); exact h9⟩
            refine ok_lt fun x1_8 e_x1_8 => ?_
            have q_x1_8 : x1_8.toInt = t_37 := by rw [e_x1_8]; exact ht_37
            obtain ⟨t_38, ht_38, g_38⟩ : ∃ t : Int, ((x0_12.toUInt32 >>> ((2 : Int32).toUInt32 &&& (31 : Int32).toUInt32)).toInt32).toInt = t ∧ -2147483648 ≤ t ∧ t ≤ 2147483647 := ⟨_, rfl, tI_rng _⟩
            refine ok_lt fun x0_9 e_x0_9 => ?_
            have q_x0_9 : x0_9.toInt = t_38 := by rw [e_x0_9]; exact ht_38
            obtain ⟨t_39, ht_39, g_39⟩ : ∃ t : Int, ((x0_9.toUInt32 >>> ((1 : Int32).toUInt32 &&& (31 : Int32).toUInt32)).toInt32).toInt = t ∧ -2147483648 ≤ t ∧ t ≤ 2147483647 := ⟨_, rfl, tI_rng _⟩
            obtain ⟨t_40, ht_40, g_40⟩ : ∃ t : Int, (x1_8 + (x0_9.toUInt32 >>> ((1 : Int32).toUInt32 &&& (31 : Int32).toUInt32)).toInt32).toInt = t ∧ -2147483648 ≤ t ∧ t ≤ 2147483647 := ⟨_, rfl, tI_rng _⟩
            exact ok_ret trivial
    · rw [fa_le] at c_3
      obtain ⟨t_41, ht_41, g_41⟩ : ∃ t : Int, ((1 : Int32) + 16).toInt = t ∧ t = (1 : Int32).toInt + (16 : Int32).toInt := ⟨_, rfl, by have h9 := fb_addI (x := (1 : Int32)) (y := (16 : Int32)) (by omega) (by omega); exact h9⟩
      refine ok_lt fun x1_17 e_x1_17 => ?_
      have q_x1_17 : x1_17.toInt = t_41 := by rw [e_x1_17]; exact ht_41
      obtain ⟨t_42, ht_42, g_42⟩ : ∃ t : Int, ((x0_1.toUInt32 >>> ((16 : Int32).toUInt32 &&& (31 : Int32).toUInt32)).toInt32).toInt = t ∧ -2147483648 ≤ t ∧ t ≤ 2147483647 := ⟨_, rfl, tI_rng _⟩
      refine ok_lt fun x0_18 e_x0_18 => ?_
      have q_x0_18 : x0_18.toInt = t_42 := by rw [e_x0_18]; exact ht_42
      refine ok_jn ?_
      refine ok_ite (fun c_43 => ?_) (fun c_43 => ?_)
      · rw [fa_le] at c_43
        refine ok_jn ?_
        refine ok_ite (fun c_44 => ?_) (fun c_44 => ?_)
        · rw [fa_le] at c_44
          refine ok_jn ?_
          refine ok_ite (fun c_45 => ?_) (fun c_45 => ?_)
          · rw [fa_le] at c_45
            obtain ⟨t_46, ht_46, g_46⟩ : ∃ t : Int, ((x0_18.toUInt32 >>> ((1 : Int32).toUInt32 &&& (31 : Int32).toUInt32)).toInt32).toInt = t ∧ -2147483648 ≤ t ∧ t ≤ 2147483647 := ⟨_, rfl, tI_rng _⟩
            obtain ⟨t_47, ht_47, g_47⟩ : ∃ t : Int, (x1_17 + (x0_18.toUInt32 >>> ((1 : Int32).toUInt32 &&& (31 : Int32).toUInt32)).toInt32).toInt = t ∧ -2147483648 ≤ t ∧ t ≤ 2147483647 := ⟨_, rfl, tI_rng _⟩
            exact ok_ret trivial
          · rw [fa_le] at c_45
            obtain ⟨t_48, ht_48, g_48⟩ : ∃ t : Int, (x1_17 + 2).toInt = t ∧ t = x1_17.toInt + (2 : Int32).toInt := ⟨_, rfl, by have h9 := fb_addI (x := x1_17) (y := (2 : Int32)) (by omega) (by omega); exact h9⟩
            refine ok_lt fun x1_8 e_x1_8 => ?_
            have q_x1_8 : x1_8.toInt = t_48 := by rw [e_x1_8]; exact ht_48
            obtain ⟨t_49, ht_49, g_49⟩ : ∃ t : Int, ((x0_18.toUInt32 >>> ((2 : Int32).toUInt32 &&& (31 : Int32).toUInt32)).toInt32).toInt = t ∧ -2147483648 ≤ t ∧ t ≤ 2147483647 := ⟨_, rfl, tI_rng _⟩
            refine ok_lt fun x0_9 e_x0_9 => ?_
            have q_x0_9 : x0_9.toInt = t_49 := by rw [e_x0_9]; exact ht_49
            obtain ⟨t_50, ht_50, g_50⟩ : ∃ t : Int, ((x0_9.toUInt32 >>> ((1 : Int32).toUInt32 &&& (31 : Int32).toUInt32)).toInt32).toInt = t ∧ -2147483648 ≤ t ∧ t ≤ 2147483647 := ⟨_, rfl, tI_rng _⟩
            obtain ⟨t_51, ht_51, g_51⟩ : ∃ t : Int, (x1_8 + (x0_9.toUInt32 >>> ((1 : Int32).toUInt32 &&& (31 : Int32).toUInt32)).toInt32).toInt = t ∧ -2147483648 ≤ t ∧ t ≤ 2147483647 := ⟨_, rfl, tI_rng _⟩
            exact ok_ret trivial
        · rw [fa_le] at c_44
          obtain ⟨t_52, ht_52, g_52⟩ : ∃ t : Int, (x1_17 + 4).toInt = t ∧ t = x1_17.toInt + (4 : Int32).toInt := ⟨_, rfl, by have h9 := fb_addI (x := x1_17) (y := (4 : Int32)) (by omega) (by omega); exact h9⟩
          refine ok_lt fun x1_11 e_x1_11 => ?_
          have q_x1_11 : x1_11.toInt = t_52 := by rw [e_x1_11]; exact ht_52
          obtain ⟨t_53, ht_53, g_53⟩ : ∃ t : Int, ((x0_18.toUInt32 >>> ((4 : Int32).toUInt32 &&& (31 : Int32).toUInt32)).toInt32).toInt = t ∧ -2147483648 ≤ t ∧ t ≤ 2147483647 := ⟨_, rfl, tI_rng _⟩
          refine ok_lt fun x0_12 e_x0_12 => ?_
          have q_x0_12 : x0_12.toInt = t_53 := by rw [e_x0_12]; exact ht_53
          refine ok_jn ?_
          refine ok_ite (fun c_54 => ?_) (fun c_54 => ?_)
          · rw [fa_le] at c_54
            obtain ⟨t_55, ht_55, g_55⟩ : ∃ t : Int, ((x0_12.toUInt32 >>> ((1 : Int32).toUInt32 &&& (31 : Int32).toUInt32)).toInt32).toInt = t ∧ -2147483648 ≤ t ∧ t ≤ 2147483647 := ⟨_, rfl, tI_rng _⟩
            obtain ⟨t_56, ht_56, g_56⟩ : ∃ t : Int, (x1_11 + (x0_12.toUInt32 >>> ((1 : Int32).toUInt32 &&& (31 : Int32).toUInt32)).toInt32).toInt = t ∧ -2147483648 ≤ t ∧ t ≤ 2147483647 := ⟨_, rfl, tI_rng _⟩
            exact ok_ret trivial
          · rw [fa_le] at c_54
            obtain ⟨t_57, ht_57, g_57⟩ : ∃ t : Int, (x1_11 + 2).toInt = t ∧ t = x1_11.toInt + (2 : Int32).toInt := ⟨_, rfl, by have h9 := fb_addI (x := x1_11) (y := (2 : Int32)) (by omega) (by omega); exact h9⟩
            refine ok_lt fun x1_8 e_x1_8 => ?_
            have q_x1_8 : x1_8.toInt = t_57 := by rw [e_x1_8]; exact ht_57
            obtain ⟨t_58, ht_58, g_58⟩ : ∃ t : Int, ((x0_12.toUInt32 >>> ((2 : Int32).toUInt32 &&& (31 : Int32).toUInt32)).toInt32).toInt = t ∧ -2147483648 ≤ t ∧ t ≤ 2147483647 := ⟨_, rfl, tI_rng _⟩
            refine ok_lt fun x0_9 e_x0_9 => ?_
            have q_x0_9 : x0_9.toInt = t_58 := by rw [e_x0_9]; exact ht_58
            obtain ⟨t_59, ht_59, g_59⟩ : ∃ t : Int, ((x0_9.toUInt32 >>> ((1 : Int32).toUInt32 &&& (31 : Int32).toUInt32)).toInt32).toInt = t ∧ -2147483648 ≤ t ∧ t ≤ 2147483647 := ⟨_, rfl, tI_rng _⟩
            obtain ⟨t_60, ht_60, g_60⟩ : ∃ t : Int, (x1_8 + (x0_9.toUInt32 >>> ((1 : Int32).toUInt32 &&& (31 : Int32).toUInt32)).toInt32).toInt = t ∧ -2147483648 ≤ t ∧ t ≤ 2147483647 := ⟨_, rfl, tI_rng _⟩
            exact ok_ret trivial
      · rw [fa_le] at c_43
        obtain ⟨t_61, ht_61, g_61⟩ : ∃ t : Int, (x1_17 + 8).toInt = t ∧ t = x1_17.toInt + (8 : Int32).toInt := ⟨_, rfl, by have h9 := fb_addI (x := x1_17) (y := (8 : Int32)) (by omega) (by omega); exact h9⟩
        refine ok_lt fun x1_14 e_x1_14 => ?_
        have q_x1_14 : x1_14.toInt = t_61 := by rw [e_x1_14]; exact ht_61
        obtain ⟨t_62, ht_62, g_62⟩ : ∃ t : Int, ((x0_18.toUInt32 >>> ((8 : Int32).toUInt32 &&& (31 : Int32).toUInt32)).toInt32).toInt = t ∧ -2147483648 ≤ t ∧ t ≤ 2147483647 := ⟨_, rfl, tI_rng _⟩
        refine ok_lt fun x0_15 e_x0_15 => ?_
        have q_x0_15 : x0_15.toInt = t_62 := by rw [e_x0_15]; exact ht_62
        refine ok_jn ?_
        refine ok_ite (fun c_63 => ?_) (fun c_63 => ?_)
        · rw [fa_le] at c_63
          refine ok_jn ?_
          refine ok_ite (fun c_64 => ?_) (fun c_64 => ?_)
          · rw [fa_le] at c_64
            obtain ⟨t_65, ht_65, g_65⟩ : ∃ t : Int, ((x0_15.toUInt32 >>> ((1 : Int32).toUInt32 &&& (31 : Int32).toUInt32)).toInt32).toInt = t ∧ -2147483648 ≤ t ∧ t ≤ 2147483647 := ⟨_, rfl, tI_rng _⟩
            obtain ⟨t_66, ht_66, g_66⟩ : ∃ t : Int, (x1_14 + (x0_15.toUInt32 >>> ((1 : Int32).toUInt32 &&& (31 : Int32).toUInt32)).toInt32).toInt = t ∧ -2147483648 ≤ t ∧ t ≤ 2147483647 := ⟨_, rfl, tI_rng _⟩
            exact ok_ret trivial
          · rw [fa_le] at c_64
            obtain ⟨t_67, ht_67, g_67⟩ : ∃ t : Int, (x1_14 + 2).toInt = t ∧ t = x1_14.toInt + (2 : Int32).toInt := ⟨_, rfl, by have h9 := fb_addI (x := x1_14) (y := (2 : Int32)) (by omega) (by omega); exact h9⟩
            refine ok_lt fun x1_8 e_x1_8 => ?_
            have q_x1_8 : x1_8.toInt = t_67 := by rw [e_x1_8]; exact ht_67
            obtain ⟨t_68, ht_68, g_68⟩ : ∃ t : Int, ((x0_15.toUInt32 >>> ((2 : Int32).toUInt32 &&& (31 : Int32).toUInt32)).toInt32).toInt = t ∧ -2147483648 ≤ t ∧ t ≤ 2147483647 := ⟨_, rfl, tI_rng _⟩
            refine ok_lt fun x0_9 e_x0_9 => ?_
            have q_x0_9 : x0_9.toInt = t_68 := by rw [e_x0_9]; exact ht_68
            obtain ⟨t_69, ht_69, g_69⟩ : ∃ t : Int, ((x0_9.toUInt32 >>> ((1 : Int32).toUInt32 &&& (31 : Int32).toUInt32)).toInt32).toInt = t ∧ -2147483648 ≤ t ∧ t ≤ 2147483647 := ⟨_, rfl, tI_rng _⟩
            obtain ⟨t_70, ht_70, g_70⟩ : ∃ t : Int, (x1_8 + (x0_9.toUInt32 >>> ((1 : Int32).toUInt32 &&& (31 : Int32).toUInt32)).toInt32).toInt = t ∧ -2147483648 ≤ t ∧ t ≤ 2147483647 := ⟨_, rfl, tI_rng _⟩
            exact ok_ret trivial
        · rw [fa_le] at c_63
          obtain ⟨t_71, ht_71, g_71⟩ : ∃ t : Int, (x1_14 + 4).toInt = t ∧ t = x1_14.toInt + (4 : Int32).toInt := ⟨_, rfl, by have h9 := fb_addI (x := x1_14) (y := (4 : Int32)) (by omega) (by omega); exact h9⟩
          refine ok_lt fun x1_11 e_x1_11 => ?_
          have q_x1_11 : x1_11.toInt = t_71 := by rw [e_x1_11]; exact ht_71
          obtain ⟨t_72, ht_72, g_72⟩ : ∃ t : Int, ((x0_15.toUInt32 >>> ((4 : Int32).toUInt32 &&& (31 : Int32).toUInt32)).toInt32).toInt = t ∧ -2147483648 ≤ t ∧ t ≤ 2147483647 := ⟨_, rfl, tI_rng _⟩
          refine ok_lt fun x0_12 e_x0_12 => ?_
          have q_x0_12 : x0_12.toInt = t_72 := by rw [e_x0_12]; exact ht_72
          refine ok_jn ?_
          refine ok_ite (fun c_73 => ?_) (fun c_73 => ?_)
          · rw [fa_le] at c_73
            obtain ⟨t_74, ht_74, g_74⟩ : ∃ t : Int, ((x0_12.toUInt32 >>> ((1 : Int32).toUInt32 &&& (31 : Int32).toUInt32)).toInt32).toInt = t ∧ -2147483648 ≤ t ∧ t ≤ 2147483647 := ⟨_, rfl, tI_rng _⟩
            obtain ⟨t_75, ht_75, g_75⟩ : ∃ t : Int, (x1_11 + (x0_12.toUInt32 >>> ((1 : Int32).toUInt32 &&& (31 : Int32).toUInt32)).toInt32).toInt = t ∧ -2147483648 ≤ t ∧ t ≤ 2147483647 := ⟨_, rfl, tI_rng _⟩
            exact ok_ret trivial
          · rw [fa_le] at c_73
            obtain ⟨t_76, ht_76, g_76⟩ : ∃ t : Int, (x1_11 + 2).toInt = t ∧ t = x1_11.toInt + (2 : Int32).toInt := ⟨_, rfl, by have h9 := fb_addI (x := x1_11) (y := (2 : Int32)) (by omega) (by omega); exact h9⟩
            refine ok_lt fun x1_8 e_x1_8 => ?_
            have q_x1_8 : x1_8.toInt = t_76 := by rw [e_x1_8]; exact ht_76
            obtain ⟨t_77, ht_77, g_77⟩ : ∃ t : Int, ((x0_12.toUInt32 >>> ((2 : Int32).toUInt32 &&& (31 : Int32).toUInt32)).toInt32).toInt = t ∧ -2147483648 ≤ t ∧ t ≤ 2147483647 := ⟨_, rfl, tI_rng _⟩
            refine ok_lt fun x0_9 e_x0_9 => ?_
            have q_x0_9 : x0_9.toInt = t_77 := by rw [e_x0_9]; exact ht_77
            obtain ⟨t_78, ht_78, g_78⟩ : ∃ t : Int, ((x0_9.toUInt32 >>> ((1 : Int32).toUInt32 &&& (31 : Int32).toUInt32)).toInt32).toInt = t ∧ -2147483648 ≤ t ∧ t ≤ 2147483647 := ⟨_, rfl, tI_rng _⟩
            obtain ⟨t_79, ht_79, g_79⟩ : ∃ t : Int, (x1_8 + (x0_9.toUInt32 >>> ((1 : Int32).toUInt32 &&& (31 : Int32).toUInt32)).toInt32).toInt = t ∧ -2147483648 ≤ t ∧ t ≤ 2147483647 := ⟨_, rfl, tI_rng _⟩
            exact ok_ret trivial
  · rw [fa_lt] at c_2
    obtain ⟨t_80, ht_80, g_80⟩ : ∃ t : Int, (x0_1 &&& 32).toInt = t ∧ 0 ≤ t ∧ t ≤ 32 := ⟨_, rfl, and_rng (x := x0_1) 32 rfl (by decide)⟩
    exact ok_ret trivial

theorem s_J13_numberOfTrailingZeros_95d88 {x1 : Int64} (hne : 0 < fb_ct (bL x1) 64) : OK (f_J13_numberOfTrailingZeros_95d88 x1) (fun v => (0 ≤ v.toInt ∧ v.toInt ≤ 63) ∧ (bL x1 v.toNatClampNeg = true ∧ ∀ i, i < v.toNatClampNeg → bL x1 i = false)) := by
  obtain ⟨p, h1, h2, h3⟩ := lowL hne
  have e : (nI p).toInt = p := nI_toInt (by omega)
  have e2 : (nI p).toNatClampNeg = p := by have := clamp_I (x := nI p) (by omega); omega
  exact ⟨_, ntzL h1 h2 h3, by dsimp only; rw [e, e2]; exact ⟨by omega, h2, h3⟩⟩

set_option maxHeartbeats 4000000 in
theorem s_X8_sharedBefore {x1 : Int32} {σ : Sto} (hB : BX σ) (hBV : BV σ) (p_x1 : 0 ≤ x1.toInt ∧ x1.toInt ≤ 39) : OK (f_X8_sharedBefore x1 σ) (fun v => True) := by
  unfold f_X8_sharedBefore
  have hF : FR [] [] σ σ := FR.rf
  have k_m1 : ((-1) : Int32).toInt = -1 := by decide +kernel
  have k_0 : (0 : Int32).toInt = 0 := by decide +kernel
  refine ok_lt fun x2_1 e_x2_1 => ?_
  refine ok_ix ⟨by omega, by omega⟩ ?_
  refine ok_lt fun v_2 e_v_2 => ?_
  refine ok_calp (s_J13_bitCount_95d88 (x1 := v_2) ) (fun v_3 h_1 => ?_)
  obtain ⟨b_v_3, x_v_3⟩ := h_1
  (try dsimp only at b_v_3 x_v_3)
  refine ok_itr3 (fun (n : Nat) (x2_4 : Int64) (x4_4 : Int64) (x6_4 : Int32) => n = (x6_4.toInt - (-1)).toNat ∧ (0 ≤ x6_4.toInt ∧ x6_4.toInt ≤ 64) ∧ (x6_4.toInt = fb_ct (bL x4_4) 64) ∧ (∀ i, bL x4_4 i = true → i < 40)) ?_ (n := _) ⟨rfl, (by omega), (by omega), (fun i hi => hBV x1.toNatClampNeg i (by rw [← e_v_2]; exact hi))⟩ (show _ < 10000000 by omega)
  intro a_27 n x2_4 x4_4 x6_4 hI ih_a_27
  obtain ⟨hn_a_27, b_x6_4, hct, hb4⟩ := hI
  refine ok_ite (fun c_2 => ?_) (fun c_2 => ?_)
  · rw [fa_le] at c_2
    exact ok_ret trivial
  · rw [fa_le] at c_2
    refine ok_calp (s_J13_numberOfTrailingZeros_95d88 (x1 := x4_4) (by omega)) (fun v_6 h_3 => ?_)
    obtain ⟨b_v_6, x_v_6⟩ := h_3
    (try dsimp only at b_v_6 x_v_6)
    have y6 := hb4 _ x_v_6.1
    have c6 := clamp_I (x := v_6) (by omega)
    refine ok_ix ⟨by omega, by omega⟩ ?_
    refine ok_lt fun v_7 e_v_7 => ?_
    refine ok_lt fun x2_8 e_x2_8 => ?_
    refine ok_lt fun x4_9 e_x4_9 => ?_
    obtain ⟨t_4, ht_4, g_4⟩ : ∃ t : Int, (x6_4 + (-1)).toInt = t ∧ t = x6_4.toInt + ((-1) : Int32).toInt := ⟨_, rfl, by have h9 := fb_addI (x := x6_4) (y := ((-1) : Int32)) (by omega) (by omega); exact h9⟩
    refine ok_lt fun x6_10 e_x6_10 => ?_
    have q_x6_10 : x6_10.toInt = t_4 := by rw [e_x6_10]; exact ht_4
    exact ih_a_27 _ x2_8 x4_9 x6_10 (by rw [hn_a_27]; omega) ⟨rfl, (by omega), (by have q := clr_ct (x := x4_4) (p := v_6.toNatClampNeg) (by have := clamp_I (x := v_6) (by omega); omega) x_v_6.1 x_v_6.2; rw [e_x4_9]; omega), (fun i hi => hb4 i (by rw [e_x4_9, bL_and] at hi; simp at hi; exact hi.1))⟩

set_option maxHeartbeats 4000000 in
theorem s_X8_findDominators {σ : Sto} (hB : BX σ) (hBV : BV σ) : OK (f_X8_findDominators σ) (fun s => BX s ∧ FR [] [1, 5] σ s ∧ BV s) := by
  unfold f_X8_findDominators
  have hF : FR [] [1, 5] σ σ := FR.rf
  have k_0 : (0 : Int32).toInt = 0 := by decide +kernel
  have k_1 : (1 : Int32).toInt = 1 := by decide +kernel
  have k_1000000 : (1000000 : Int32).toInt = 1000000 := by decide +kernel
  refine ok_itr2 (fun (n : Nat) (x1_1 : Int32) (s_1 : Sto) => n = (41 - x1_1.toInt).toNat ∧ (0 ≤ x1_1.toInt ∧ x1_1.toInt ≤ 40) ∧ (BX s_1) ∧ (FR [] [1, 5] σ s_1) ∧ (BV s_1)) ?_ (n := _) ⟨rfl, (by omega), hB, hF, hBV⟩ (show _ < 10000000 by omega)
  intro a_2 n x1_1 s_1 hI ih_a_2
  obtain ⟨hn_a_2, b_x1_1, hB_s_1, hF_s_1, hBV_s_1⟩ := hI
  have g_2 := gX_20 hB_s_1 0
  have g_3 : (s_1.1 20 0).toInt = (σ.1 20 0).toInt := by rw [hF_s_1.1 20 (by decide)]
  have g_4 := gX_20 hB 0
  refine ok_ite (fun c_1 => ?_) (fun c_1 => ?_)
  · rw [fa_le] at c_1
    refine ok_itr2 (fun (n : Nat) (x1_3 : Int32) (s_3 : Sto) => n = (121 - x1_3.toInt).toNat ∧ (0 ≤ x1_3.toInt ∧ x1_3.toInt ≤ 120) ∧ (BX s_3) ∧ (FR [] [1, 5] σ s_3) ∧ (BV s_3)) ?_ (n := _) ⟨rfl, (by omega), hB_s_1, hF_s_1, hBV_s_1⟩ (show _ < 10000000 by omega)
    intro a_45 n x1_3 s_3 hI ih_a_45
    obtain ⟨hn_a_45, b_x1_3, hB_s_3, hF_s_3, hBV_s_3⟩ := hI
    have g_6 := gX_27 hB_s_3 0
    have g_7 : (s_3.1 27 0).toInt = (σ.1 27 0).toInt := by rw [hF_s_3.1 27 (by decide)]
    have g_8 := gX_27 hB 0
    refine ok_ite (fun c_5 => ?_) (fun c_5 => ?_)
    · rw [fa_le] at c_5
      refine ok_ix ⟨by omega, by omega⟩ ?_
      refine ok_lt fun s_5 e_s_5 => ?_
      have hB_s_5 : BX s_5 := by rw [e_s_5]; exact BD.stl hB_s_3
      have hF_s_5 : FR [] [1, 5] σ s_5 := by rw [e_s_5]; exact FR.stl hF_s_3 (by decide)
      have hBV_s_5 : BV s_5 := by rw [e_s_5]; exact BV.st2 (by decide) hBV_s_3
      refine ok_itr3 (fun (n : Nat) (x1_6 : Int32) (x2_6 : Int32) (s_6 : Sto) => n = (1000001 - x2_6.toInt).toNat ∧ (0 ≤ x1_6.toInt ∧ x1_6.toInt ≤ 1) ∧ (0 ≤ x2_6.toInt ∧ x2_6.toInt ≤ 1000000) ∧ (BX s_6) ∧ (FR [] [1, 5] σ s_6) ∧ (BV s_6)) ?_ (n := _) ⟨rfl, (by omega), (by omega), hB_s_5, hF_s_5, hBV_s_5⟩ (show _ < 10000000 by omega)
      intro a_110 n x1_6 x2_6 s_6 hI ih_a_110
      obtain ⟨hn_a_110, b_x1_6, b_x2_6, hB_s_6, hF_s_6, hBV_s_6⟩ := hI
      refine ok_ite (fun c_9 => ?_) (fun c_9 => ?_)
      · rw [fa_le] at c_9
        exact ok_ret ⟨hB_s_6, hF_s_6, hBV_s_6⟩
      · rw [fa_le] at c_9
        refine ok_ite (fun c_10 => ?_) (fun c_10 => ?_)
        · rw [fa_eq] at c_10
          exact ok_ret ⟨hB_s_6, hF_s_6, hBV_s_6⟩
        · rw [fa_eq] at c_10
          refine ok_itr3 (fun (n : Nat) (x1_9 : Int32) (x3_9 : Int32) (s_9 : Sto) => n = (41 - x3_9.toInt).toNat ∧ (0 ≤ x1_9.toInt ∧ x1_9.toInt ≤ 1) ∧ (1 ≤ x3_9.toInt ∧ x3_9.toInt ≤ 40) ∧ (BX s_9) ∧ (FR [] [1, 5] σ s_9) ∧ (BV s_9)) ?_ (n := _) ⟨rfl, (by omega), (by omega), hB_s_6, hF_s_6, hBV_s_6⟩ (show _ < 10000000 by omega)
          intro a_124 n x1_9 x3_9 s_9 hI ih_a_124
          obtain ⟨hn_a_124, b_x1_9, b_x3_9, hB_s_9, hF_s_9, hBV_s_9⟩ := hI
          have g_12 := gX_20 hB_s_9 0
          have g_13 : (s_9.1 20 0).toInt = (σ.1 20 0).toInt := by rw [hF_s_9.1 20 (by decide)]
          refine ok_ite (fun c_11 => ?_) (fun c_11 => ?_)
          · rw [fa_le] at c_11
            obtain ⟨t_14, ht_14, g_14⟩ : ∃ t : Int, (x2_6 + 1).toInt = t ∧ t = x2_6.toInt + (1 : Int32).toInt := ⟨_, rfl, by have h9 := fb_addI (x := x2_6) (y := (1 : Int32)) (by omega) (by omega); exact h9⟩
            refine ok_lt fun x2_11 e_x2_11 => ?_
            have q_x2_11 : x2_11.toInt = t_14 := by rw [e_x2_11]; exact ht_14
            exact ih_a_110 _ x1_9 x2_11 s_9 (by rw [hn_a_110]; omega) ⟨rfl, (by omega), (by omega), hB_s_9, hF_s_9, hBV_s_9⟩
          · rw [fa_le] at c_11
            refine ok_ix ⟨by omega, by omega⟩ ?_
            have g_15 := gX_39 hB_s_9 (x3_9.toNatClampNeg)
            refine ok_lt fun v_12 e_v_12 => ?_
            have b_v_12 : 0 ≤ v_12.toInt ∧ v_12.toInt ≤ 39 := by rw [e_v_12]; exact gX_39 hB_s_9 _
            refine ok_calp (s_X8_sharedBefore (x1 := v_12) (σ := s_9) hB_s_9 hBV_s_9 (by omega)) (fun v_13 h_16 => ?_)
            refine ok_lt fun x5_14 e_x5_14 => ?_
            refine ok_jn ?_
            refine ok_jn ?_
            refine ok_ite (fun c_17 => ?_) (fun c_17 => ?_)
            · rw [fa_eq] at c_17
              refine ok_ix ⟨by omega, by omega⟩ ?_
              refine ok_lt fun v_20 e_v_20 => ?_
              obtain ⟨t_19, ht_19, g_19⟩ : ∃ t : Int, (lg_cmp x5_14 v_20).toInt = t ∧ -2147483648 ≤ t ∧ t ≤ 2147483647 := ⟨_, rfl, tI_rng _⟩
              refine ok_ite (fun c_18 => ?_) (fun c_18 => ?_)
              · rw [lg_cmp_eq] at c_18
                refine ok_ix ⟨by omega, by omega⟩ ?_
                refine ok_lt fun s_16 e_s_16 => ?_
                have hB_s_16 : BX s_16 := by rw [e_s_16]; exact BD.stl hB_s_9
                have hF_s_16 : FR [] [1, 5] σ s_16 := by rw [e_s_16]; exact FR.stl hF_s_9 (by decide)
                have hBV_s_16 : BV s_16 := by rw [e_s_16]; exact BV.st2 (by decide) hBV_s_9
                obtain ⟨t_20, ht_20, g_20⟩ : ∃ t : Int, (x3_9 + 1).toInt = t ∧ t = x3_9.toInt + (1 : Int32).toInt := ⟨_, rfl, by have h9 := fb_addI (x := x3_9) (y := (1 : Int32)) (by omega) (by omega); exact h9⟩
                refine ok_lt fun x3_17 e_x3_17 => ?_
                have q_x3_17 : x3_17.toInt = t_20 := by rw [e_x3_17]; exact ht_20
                exact ih_a_124 _ (0 : Int32) x3_17 s_16 (by rw [hn_a_124]; omega) ⟨rfl, (by omega), (by omega), hB_s_16, hF_s_16, hBV_s_16⟩
              · rw [lg_cmp_eq] at c_18
                refine ok_ix ⟨by omega, by omega⟩ ?_
                refine ok_lt fun s_16 e_s_16 => ?_
                have hB_s_16 : BX s_16 := by rw [e_s_16]; exact BD.stl hB_s_9
                have hF_s_16 : FR [] [1, 5] σ s_16 := by rw [e_s_16]; exact FR.stl hF_s_9 (by decide)
                have hBV_s_16 : BV s_16 := by rw [e_s_16]; exact BV.st2 (by decide) hBV_s_9
                obtain ⟨t_21, ht_21, g_21⟩ : ∃ t : Int, (x3_9 + 1).toInt = t ∧ t = x3_9.toInt + (1 : Int32).toInt := ⟨_, rfl, by have h9 := fb_addI (x := x3_9) (y := (1 : Int32)) (by omega) (by omega); exact h9⟩
                refine ok_lt fun x3_17 e_x3_17 => ?_
                have q_x3_17 : x3_17.toInt = t_21 := by rw [e_x3_17]; exact ht_21
                exact ih_a_124 _ (1 : Int32) x3_17 s_16 (by rw [hn_a_124]; omega) ⟨rfl, (by omega), (by omega), hB_s_16, hF_s_16, hBV_s_16⟩
            · rw [fa_eq] at c_17
              refine ok_ix ⟨by omega, by omega⟩ ?_
              refine ok_lt fun s_16 e_s_16 => ?_
              have hB_s_16 : BX s_16 := by rw [e_s_16]; exact BD.stl hB_s_9
              have hF_s_16 : FR [] [1, 5] σ s_16 := by rw [e_s_16]; exact FR.stl hF_s_9 (by decide)
              have hBV_s_16 : BV s_16 := by rw [e_s_16]; exact BV.st2 (by decide) hBV_s_9
              obtain ⟨t_22, ht_22, g_22⟩ : ∃ t : Int, (x3_9 + 1).toInt = t ∧ t = x3_9.toInt + (1 : Int32).toInt := ⟨_, rfl, by have h9 := fb_addI (x := x3_9) (y := (1 : Int32)) (by omega) (by omega); exact h9⟩
              refine ok_lt fun x3_17 e_x3_17 => ?_
              have q_x3_17 : x3_17.toInt = t_22 := by rw [e_x3_17]; exact ht_22
              exact ih_a_124 _ (1 : Int32) x3_17 s_16 (by rw [hn_a_124]; omega) ⟨rfl, (by omega), (by omega), hB_s_16, hF_s_16, hBV_s_16⟩
    · rw [fa_le] at c_5
      refine ok_ix ⟨by omega, by omega⟩ ?_
      have g_23 := gX_37 hB_s_3 (x1_3.toNatClampNeg)
      refine ok_lt fun v_22 e_v_22 => ?_
      have b_v_22 : 0 ≤ v_22.toInt ∧ v_22.toInt ≤ 1 := by rw [e_v_22]; exact gX_37 hB_s_3 _
      refine ok_jn ?_
      refine ok_ite (fun c_24 => ?_) (fun c_24 => ?_)
      · rw [fa_eq] at c_24
        refine ok_ix ⟨by omega, by omega⟩ ?_
        have g_25 := gX_30 hB_s_3 (x1_3.toNatClampNeg)
        refine ok_lt fun v_26 e_v_26 => ?_
        have b_v_26 : 0 ≤ v_26.toInt ∧ v_26.toInt ≤ 39 := by rw [e_v_26]; exact gX_30 hB_s_3 _
        refine ok_ix ⟨by omega, by omega⟩ ?_
        refine ok_lt fun v_27 e_v_27 => ?_
        refine ok_ix ⟨by omega, by omega⟩ ?_
        have g_26 := gX_29 hB_s_3 (x1_3.toNatClampNeg)
        refine ok_lt fun v_28 e_v_28 => ?_
        have b_v_28 : 0 ≤ v_28.toInt ∧ v_28.toInt ≤ 39 := by rw [e_v_28]; exact gX_29 hB_s_3 _
        refine ok_ix ⟨by omega, by omega⟩ ?_
        refine ok_lt fun s_29 e_s_29 => ?_
        have hB_s_29 : BX s_29 := by rw [e_s_29]; exact BD.stl hB_s_3
        have hF_s_29 : FR [] [1, 5] σ s_29 := by rw [e_s_29]; exact FR.stl hF_s_3 (by decide)
        have hBV_s_29 : BV s_29 := BV.set hBV_s_3 e_s_29 (fun i hi => by rw [bL_set (by omega) (by omega)] at hi; simp at hi; rcases hi with q | q; exact hBV_s_3 _ i (by rw [← e_v_27]; exact q); have := clamp_I (x := v_28) (by omega); omega)
        obtain ⟨t_27, ht_27, g_27⟩ : ∃ t : Int, (x1_3 + 1).toInt = t ∧ t = x1_3.toInt + (1 : Int32).toInt := ⟨_, rfl, by have h9 := fb_addI (x := x1_3) (y := (1 : Int32)) (by omega) (by omega); exact h9⟩
        refine ok_lt fun x1_24 e_x1_24 => ?_
        have q_x1_24 : x1_24.toInt = t_27 := by rw [e_x1_24]; exact ht_27
        exact ih_a_45 _ x1_24 s_29 (by rw [hn_a_45]; omega) ⟨rfl, (by omega), hB_s_29, hF_s_29, hBV_s_29⟩
      · rw [fa_eq] at c_24
        obtain ⟨t_28, ht_28, g_28⟩ : ∃ t : Int, (x1_3 + 1).toInt = t ∧ t = x1_3.toInt + (1 : Int32).toInt := ⟨_, rfl, by have h9 := fb_addI (x := x1_3) (y := (1 : Int32)) (by omega) (by omega); exact h9⟩
        refine ok_lt fun x1_24 e_x1_24 => ?_
        have q_x1_24 : x1_24.toInt = t_28 := by rw [e_x1_24]; exact ht_28
        exact ih_a_45 _ x1_24 s_3 (by rw [hn_a_45]; omega) ⟨rfl, (by omega), hB_s_3, hF_s_3, hBV_s_3⟩
  · rw [fa_le] at c_1
    refine ok_ix ⟨by omega, by omega⟩ ?_
    refine ok_lt fun s_30 e_s_30 => ?_
    have hB_s_30 : BX s_30 := by rw [e_s_30]; exact BD.stl hB_s_1
    have hF_s_30 : FR [] [1, 5] σ s_30 := by rw [e_s_30]; exact FR.stl hF_s_1 (by decide)
    have hBV_s_30 : BV s_30 := BV.set hBV_s_1 e_s_30 (fun i hi => by rw [bL_0] at hi; exact absurd hi (by decide))
    refine ok_ix ⟨by omega, by omega⟩ ?_
    refine ok_lt fun s_31 e_s_31 => ?_
    have hB_s_31 : BX s_31 := by rw [e_s_31]; exact BD.stl hB_s_30
    have hF_s_31 : FR [] [1, 5] σ s_31 := by rw [e_s_31]; exact FR.stl hF_s_30 (by decide)
    have hBV_s_31 : BV s_31 := by rw [e_s_31]; exact BV.st2 (by decide) hBV_s_30
    obtain ⟨t_29, ht_29, g_29⟩ : ∃ t : Int, (x1_1 + 1).toInt = t ∧ t = x1_1.toInt + (1 : Int32).toInt := ⟨_, rfl, by have h9 := fb_addI (x := x1_1) (y := (1 : Int32)) (by omega) (by omega); exact h9⟩
    refine ok_lt fun x1_32 e_x1_32 => ?_
    have q_x1_32 : x1_32.toInt = t_29 := by rw [e_x1_32]; exact ht_29
    exact ih_a_2 _ x1_32 s_31 (by rw [hn_a_2]; omega) ⟨rfl, (by omega), hB_s_31, hF_s_31, hBV_s_31⟩

set_option maxHeartbeats 4000000 in
theorem s_X8_isBack {x1 : Int32} {σ : Sto} (hB : BX σ) (p_x1 : 0 ≤ x1.toInt ∧ x1.toInt ≤ 119) : OK (f_X8_isBack x1 σ) (fun v => (0 ≤ v.toInt ∧ v.toInt ≤ 1)) := by
  unfold f_X8_isBack
  have hF : FR [] [] σ σ := FR.rf
  have k_0 : (0 : Int32).toInt = 0 := by decide +kernel
  have k_1 : (1 : Int32).toInt = 1 := by decide +kernel
  refine ok_ix ⟨by omega, by omega⟩ ?_
  have g_1 := gX_29 hB (x1.toNatClampNeg)
  refine ok_lt fun v_1 e_v_1 => ?_
  have b_v_1 : 0 ≤ v_1.toInt ∧ v_1.toInt ≤ 39 := by rw [e_v_1]; exact gX_29 hB _
  refine ok_ix ⟨by omega, by omega⟩ ?_
  refine ok_lt fun v_2 e_v_2 => ?_
  refine ok_ix ⟨by omega, by omega⟩ ?_
  have g_2 := gX_30 hB (x1.toNatClampNeg)
  refine ok_lt fun v_3 e_v_3 => ?_
  have b_v_3 : 0 ≤ v_3.toInt ∧ v_3.toInt ≤ 39 := by rw [e_v_3]; exact gX_30 hB _
  refine ok_calp (s_X11_isIn (x1 := v_2) (x2 := v_3) ) (fun v_4 h_3 => ?_)
  obtain ⟨b_v_4, x_v_4⟩ := h_3
  (try dsimp only at b_v_4 x_v_4)
  refine ok_bz (by rw [fa_eq, fa_eq]; omega) ?_
  exact ok_ret (by (try dsimp only); omega)

set_option maxHeartbeats 4000000 in
theorem s_X8_isReducedNow {σ : Sto} (hB : BX σ) (hEB : EB σ) (hBV : BV σ) : OK (f_X8_isReducedNow σ) (fun r => (0 ≤ r.1.toInt ∧ r.1.toInt ≤ 1) ∧ BX r.2 ∧ FR [39, 40, 42, 43] [1, 5] σ r.2 ∧ BV r.2) := by
  unfold f_X8_isReducedNow
  have hF : FR [39, 40, 42, 43] [1, 5] σ σ := FR.rf
  have k_0 : (0 : Int32).toInt = 0 := by decide +kernel
  have k_1 : (1 : Int32).toInt = 1 := by decide +kernel
  refine ok_calv (s_X8_allAreComeTo  (σ := σ) hB hEB) (fun v_1 s_1 h_1 => ?_)
  obtain ⟨b_v_1, hB_s_1, hG_s_1⟩ := h_1
  (try dsimp only at b_v_1 hB_s_1 hG_s_1)
  have hF_s_1 : FR [39, 40, 42, 43] [1, 5] σ s_1 := FR.cal hF hG_s_1 rfl rfl
  have hEB_s_1 : EB s_1 := EB.fr hG_s_1 (by decide) hEB
  have hBV_s_1 : BV s_1 := BV.fr hG_s_1 (by decide) hBV
  refine ok_ite (fun c_2 => ?_) (fun c_2 => ?_)
  · rw [fa_eq] at c_2
    exact ok_ret ⟨(by (try dsimp only); omega), hB_s_1, hF_s_1, hBV_s_1⟩
  · rw [fa_eq] at c_2
    refine ok_cals (s_X8_findDominators  (σ := s_1) hB_s_1 hBV_s_1) (fun s_3 h_3 => ?_)
    obtain ⟨hB_s_3, hG_s_3, hBV_s_3⟩ := h_3
    (try dsimp only at hB_s_3 hG_s_3 hBV_s_3)
    have hF_s_3 : FR [39, 40, 42, 43] [1, 5] σ s_3 := FR.cal hF_s_1 hG_s_3 rfl rfl
    have hEB_s_3 : EB s_3 := EB.fr hG_s_3 (by decide) hEB_s_1
    refine ok_itr1 (fun (n : Nat) (x1_4 : Int32) => n = (121 - x1_4.toInt).toNat ∧ (0 ≤ x1_4.toInt ∧ x1_4.toInt ≤ 120)) ?_ (n := _) ⟨rfl, (by omega)⟩ (show _ < 10000000 by omega)
    intro a_15 n x1_4 hI ih_a_15
    obtain ⟨hn_a_15, b_x1_4⟩ := hI
    have g_5 := gX_27 hB_s_3 0
    have g_6 : (s_3.1 27 0).toInt = (σ.1 27 0).toInt := by rw [hF_s_3.1 27 (by decide)]
    have g_7 := gX_27 hB 0
    refine ok_ite (fun c_4 => ?_) (fun c_4 => ?_)
    · rw [fa_le] at c_4
      exact ok_ret ⟨(by (try dsimp only); omega), hB_s_3, hF_s_3, hBV_s_3⟩
    · rw [fa_le] at c_4
      refine ok_ix ⟨by omega, by omega⟩ ?_
      have g_8 := gX_30 hB_s_3 (x1_4.toNatClampNeg)
      refine ok_lt fun v_6 e_v_6 => ?_
      have b_v_6 : 0 ≤ v_6.toInt ∧ v_6.toInt ≤ 39 := by rw [e_v_6]; exact gX_30 hB_s_3 _
      refine ok_ix ⟨by omega, by omega⟩ ?_
      have g_9 := gX_40 hB_s_3 (v_6.toNatClampNeg)
      refine ok_lt fun v_7 e_v_7 => ?_
      have b_v_7 : 0 ≤ v_7.toInt ∧ v_7.toInt ≤ 39 := by rw [e_v_7]; exact gX_40 hB_s_3 _
      refine ok_ix ⟨by omega, by omega⟩ ?_
      have g_10 := gX_29 hB_s_3 (x1_4.toNatClampNeg)
      refine ok_lt fun v_8 e_v_8 => ?_
      have b_v_8 : 0 ≤ v_8.toInt ∧ v_8.toInt ≤ 39 := by rw [e_v_8]; exact gX_29 hB_s_3 _
      refine ok_ix ⟨by omega, by omega⟩ ?_
      have g_11 := gX_40 hB_s_3 (v_8.toNatClampNeg)
      refine ok_lt fun v_9 e_v_9 => ?_
      have b_v_9 : 0 ≤ v_9.toInt ∧ v_9.toInt ≤ 39 := by rw [e_v_9]; exact gX_40 hB_s_3 _
      refine ok_jn ?_
      refine ok_ite (fun c_12 => ?_) (fun c_12 => ?_)
      · rw [fa_lt] at c_12
        refine ok_ix ⟨by omega, by omega⟩ ?_
        have g_13 := gX_37 hB_s_3 (x1_4.toNatClampNeg)
        refine ok_lt fun v_11 e_v_11 => ?_
        have b_v_11 : 0 ≤ v_11.toInt ∧ v_11.toInt ≤ 1 := by rw [e_v_11]; exact gX_37 hB_s_3 _
        refine ok_jn ?_
        refine ok_ite (fun c_14 => ?_) (fun c_14 => ?_)
        · rw [fa_eq] at c_14
          refine ok_ite (fun c_15 => ?_) (fun c_15 => ?_)
          · rw [fa_eq] at c_15
            obtain ⟨t_16, ht_16, g_16⟩ : ∃ t : Int, (x1_4 + 1).toInt = t ∧ t = x1_4.toInt + (1 : Int32).toInt := ⟨_, rfl, by have h9 := fb_addI (x := x1_4) (y := (1 : Int32)) (by omega) (by omega); exact h9⟩
            refine ok_lt fun x1_13 e_x1_13 => ?_
            have q_x1_13 : x1_13.toInt = t_16 := by rw [e_x1_13]; exact ht_16
            exact ih_a_15 _ x1_13 (by rw [hn_a_15]; omega) ⟨rfl, (by omega)⟩
          · rw [fa_eq] at c_15
            exfalso; omega
        · rw [fa_eq] at c_14
          obtain ⟨t_17, ht_17, g_17⟩ : ∃ t : Int, (x1_4 + 1).toInt = t ∧ t = x1_4.toInt + (1 : Int32).toInt := ⟨_, rfl, by have h9 := fb_addI (x := x1_4) (y := (1 : Int32)) (by omega) (by omega); exact h9⟩
          refine ok_lt fun x1_13 e_x1_13 => ?_
          have q_x1_13 : x1_13.toInt = t_17 := by rw [e_x1_13]; exact ht_17
          exact ih_a_15 _ x1_13 (by rw [hn_a_15]; omega) ⟨rfl, (by omega)⟩
      · rw [fa_lt] at c_12
        refine ok_ix ⟨by omega, by omega⟩ ?_
        have g_18 := gX_37 hB_s_3 (x1_4.toNatClampNeg)
        refine ok_lt fun v_11 e_v_11 => ?_
        have b_v_11 : 0 ≤ v_11.toInt ∧ v_11.toInt ≤ 1 := by rw [e_v_11]; exact gX_37 hB_s_3 _
        refine ok_jn ?_
        refine ok_ite (fun c_19 => ?_) (fun c_19 => ?_)
        · rw [fa_eq] at c_19
          refine ok_ite (fun c_20 => ?_) (fun c_20 => ?_)
          · rw [fa_eq] at c_20
            exfalso; omega
          · rw [fa_eq] at c_20
            refine ok_calp (s_X8_isBack (x1 := x1_4) (σ := s_3) hB_s_3 (by omega)) (fun v_16 h_21 => ?_)
            have b_v_16 := h_21
            (try dsimp only at b_v_16)
            refine ok_ite (fun c_22 => ?_) (fun c_22 => ?_)
            · rw [fa_eq] at c_22
              exact ok_ret ⟨(by (try dsimp only); omega), hB_s_3, hF_s_3, hBV_s_3⟩
            · rw [fa_eq] at c_22
              obtain ⟨t_23, ht_23, g_23⟩ : ∃ t : Int, (x1_4 + 1).toInt = t ∧ t = x1_4.toInt + (1 : Int32).toInt := ⟨_, rfl, by have h9 := fb_addI (x := x1_4) (y := (1 : Int32)) (by omega) (by omega); exact h9⟩
              refine ok_lt fun x1_13 e_x1_13 => ?_
              have q_x1_13 : x1_13.toInt = t_23 := by rw [e_x1_13]; exact ht_23
              exact ih_a_15 _ x1_13 (by rw [hn_a_15]; omega) ⟨rfl, (by omega)⟩
        · rw [fa_eq] at c_19
          obtain ⟨t_24, ht_24, g_24⟩ : ∃ t : Int, (x1_4 + 1).toInt = t ∧ t = x1_4.toInt + (1 : Int32).toInt := ⟨_, rfl, by have h9 := fb_addI (x := x1_4) (y := (1 : Int32)) (by omega) (by omega); exact h9⟩
          refine ok_lt fun x1_13 e_x1_13 => ?_
          have q_x1_13 : x1_13.toInt = t_24 := by rw [e_x1_13]; exact ht_24
          exact ih_a_15 _ x1_13 (by rw [hn_a_15]; omega) ⟨rfl, (by omega)⟩

set_option maxHeartbeats 4000000 in
theorem s_X8_findAbove {σ : Sto} (hB : BX σ) : OK (f_X8_findAbove σ) (fun s => BX s ∧ FR [41] [] σ s) := by
  unfold f_X8_findAbove
  have hF : FR [41] [] σ σ := FR.rf
  have k_m1 : ((-1) : Int32).toInt = -1 := by decide +kernel
  have k_0 : (0 : Int32).toInt = 0 := by decide +kernel
  have k_1 : (1 : Int32).toInt = 1 := by decide +kernel
  refine ok_itr2 (fun (n : Nat) (x1_1 : Int32) (s_1 : Sto) => n = (41 - x1_1.toInt).toNat ∧ (0 ≤ x1_1.toInt ∧ x1_1.toInt ≤ 40) ∧ (BX s_1) ∧ (FR [41] [] σ s_1)) ?_ (n := _) ⟨rfl, (by omega), hB, hF⟩ (show _ < 10000000 by omega)
  intro a_2 n x1_1 s_1 hI ih_a_2
  obtain ⟨hn_a_2, b_x1_1, hB_s_1, hF_s_1⟩ := hI
  have g_2 := gX_20 hB_s_1 0
  have g_3 : (s_1.1 20 0).toInt = (σ.1 20 0).toInt := by rw [hF_s_1.1 20 (by decide)]
  have g_4 := gX_20 hB 0
  refine ok_ite (fun c_1 => ?_) (fun c_1 => ?_)
  · rw [fa_le] at c_1
    exact ok_ret ⟨hB_s_1, hF_s_1⟩
  · rw [fa_le] at c_1
    refine ok_ix ⟨by omega, by omega⟩ ?_
    refine ok_lt fun s_3 e_s_3 => ?_
    have hB_s_3 : BX s_3 := by rw [e_s_3]; exact pX_41 hB_s_1 (by omega)
    have hF_s_3 : FR [41] [] σ s_3 := by rw [e_s_3]; exact FR.st hF_s_1 (by decide)
    refine ok_ix ⟨by omega, by omega⟩ ?_
    refine ok_lt fun v_4 e_v_4 => ?_
    refine ok_calp (s_J13_bitCount_95d88 (x1 := v_4) ) (fun v_5 h_5 => ?_)
    obtain ⟨b_v_5, x_v_5⟩ := h_5
    (try dsimp only at b_v_5 x_v_5)
    obtain ⟨t_6, ht_6, g_6⟩ : ∃ t : Int, (v_5 - 1).toInt = t ∧ t = v_5.toInt - (1 : Int32).toInt := ⟨_, rfl, by have h9 := fb_subI (x := v_5) (y := (1 : Int32)) (by omega) (by omega); exact h9⟩
    refine ok_lt fun x2_6 e_x2_6 => ?_
    have q_x2_6 : x2_6.toInt = t_6 := by rw [e_x2_6]; exact ht_6
    refine ok_itr2 (fun (n : Nat) (x3_7 : Int32) (s_7 : Sto) => n = (41 - x3_7.toInt).toNat ∧ (0 ≤ x3_7.toInt ∧ x3_7.toInt ≤ 40) ∧ (BX s_7) ∧ (FR [41] [] σ s_7)) ?_ (n := _) ⟨rfl, (by omega), hB_s_3, hF_s_3⟩ (show _ < 10000000 by omega)
    intro a_34 n x3_7 s_7 hI ih_a_34
    obtain ⟨hn_a_34, b_x3_7, hB_s_7, hF_s_7⟩ := hI
    have g_8 := gX_20 hB_s_7 0
    have g_9 : (s_7.1 20 0).toInt = (σ.1 20 0).toInt := by rw [hF_s_7.1 20 (by decide)]
    refine ok_ite (fun c_7 => ?_) (fun c_7 => ?_)
    · rw [fa_le] at c_7
      obtain ⟨t_10, ht_10, g_10⟩ : ∃ t : Int, (x1_1 + 1).toInt = t ∧ t = x1_1.toInt + (1 : Int32).toInt := ⟨_, rfl, by have h9 := fb_addI (x := x1_1) (y := (1 : Int32)) (by omega) (by omega); exact h9⟩
      refine ok_lt fun x1_9 e_x1_9 => ?_
      have q_x1_9 : x1_9.toInt = t_10 := by rw [e_x1_9]; exact ht_10
      exact ih_a_2 _ x1_9 s_7 (by rw [hn_a_2]; omega) ⟨rfl, (by omega), hB_s_7, hF_s_7⟩
    · rw [fa_le] at c_7
      refine ok_jn ?_
      refine ok_ite (fun c_11 => ?_) (fun c_11 => ?_)
      · rw [fa_eq] at c_11
        obtain ⟨t_12, ht_12, g_12⟩ : ∃ t : Int, (x3_7 + 1).toInt = t ∧ t = x3_7.toInt + (1 : Int32).toInt := ⟨_, rfl, by have h9 := fb_addI (x := x3_7) (y := (1 : Int32)) (by omega) (by omega); exact h9⟩
        refine ok_lt fun x3_11 e_x3_11 => ?_
        have q_x3_11 : x3_11.toInt = t_12 := by rw [e_x3_11]; exact ht_12
        exact ih_a_34 _ x3_11 s_7 (by rw [hn_a_34]; omega) ⟨rfl, (by omega), hB_s_7, hF_s_7⟩
      · rw [fa_eq] at c_11
        refine ok_ix ⟨by omega, by omega⟩ ?_
        refine ok_lt fun v_13 e_v_13 => ?_
        refine ok_calp (s_X11_isIn (x1 := v_13) (x2 := x3_7) ) (fun v_14 h_13 => ?_)
        obtain ⟨b_v_14, x_v_14⟩ := h_13
        (try dsimp only at b_v_14 x_v_14)
        refine ok_ite (fun c_14 => ?_) (fun c_14 => ?_)
        · rw [fa_eq] at c_14
          obtain ⟨t_15, ht_15, g_15⟩ : ∃ t : Int, (x3_7 + 1).toInt = t ∧ t = x3_7.toInt + (1 : Int32).toInt := ⟨_, rfl, by have h9 := fb_addI (x := x3_7) (y := (1 : Int32)) (by omega) (by omega); exact h9⟩
          refine ok_lt fun x3_11 e_x3_11 => ?_
          have q_x3_11 : x3_11.toInt = t_15 := by rw [e_x3_11]; exact ht_15
          exact ih_a_34 _ x3_11 s_7 (by rw [hn_a_34]; omega) ⟨rfl, (by omega), hB_s_7, hF_s_7⟩
        · rw [fa_eq] at c_14
          refine ok_ix ⟨by omega, by omega⟩ ?_
          refine ok_lt fun v_16 e_v_16 => ?_
          refine ok_calp (s_J13_bitCount_95d88 (x1 := v_16) ) (fun v_17 h_16 => ?_)
          obtain ⟨b_v_17, x_v_17⟩ := h_16
          (try dsimp only at b_v_17 x_v_17)
          refine ok_ite (fun c_17 => ?_) (fun c_17 => ?_)
          · rw [fa_eq] at c_17
            refine ok_ix ⟨by omega, by omega⟩ ?_
            refine ok_lt fun s_19 e_s_19 => ?_
            have hB_s_19 : BX s_19 := by rw [e_s_19]; exact pX_41 hB_s_7 (by omega)
            have hF_s_19 : FR [41] [] σ s_19 := by rw [e_s_19]; exact FR.st hF_s_7 (by decide)
            obtain ⟨t_18, ht_18, g_18⟩ : ∃ t : Int, (x3_7 + 1).toInt = t ∧ t = x3_7.toInt + (1 : Int32).toInt := ⟨_, rfl, by have h9 := fb_addI (x := x3_7) (y := (1 : Int32)) (by omega) (by omega); exact h9⟩
            refine ok_lt fun x3_11 e_x3_11 => ?_
            have q_x3_11 : x3_11.toInt = t_18 := by rw [e_x3_11]; exact ht_18
            exact ih_a_34 _ x3_11 s_19 (by rw [hn_a_34]; omega) ⟨rfl, (by omega), hB_s_19, hF_s_19⟩
          · rw [fa_eq] at c_17
            obtain ⟨t_19, ht_19, g_19⟩ : ∃ t : Int, (x3_7 + 1).toInt = t ∧ t = x3_7.toInt + (1 : Int32).toInt := ⟨_, rfl, by have h9 := fb_addI (x := x3_7) (y := (1 : Int32)) (by omega) (by omega); exact h9⟩
            refine ok_lt fun x3_11 e_x3_11 => ?_
            have q_x3_11 : x3_11.toInt = t_19 := by rw [e_x3_11]; exact ht_19
            exact ih_a_34 _ x3_11 s_7 (by rw [hn_a_34]; omega) ⟨rfl, (by omega), hB_s_7, hF_s_7⟩

set_option maxHeartbeats 4000000 in
theorem s_X8_comingBack {x1 : Int32} {x2 : Int32} {σ : Sto} (hB : BX σ) (p_x1 : 0 ≤ x1.toInt ∧ x1.toInt ≤ 39) (p_x2 : 0 ≤ x2.toInt ∧ x2.toInt ≤ 39) : OK (f_X8_comingBack x1 x2 σ) (fun v => True) := by
  unfold f_X8_comingBack
  have hF : FR [] [] σ σ := FR.rf
  have k_0 : (0 : Int32).toInt = 0 := by decide +kernel
  have k_1 : (1 : Int32).toInt = 1 := by decide +kernel
  refine ok_lt fun x3_1 e_x3_1 => ?_
  refine ok_itr3 (fun (n : Nat) (x3_2 : Int64) (x5_2 : Int64) (x7_2 : Int32) => n = (42 - x7_2.toInt).toNat ∧ (0 ≤ x7_2.toInt ∧ x7_2.toInt ≤ 41)) ?_ (n := _) ⟨rfl, (by omega)⟩ (show _ < 10000000 by omega)
  intro a_14 n x3_2 x5_2 x7_2 hI ih_a_14
  obtain ⟨hn_a_14, b_x7_2⟩ := hI
  have g_2 := gX_20 hB 0
  refine ok_ite (fun c_1 => ?_) (fun c_1 => ?_)
  · rw [fa_lt] at c_1
    exact ok_ret trivial
  · rw [fa_lt] at c_1
    obtain ⟨t_4, ht_4, g_4⟩ : ∃ t : Int, (lg_cmp x5_2 x3_2).toInt = t ∧ -2147483648 ≤ t ∧ t ≤ 2147483647 := ⟨_, rfl, tI_rng _⟩
    refine ok_ite (fun c_3 => ?_) (fun c_3 => ?_)
    · rw [lg_cmp_eq] at c_3
      exact ok_ret trivial
    · rw [lg_cmp_eq] at c_3
      refine ok_itr2 (fun (n : Nat) (x3_5 : Int64) (x8_5 : Int32) => n = (41 - x8_5.toInt).toNat ∧ (0 ≤ x8_5.toInt ∧ x8_5.toInt ≤ 40)) ?_ (n := _) ⟨rfl, (by omega)⟩ (show _ < 10000000 by omega)
      intro a_39 n x3_5 x8_5 hI ih_a_39
      obtain ⟨hn_a_39, b_x8_5⟩ := hI
      refine ok_ite (fun c_5 => ?_) (fun c_5 => ?_)
      · rw [fa_le] at c_5
        obtain ⟨t_6, ht_6, g_6⟩ : ∃ t : Int, (x7_2 + 1).toInt = t ∧ t = x7_2.toInt + (1 : Int32).toInt := ⟨_, rfl, by have h9 := fb_addI (x := x7_2) (y := (1 : Int32)) (by omega) (by omega); exact h9⟩
        refine ok_lt fun x7_7 e_x7_7 => ?_
        have q_x7_7 : x7_7.toInt = t_6 := by rw [e_x7_7]; exact ht_6
        exact ih_a_14 _ x3_5 x3_2 x7_7 (by rw [hn_a_14]; omega) ⟨rfl, (by omega)⟩
      · rw [fa_le] at c_5
        refine ok_jn ?_
        refine ok_ite (fun c_7 => ?_) (fun c_7 => ?_)
        · rw [fa_eq] at c_7
          obtain ⟨t_8, ht_8, g_8⟩ : ∃ t : Int, (x8_5 + 1).toInt = t ∧ t = x8_5.toInt + (1 : Int32).toInt := ⟨_, rfl, by have h9 := fb_addI (x := x8_5) (y := (1 : Int32)) (by omega) (by omega); exact h9⟩
          refine ok_lt fun x8_9 e_x8_9 => ?_
          have q_x8_9 : x8_9.toInt = t_8 := by rw [e_x8_9]; exact ht_8
          exact ih_a_39 _ x3_5 x8_9 (by rw [hn_a_39]; omega) ⟨rfl, (by omega)⟩
        · rw [fa_eq] at c_7
          refine ok_calp (s_X11_isIn (x1 := x3_5) (x2 := x8_5) ) (fun v_11 h_9 => ?_)
          obtain ⟨b_v_11, x_v_11⟩ := h_9
          (try dsimp only at b_v_11 x_v_11)
          refine ok_ite (fun c_10 => ?_) (fun c_10 => ?_)
          · rw [fa_eq] at c_10
            obtain ⟨t_11, ht_11, g_11⟩ : ∃ t : Int, (x8_5 + 1).toInt = t ∧ t = x8_5.toInt + (1 : Int32).toInt := ⟨_, rfl, by have h9 := fb_addI (x := x8_5) (y := (1 : Int32)) (by omega) (by omega); exact h9⟩
            refine ok_lt fun x8_9 e_x8_9 => ?_
            have q_x8_9 : x8_9.toInt = t_11 := by rw [e_x8_9]; exact ht_11
            exact ih_a_39 _ x3_5 x8_9 (by rw [hn_a_39]; omega) ⟨rfl, (by omega)⟩
          · rw [fa_eq] at c_10
            refine ok_ix ⟨by omega, by omega⟩ ?_
            refine ok_lt fun v_13 e_v_13 => ?_
            refine ok_lt fun x3_14 e_x3_14 => ?_
            obtain ⟨t_12, ht_12, g_12⟩ : ∃ t : Int, (x8_5 + 1).toInt = t ∧ t = x8_5.toInt + (1 : Int32).toInt := ⟨_, rfl, by have h9 := fb_addI (x := x8_5) (y := (1 : Int32)) (by omega) (by omega); exact h9⟩
            refine ok_lt fun x8_9 e_x8_9 => ?_
            have q_x8_9 : x8_9.toInt = t_12 := by rw [e_x8_9]; exact ht_12
            exact ih_a_39 _ x3_14 x8_9 (by rw [hn_a_39]; omega) ⟨rfl, (by omega)⟩

set_option maxHeartbeats 4000000 in
theorem s_X8_findLoops {σ : Sto} (hB : BX σ) : OK (f_X8_findLoops σ) (fun s => BX s ∧ FR [] [2, 3] σ s) := by
  unfold f_X8_findLoops
  have hF : FR [] [2, 3] σ σ := FR.rf
  have k_0 : (0 : Int32).toInt = 0 := by decide +kernel
  have k_1 : (1 : Int32).toInt = 1 := by decide +kernel
  refine ok_lt fun s_1 e_s_1 => ?_
  have hB_s_1 : BX s_1 := by rw [e_s_1]; exact BD.stl hB
  have hF_s_1 : FR [] [2, 3] σ s_1 := by rw [e_s_1]; exact FR.stl hF (by decide)
  refine ok_itr2 (fun (n : Nat) (x1_2 : Int32) (s_2 : Sto) => n = (41 - x1_2.toInt).toNat ∧ (0 ≤ x1_2.toInt ∧ x1_2.toInt ≤ 40) ∧ (BX s_2) ∧ (FR [] [2, 3] σ s_2)) ?_ (n := _) ⟨rfl, (by omega), hB_s_1, hF_s_1⟩ (show _ < 10000000 by omega)
  intro a_7 n x1_2 s_2 hI ih_a_7
  obtain ⟨hn_a_7, b_x1_2, hB_s_2, hF_s_2⟩ := hI
  have g_2 := gX_20 hB_s_2 0
  have g_3 : (s_2.1 20 0).toInt = (σ.1 20 0).toInt := by rw [hF_s_2.1 20 (by decide)]
  have g_4 := gX_20 hB 0
  refine ok_ite (fun c_1 => ?_) (fun c_1 => ?_)
  · rw [fa_le] at c_1
    refine ok_itr2 (fun (n : Nat) (x1_4 : Int32) (s_4 : Sto) => n = (121 - x1_4.toInt).toNat ∧ (0 ≤ x1_4.toInt ∧ x1_4.toInt ≤ 120) ∧ (BX s_4) ∧ (FR [] [2, 3] σ s_4)) ?_ (n := _) ⟨rfl, (by omega), hB_s_2, hF_s_2⟩ (show _ < 10000000 by omega)
    intro a_33 n x1_4 s_4 hI ih_a_33
    obtain ⟨hn_a_33, b_x1_4, hB_s_4, hF_s_4⟩ := hI
    have g_6 := gX_27 hB_s_4 0
    have g_7 : (s_4.1 27 0).toInt = (σ.1 27 0).toInt := by rw [hF_s_4.1 27 (by decide)]
    have g_8 := gX_27 hB 0
    refine ok_ite (fun c_5 => ?_) (fun c_5 => ?_)
    · rw [fa_le] at c_5
      exact ok_ret ⟨hB_s_4, hF_s_4⟩
    · rw [fa_le] at c_5
      refine ok_ix ⟨by omega, by omega⟩ ?_
      have g_9 := gX_38 hB_s_4 (x1_4.toNatClampNeg)
      refine ok_lt fun v_6 e_v_6 => ?_
      have b_v_6 : 0 ≤ v_6.toInt ∧ v_6.toInt ≤ 1 := by rw [e_v_6]; exact gX_38 hB_s_4 _
      refine ok_jn ?_
      refine ok_ite (fun c_10 => ?_) (fun c_10 => ?_)
      · rw [fa_eq] at c_10
        obtain ⟨t_11, ht_11, g_11⟩ : ∃ t : Int, (x1_4 + 1).toInt = t ∧ t = x1_4.toInt + (1 : Int32).toInt := ⟨_, rfl, by have h9 := fb_addI (x := x1_4) (y := (1 : Int32)) (by omega) (by omega); exact h9⟩
        refine ok_lt fun x1_8 e_x1_8 => ?_
        have q_x1_8 : x1_8.toInt = t_11 := by rw [e_x1_8]; exact ht_11
        exact ih_a_33 _ x1_8 s_4 (by rw [hn_a_33]; omega) ⟨rfl, (by omega), hB_s_4, hF_s_4⟩
      · rw [fa_eq] at c_10
        refine ok_ix ⟨by omega, by omega⟩ ?_
        have g_12 := gX_37 hB_s_4 (x1_4.toNatClampNeg)
        refine ok_lt fun v_10 e_v_10 => ?_
        have b_v_10 : 0 ≤ v_10.toInt ∧ v_10.toInt ≤ 1 := by rw [e_v_10]; exact gX_37 hB_s_4 _
        refine ok_ite (fun c_13 => ?_) (fun c_13 => ?_)
        · rw [fa_eq] at c_13
          refine ok_ix ⟨by omega, by omega⟩ ?_
          have g_14 := gX_30 hB_s_4 (x1_4.toNatClampNeg)
          refine ok_lt fun v_12 e_v_12 => ?_
          have b_v_12 : 0 ≤ v_12.toInt ∧ v_12.toInt ≤ 39 := by rw [e_v_12]; exact gX_30 hB_s_4 _
          refine ok_lt fun s_13 e_s_13 => ?_
          have hB_s_13 : BX s_13 := by rw [e_s_13]; exact BD.stl hB_s_4
          have hF_s_13 : FR [] [2, 3] σ s_13 := by rw [e_s_13]; exact FR.stl hF_s_4 (by decide)
          refine ok_ix ⟨by omega, by omega⟩ ?_
          refine ok_lt fun v_14 e_v_14 => ?_
          refine ok_ix ⟨by omega, by omega⟩ ?_
          have g_15 := gX_29 hB_s_13 (x1_4.toNatClampNeg)
          refine ok_lt fun v_15 e_v_15 => ?_
          have b_v_15 : 0 ≤ v_15.toInt ∧ v_15.toInt ≤ 39 := by rw [e_v_15]; exact gX_29 hB_s_13 _
          refine ok_calp (s_X8_comingBack (x1 := v_12) (x2 := v_15) (σ := s_13) hB_s_13 (by omega) (by omega)) (fun v_16 h_16 => ?_)
          refine ok_ix ⟨by omega, by omega⟩ ?_
          refine ok_lt fun s_17 e_s_17 => ?_
          have hB_s_17 : BX s_17 := by rw [e_s_17]; exact BD.stl hB_s_13
          have hF_s_17 : FR [] [2, 3] σ s_17 := by rw [e_s_17]; exact FR.stl hF_s_13 (by decide)
          obtain ⟨t_17, ht_17, g_17⟩ : ∃ t : Int, (x1_4 + 1).toInt = t ∧ t = x1_4.toInt + (1 : Int32).toInt := ⟨_, rfl, by have h9 := fb_addI (x := x1_4) (y := (1 : Int32)) (by omega) (by omega); exact h9⟩
          refine ok_lt fun x1_8 e_x1_8 => ?_
          have q_x1_8 : x1_8.toInt = t_17 := by rw [e_x1_8]; exact ht_17
          exact ih_a_33 _ x1_8 s_17 (by rw [hn_a_33]; omega) ⟨rfl, (by omega), hB_s_17, hF_s_17⟩
        · rw [fa_eq] at c_13
          obtain ⟨t_18, ht_18, g_18⟩ : ∃ t : Int, (x1_4 + 1).toInt = t ∧ t = x1_4.toInt + (1 : Int32).toInt := ⟨_, rfl, by have h9 := fb_addI (x := x1_4) (y := (1 : Int32)) (by omega) (by omega); exact h9⟩
          refine ok_lt fun x1_8 e_x1_8 => ?_
          have q_x1_8 : x1_8.toInt = t_18 := by rw [e_x1_8]; exact ht_18
          exact ih_a_33 _ x1_8 s_4 (by rw [hn_a_33]; omega) ⟨rfl, (by omega), hB_s_4, hF_s_4⟩
  · rw [fa_le] at c_1
    refine ok_ix ⟨by omega, by omega⟩ ?_
    refine ok_lt fun s_18 e_s_18 => ?_
    have hB_s_18 : BX s_18 := by rw [e_s_18]; exact BD.stl hB_s_2
    have hF_s_18 : FR [] [2, 3] σ s_18 := by rw [e_s_18]; exact FR.stl hF_s_2 (by decide)
    obtain ⟨t_19, ht_19, g_19⟩ : ∃ t : Int, (x1_2 + 1).toInt = t ∧ t = x1_2.toInt + (1 : Int32).toInt := ⟨_, rfl, by have h9 := fb_addI (x := x1_2) (y := (1 : Int32)) (by omega) (by omega); exact h9⟩
    refine ok_lt fun x1_19 e_x1_19 => ?_
    have q_x1_19 : x1_19.toInt = t_19 := by rw [e_x1_19]; exact ht_19
    exact ih_a_7 _ x1_19 s_18 (by rw [hn_a_7]; omega) ⟨rfl, (by omega), hB_s_18, hF_s_18⟩

set_option maxHeartbeats 4000000 in
theorem s_X8_findMerges {σ : Sto} (hB : BX σ) (hEB : EB σ) : OK (f_X8_findMerges σ) (fun s => BX s ∧ FR [] [4] σ s ∧ MB s) := by
  unfold f_X8_findMerges
  have hF : FR [] [4] σ σ := FR.rf
  have k_0 : (0 : Int32).toInt = 0 := by decide +kernel
  have k_1 : (1 : Int32).toInt = 1 := by decide +kernel
  have g27 := gX_27 hB 0
  have g20 := gX_20 hB 0
  refine ok_lt fun s_1 e_s_1 => ?_
  have hB_s_1 : BX s_1 := by rw [e_s_1]; exact BD.stl hB
  have hF_s_1 : FR [] [4] σ s_1 := by rw [e_s_1]; exact FR.stl hF (by decide)
  have f_s_1_20 : (s_1.1 20 0).toInt = (σ.1 20 0).toInt := by rw [hF_s_1.1 20 (by decide)]
  have f_s_1_27 : (s_1.1 27 0).toInt = (σ.1 27 0).toInt := by rw [hF_s_1.1 27 (by decide)]
  have hEB_s_1 : EB s_1 := by rw [e_s_1]; exact EB.st2 (by decide) hEB
  refine ok_itr3 (fun (n : Nat) (x1_2 : Int64) (x3_2 : Int32) (s_2 : Sto) => n = (121 - x3_2.toInt).toNat ∧ (0 ≤ x3_2.toInt ∧ x3_2.toInt ≤ 120) ∧ (BX s_2) ∧ (FR [] [4] σ s_2) ∧ (EB s_2) ∧ (∀ i : Nat, bL (s_2.2 4 0) i = true → (i : Int) < (σ.1 20 0).toInt) ∧ (∀ i : Nat, bL x1_2 i = true → (i : Int) < (σ.1 20 0).toInt)) ?_ (n := _) ⟨rfl, (by omega), hB_s_1, hF_s_1, hEB_s_1, (fun i hi => by rw [e_s_1, stl_s, bL_0] at hi; exact absurd hi (by decide)), (fun i hi => by rw [bL_0] at hi; exact absurd hi (by decide))⟩ (show _ < 10000000 by omega)
  intro a_9 n x1_2 x3_2 s_2 hI ih_a_9
  obtain ⟨hn_a_9, b_x3_2, hB_s_2, hF_s_2, hEB_s_2, hm, hx⟩ := hI
  have f_s_2_20 : (s_2.1 20 0).toInt = (σ.1 20 0).toInt := by rw [hF_s_2.1 20 (by decide)]
  have f_s_2_27 : (s_2.1 27 0).toInt = (σ.1 27 0).toInt := by rw [hF_s_2.1 27 (by decide)]
  have g_2 := gX_27 hB_s_2 0
  have g_3 : (s_2.1 27 0).toInt = (σ.1 27 0).toInt := by rw [hF_s_2.1 27 (by decide)]
  have g_4 := gX_27 hB 0
  refine ok_ite (fun c_1 => ?_) (fun c_1 => ?_)
  · rw [fa_le] at c_1
    have hMB_s_2 : MB s_2 := fun i hi => by rw [hF_s_2.1 20 (by decide)]; exact hm i hi
    exact ok_ret ⟨hB_s_2, hF_s_2, hMB_s_2⟩
  · rw [fa_le] at c_1
    refine ok_ix ⟨by omega, by omega⟩ ?_
    have g_5 := gX_30 hB_s_2 (x3_2.toNatClampNeg)
    refine ok_lt fun v_4 e_v_4 => ?_
    have b_v_4 : 0 ≤ v_4.toInt ∧ v_4.toInt ≤ 39 := by rw [e_v_4]; exact gX_30 hB_s_2 _
    have y4 : v_4.toInt < (σ.1 20 0).toInt := by have q := hEB_s_2.2.2.2 x3_2.toNatClampNeg (by have := clamp_I (x := x3_2) (by omega); omega); rw [← e_v_4] at q; omega
    refine ok_lt fun x4_5 e_x4_5 => ?_
    have b5 : ∀ i : Nat, bL x4_5 i = true → (i : Int) < (σ.1 20 0).toInt := fun i hi => by rw [e_x4_5, bL_one (by omega) (by omega)] at hi; simp at hi; have := clamp_I (x := v_4) (by omega); omega
    refine ok_ix ⟨by omega, by omega⟩ ?_
    have g_6 := gX_31 hB_s_2 (x3_2.toNatClampNeg)
    refine ok_lt fun v_6 e_v_6 => ?_
    have b_v_6 : 0 ≤ v_6.toInt ∧ v_6.toInt ≤ 1 := by rw [e_v_6]; exact gX_31 hB_s_2 _
    refine ok_jnI1 (fun (s_7 : Sto) => True ∧ (BX s_7) ∧ (FR [] [4] σ s_7) ∧ (EB s_7) ∧ (∀ i : Nat, bL (s_7.2 4 0) i = true → (i : Int) < (σ.1 20 0).toInt)) ?_ ?_
    · intro s_7 hJ
      obtain ⟨-, hB_s_7, hF_s_7, hEB_s_7, jm7⟩ := hJ
      have f_s_7_20 : (s_7.1 20 0).toInt = (σ.1 20 0).toInt := by rw [hF_s_7.1 20 (by decide)]
      have f_s_7_27 : (s_7.1 27 0).toInt = (σ.1 27 0).toInt := by rw [hF_s_7.1 27 (by decide)]
      refine ok_ix ⟨by omega, by omega⟩ ?_
      have g_7 := gX_37 hB_s_7 (x3_2.toNatClampNeg)
      refine ok_lt fun v_8 e_v_8 => ?_
      have b_v_8 : 0 ≤ v_8.toInt ∧ v_8.toInt ≤ 1 := by rw [e_v_8]; exact gX_37 hB_s_7 _
      refine ok_jnI2 (fun (x1_9 : Int64) (s_9 : Sto) => True ∧ (BX s_9) ∧ (FR [] [4] σ s_9) ∧ (EB s_9) ∧ (∀ i : Nat, bL (s_9.2 4 0) i = true → (i : Int) < (σ.1 20 0).toInt) ∧ (∀ i : Nat, bL x1_9 i = true → (i : Int) < (σ.1 20 0).toInt)) ?_ ?_
      · intro x1_9 s_9 hJ
        obtain ⟨-, hB_s_9, hF_s_9, hEB_s_9, jm9, jx9⟩ := hJ
        have f_s_9_20 : (s_9.1 20 0).toInt = (σ.1 20 0).toInt := by rw [hF_s_9.1 20 (by decide)]
        have f_s_9_27 : (s_9.1 27 0).toInt = (σ.1 27 0).toInt := by rw [hF_s_9.1 27 (by decide)]
        obtain ⟨t_8, ht_8, g_8⟩ : ∃ t : Int, (x3_2 + 1).toInt = t ∧ t = x3_2.toInt + (1 : Int32).toInt := ⟨_, rfl, by have h9 := fb_addI (x := x3_2) (y := (1 : Int32)) (by omega) (by omega); exact h9⟩
        refine ok_lt fun x3_10 e_x3_10 => ?_
        have q_x3_10 : x3_10.toInt = t_8 := by rw [e_x3_10]; exact ht_8
        exact ih_a_9 _ x1_9 x3_10 s_9 (by rw [hn_a_9]; omega) ⟨rfl, (by omega), hB_s_9, hF_s_9, hEB_s_9, jm9, jx9⟩
      · intro k_92 hk_k_92
        refine ok_ite (fun c_9 => ?_) (fun c_9 => ?_)
        · rw [fa_eq] at c_9
          refine ok_ix ⟨by omega, by omega⟩ ?_
          have g_10 := gX_38 hB_s_7 (x3_2.toNatClampNeg)
          refine ok_lt fun v_12 e_v_12 => ?_
          have b_v_12 : 0 ≤ v_12.toInt ∧ v_12.toInt ≤ 1 := by rw [e_v_12]; exact gX_38 hB_s_7 _
          refine ok_ite (fun c_11 => ?_) (fun c_11 => ?_)
          · rw [fa_eq] at c_11
            refine ok_lt fun s_14 e_s_14 => ?_
            have hB_s_14 : BX s_14 := by rw [e_s_14]; exact BD.stl hB_s_7
            have hF_s_14 : FR [] [4] σ s_14 := by rw [e_s_14]; exact FR.stl hF_s_7 (by decide)
            have f_s_14_20 : (s_14.1 20 0).toInt = (σ.1 20 0).toInt := by rw [hF_s_14.1 20 (by decide)]
            have f_s_14_27 : (s_14.1 27 0).toInt = (σ.1 27 0).toInt := by rw [hF_s_14.1 27 (by decide)]
            have hEB_s_14 : EB s_14 := by rw [e_s_14]; exact EB.st2 (by decide) hEB_s_7
            refine ok_lt fun x1_15 e_x1_15 => ?_
            exact hk_k_92 x1_15 s_14 ⟨trivial, hB_s_14, hF_s_14, hEB_s_14, (fun i hi => by rw [e_s_14, stl_s, bL_or, bL_and] at hi; simp at hi; rcases hi with q | q; exact jm7 i q; exact hx i q.1), (fun i hi => by rw [e_x1_15, bL_or] at hi; simp at hi; rcases hi with q | q; exact hx i q; exact b5 i q)⟩
          · rw [fa_eq] at c_11
            exact hk_k_92 x1_2 s_7 ⟨trivial, hB_s_7, hF_s_7, hEB_s_7, jm7, hx⟩
        · rw [fa_eq] at c_9
          exact hk_k_92 x1_2 s_7 ⟨trivial, hB_s_7, hF_s_7, hEB_s_7, jm7, hx⟩
    · intro k_56 hk_k_56
      refine ok_ite (fun c_12 => ?_) (fun c_12 => ?_)
      · rw [fa_eq] at c_12
        exact hk_k_56 s_2 ⟨trivial, hB_s_2, hF_s_2, hEB_s_2, hm⟩
      · rw [fa_eq] at c_12
        refine ok_lt fun s_17 e_s_17 => ?_
        have hB_s_17 : BX s_17 := by rw [e_s_17]; exact BD.stl hB_s_2
        have hF_s_17 : FR [] [4] σ s_17 := by rw [e_s_17]; exact FR.stl hF_s_2 (by decide)
        have f_s_17_20 : (s_17.1 20 0).toInt = (σ.1 20 0).toInt := by rw [hF_s_17.1 20 (by decide)]
        have f_s_17_27 : (s_17.1 27 0).toInt = (σ.1 27 0).toInt := by rw [hF_s_17.1 27 (by decide)]
        have hEB_s_17 : EB s_17 := by rw [e_s_17]; exact EB.st2 (by decide) hEB_s_2
        exact hk_k_56 s_17 ⟨trivial, hB_s_17, hF_s_17, hEB_s_17, (fun i hi => by rw [e_s_17, stl_s, bL_or] at hi; simp at hi; rcases hi with q | q; exact hm i q; exact b5 i q)⟩

set_option maxHeartbeats 4000000 in
theorem s_X8_findCandidates {σ : Sto} (hB : BX σ) : OK (f_X8_findCandidates σ) (fun s => BX s ∧ FR [44, 45] [] σ s) := by
  unfold f_X8_findCandidates
  have hF : FR [44, 45] [] σ σ := FR.rf
  have k_0 : (0 : Int32).toInt = 0 := by decide +kernel
  have k_1 : (1 : Int32).toInt = 1 := by decide +kernel
  have k_2 : (2 : Int32).toInt = 2 := by decide +kernel
  refine ok_lt fun s_1 e_s_1 => ?_
  have hB_s_1 : BX s_1 := by rw [e_s_1]; exact pX_45 hB (by omega)
  have hF_s_1 : FR [44, 45] [] σ s_1 := by rw [e_s_1]; exact FR.st hF (by decide)
  have w_s_1_45 : (s_1.1 45 0).toInt = (0 : Int32).toInt := by rw [e_s_1, sti_s]
  refine ok_itr2 (fun (n : Nat) (x1_2 : Int32) (s_2 : Sto) => n = (121 - x1_2.toInt).toNat ∧ (0 ≤ x1_2.toInt ∧ x1_2.toInt ≤ 120) ∧ (BX s_2) ∧ (FR [44, 45] [] σ s_2) ∧ ((s_2.1 45 0).toInt ≤ x1_2.toInt)) ?_ (n := _) ⟨rfl, (by omega), hB_s_1, hF_s_1, (by omega)⟩ (show _ < 10000000 by omega)
  intro a_7 n x1_2 s_2 hI ih_a_7
  obtain ⟨hn_a_7, b_x1_2, hB_s_2, hF_s_2, hle⟩ := hI
  have g_2 := gX_27 hB_s_2 0
  have g_3 : (s_2.1 27 0).toInt = (σ.1 27 0).toInt := by rw [hF_s_2.1 27 (by decide)]
  have g_4 := gX_27 hB 0
  refine ok_ite (fun c_1 => ?_) (fun c_1 => ?_)
  · rw [fa_le] at c_1
    exact ok_ret ⟨hB_s_2, hF_s_2⟩
  · rw [fa_le] at c_1
    refine ok_ix ⟨by omega, by omega⟩ ?_
    have g_5 := gX_30 hB_s_2 (x1_2.toNatClampNeg)
    refine ok_lt fun v_4 e_v_4 => ?_
    have b_v_4 : 0 ≤ v_4.toInt ∧ v_4.toInt ≤ 39 := by rw [e_v_4]; exact gX_30 hB_s_2 _
    refine ok_ix ⟨by omega, by omega⟩ ?_
    refine ok_lt fun v_5 e_v_5 => ?_
    refine ok_calp (s_J13_bitCount_95d88 (x1 := v_5) ) (fun v_6 h_6 => ?_)
    obtain ⟨b_v_6, x_v_6⟩ := h_6
    (try dsimp only at b_v_6 x_v_6)
    refine ok_jn ?_
    refine ok_ite (fun c_7 => ?_) (fun c_7 => ?_)
    · rw [fa_le] at c_7
      refine ok_ix ⟨by omega, by omega⟩ ?_
      have g_8 := gX_31 hB_s_2 (x1_2.toNatClampNeg)
      refine ok_lt fun v_8 e_v_8 => ?_
      have b_v_8 : 0 ≤ v_8.toInt ∧ v_8.toInt ≤ 1 := by rw [e_v_8]; exact gX_31 hB_s_2 _
      refine ok_jn ?_
      refine ok_ite (fun c_9 => ?_) (fun c_9 => ?_)
      · rw [fa_eq] at c_9
        refine ok_calp (s_X8_isBack (x1 := x1_2) (σ := s_2) hB_s_2 (by omega)) (fun v_12 h_10 => ?_)
        have b_v_12 := h_10
        (try dsimp only at b_v_12)
        refine ok_ite (fun c_11 => ?_) (fun c_11 => ?_)
        · rw [fa_eq] at c_11
          refine ok_ite (fun c_12 => ?_) (fun c_12 => ?_)
          · rw [fa_eq] at c_12
            have g_13 := gX_45 hB_s_2 0
            refine ok_ix ⟨by omega, by omega⟩ ?_
            refine ok_lt fun s_15 e_s_15 => ?_
            have hB_s_15 : BX s_15 := by rw [e_s_15]; exact pX_44 hB_s_2 (by omega)
            have hF_s_15 : FR [44, 45] [] σ s_15 := by rw [e_s_15]; exact FR.st hF_s_2 (by decide)
            have w_s_15_45 : (s_15.1 45 0).toInt = (s_2.1 45 0).toInt := by rw [e_s_15]; rfl
            have g_14 := gX_45 hB_s_15 0
            obtain ⟨t_15, ht_15, g_15⟩ : ∃ t : Int, ((s_15.1 45 0) + 1).toInt = t ∧ t = (s_15.1 45 0).toInt + (1 : Int32).toInt := ⟨_, rfl, by have h9 := fb_addI (x := (s_15.1 45 0)) (y := (1 : Int32)) (by omega) (by omega); exact h9⟩
            refine ok_lt fun s_16 e_s_16 => ?_
            have hB_s_16 : BX s_16 := by rw [e_s_16]; exact pX_45 hB_s_15 (by rw [ht_15]; omega)
            have hF_s_16 : FR [44, 45] [] σ s_16 := by rw [e_s_16]; exact FR.st hF_s_15 (by decide)
            have w_s_16_45 : (s_16.1 45 0).toInt = t_15 := by rw [e_s_16, sti_s, ht_15]
            obtain ⟨t_16, ht_16, g_16⟩ : ∃ t : Int, (x1_2 + 1).toInt = t ∧ t = x1_2.toInt + (1 : Int32).toInt := ⟨_, rfl, by have h9 := fb_addI (x := x1_2) (y := (1 : Int32)) (by omega) (by omega); exact h9⟩
            refine ok_lt fun x1_10 e_x1_10 => ?_
            have q_x1_10 : x1_10.toInt = t_16 := by rw [e_x1_10]; exact ht_16
            exact ih_a_7 _ x1_10 s_16 (by rw [hn_a_7]; omega) ⟨rfl, (by omega), hB_s_16, hF_s_16, (by omega)⟩
          · rw [fa_eq] at c_12
            exfalso; omega
        · rw [fa_eq] at c_11
          obtain ⟨t_17, ht_17, g_17⟩ : ∃ t : Int, (x1_2 + 1).toInt = t ∧ t = x1_2.toInt + (1 : Int32).toInt := ⟨_, rfl, by have h9 := fb_addI (x := x1_2) (y := (1 : Int32)) (by omega) (by omega); exact h9⟩
          refine ok_lt fun x1_10 e_x1_10 => ?_
          have q_x1_10 : x1_10.toInt = t_17 := by rw [e_x1_10]; exact ht_17
          exact ih_a_7 _ x1_10 s_2 (by rw [hn_a_7]; omega) ⟨rfl, (by omega), hB_s_2, hF_s_2, (by omega)⟩
      · rw [fa_eq] at c_9
        obtain ⟨t_18, ht_18, g_18⟩ : ∃ t : Int, (x1_2 + 1).toInt = t ∧ t = x1_2.toInt + (1 : Int32).toInt := ⟨_, rfl, by have h9 := fb_addI (x := x1_2) (y := (1 : Int32)) (by omega) (by omega); exact h9⟩
        refine ok_lt fun x1_10 e_x1_10 => ?_
        have q_x1_10 : x1_10.toInt = t_18 := by rw [e_x1_10]; exact ht_18
        exact ih_a_7 _ x1_10 s_2 (by rw [hn_a_7]; omega) ⟨rfl, (by omega), hB_s_2, hF_s_2, (by omega)⟩
    · rw [fa_le] at c_7
      refine ok_ix ⟨by omega, by omega⟩ ?_
      have g_19 := gX_31 hB_s_2 (x1_2.toNatClampNeg)
      refine ok_lt fun v_8 e_v_8 => ?_
      have b_v_8 : 0 ≤ v_8.toInt ∧ v_8.toInt ≤ 1 := by rw [e_v_8]; exact gX_31 hB_s_2 _
      refine ok_jn ?_
      refine ok_ite (fun c_20 => ?_) (fun c_20 => ?_)
      · rw [fa_eq] at c_20
        refine ok_calp (s_X8_isBack (x1 := x1_2) (σ := s_2) hB_s_2 (by omega)) (fun v_12 h_21 => ?_)
        have b_v_12 := h_21
        (try dsimp only at b_v_12)
        refine ok_ite (fun c_22 => ?_) (fun c_22 => ?_)
        · rw [fa_eq] at c_22
          refine ok_ite (fun c_23 => ?_) (fun c_23 => ?_)
          · rw [fa_eq] at c_23
            exfalso; omega
          · rw [fa_eq] at c_23
            obtain ⟨t_24, ht_24, g_24⟩ : ∃ t : Int, (x1_2 + 1).toInt = t ∧ t = x1_2.toInt + (1 : Int32).toInt := ⟨_, rfl, by have h9 := fb_addI (x := x1_2) (y := (1 : Int32)) (by omega) (by omega); exact h9⟩
            refine ok_lt fun x1_10 e_x1_10 => ?_
            have q_x1_10 : x1_10.toInt = t_24 := by rw [e_x1_10]; exact ht_24
            exact ih_a_7 _ x1_10 s_2 (by rw [hn_a_7]; omega) ⟨rfl, (by omega), hB_s_2, hF_s_2, (by omega)⟩
        · rw [fa_eq] at c_22
          obtain ⟨t_25, ht_25, g_25⟩ : ∃ t : Int, (x1_2 + 1).toInt = t ∧ t = x1_2.toInt + (1 : Int32).toInt := ⟨_, rfl, by have h9 := fb_addI (x := x1_2) (y := (1 : Int32)) (by omega) (by omega); exact h9⟩
          refine ok_lt fun x1_10 e_x1_10 => ?_
          have q_x1_10 : x1_10.toInt = t_25 := by rw [e_x1_10]; exact ht_25
          exact ih_a_7 _ x1_10 s_2 (by rw [hn_a_7]; omega) ⟨rfl, (by omega), hB_s_2, hF_s_2, (by omega)⟩
      · rw [fa_eq] at c_20
        obtain ⟨t_26, ht_26, g_26⟩ : ∃ t : Int, (x1_2 + 1).toInt = t ∧ t = x1_2.toInt + (1 : Int32).toInt := ⟨_, rfl, by have h9 := fb_addI (x := x1_2) (y := (1 : Int32)) (by omega) (by omega); exact h9⟩
        refine ok_lt fun x1_10 e_x1_10 => ?_
        have q_x1_10 : x1_10.toInt = t_26 := by rw [e_x1_10]; exact ht_26
        exact ih_a_7 _ x1_10 s_2 (by rw [hn_a_7]; omega) ⟨rfl, (by omega), hB_s_2, hF_s_2, (by omega)⟩

set_option maxHeartbeats 4000000 in
theorem s_X8_oneJumpIsEnough {σ : Sto} (hB : BX σ) (hEB : EB σ) (hBV : BV σ) : OK (f_X8_oneJumpIsEnough σ) (fun r => (0 ≤ r.1.toInt ∧ r.1.toInt ≤ 1) ∧ BX r.2 ∧ FR [36, 37, 39, 40, 42, 43] [1, 5] σ r.2 ∧ BV r.2) := by
  unfold f_X8_oneJumpIsEnough
  have hF : FR [36, 37, 39, 40, 42, 43] [1, 5] σ σ := FR.rf
  have k_0 : (0 : Int32).toInt = 0 := by decide +kernel
  have k_1 : (1 : Int32).toInt = 1 := by decide +kernel
  refine ok_itr2 (fun (n : Nat) (x1_1 : Int32) (s_1 : Sto) => n = (121 - x1_1.toInt).toNat ∧ (0 ≤ x1_1.toInt ∧ x1_1.toInt ≤ 120) ∧ (BX s_1) ∧ (FR [36, 37, 39, 40, 42, 43] [1, 5] σ s_1) ∧ (EB s_1) ∧ (BV s_1)) ?_ (n := _) ⟨rfl, (by omega), hB, hF, hEB, hBV⟩ (show _ < 10000000 by omega)
  intro a_2 n x1_1 s_1 hI ih_a_2
  obtain ⟨hn_a_2, b_x1_1, hB_s_1, hF_s_1, hEB_s_1, hBV_s_1⟩ := hI
  have g_2 := gX_45 hB_s_1 0
  have g_3 : (s_1.1 45 0).toInt = (σ.1 45 0).toInt := by rw [hF_s_1.1 45 (by decide)]
  have g_4 := gX_45 hB 0
  refine ok_ite (fun c_1 => ?_) (fun c_1 => ?_)
  · rw [fa_le] at c_1
    exact ok_ret ⟨(by (try dsimp only); omega), hB_s_1, hF_s_1, hBV_s_1⟩
  · rw [fa_le] at c_1
    refine ok_ix ⟨by omega, by omega⟩ ?_
    have g_5 := gX_44 hB_s_1 (x1_1.toNatClampNeg)
    refine ok_lt fun v_3 e_v_3 => ?_
    have b_v_3 : 0 ≤ v_3.toInt ∧ v_3.toInt ≤ 119 := by rw [e_v_3]; exact gX_44 hB_s_1 _
    have q_v_3 : v_3.toInt = (σ.1 44 (x1_1.toNatClampNeg)).toInt := by rw [e_v_3, hF_s_1.1 44 (by decide)]
    refine ok_ix ⟨by omega, by omega⟩ ?_
    refine ok_lt fun s_4 e_s_4 => ?_
    have hB_s_4 : BX s_4 := by rw [e_s_4]; exact pX_37 hB_s_1 (by omega)
    have hF_s_4 : FR [36, 37, 39, 40, 42, 43] [1, 5] σ s_4 := by rw [e_s_4]; exact FR.st hF_s_1 (by decide)
    have hEB_s_4 : EB s_4 := by rw [e_s_4]; exact EB.st1 (by decide) hEB_s_1
    have hBV_s_4 : BV s_4 := by rw [e_s_4]; exact BV.st1 (by decide) hBV_s_1
    refine ok_calv (s_X8_isReducedNow  (σ := s_4) hB_s_4 hEB_s_4 hBV_s_4) (fun v_5 s_5 h_6 => ?_)
    obtain ⟨b_v_5, hB_s_5, hG_s_5, hBV_s_5⟩ := h_6
    (try dsimp only at b_v_5 hB_s_5 hG_s_5 hBV_s_5)
    have hF_s_5 : FR [36, 37, 39, 40, 42, 43] [1, 5] σ s_5 := FR.cal hF_s_4 hG_s_5 rfl rfl
    have hEB_s_5 : EB s_5 := EB.fr hG_s_5 (by decide) hEB_s_4
    refine ok_ite (fun c_7 => ?_) (fun c_7 => ?_)
    · rw [fa_eq] at c_7
      refine ok_ix ⟨by omega, by omega⟩ ?_
      have g_8 := gX_44 hB_s_5 (x1_1.toNatClampNeg)
      refine ok_lt fun v_7 e_v_7 => ?_
      have b_v_7 : 0 ≤ v_7.toInt ∧ v_7.toInt ≤ 119 := by rw [e_v_7]; exact gX_44 hB_s_5 _
      have q_v_7 : v_7.toInt = (σ.1 44 (x1_1.toNatClampNeg)).toInt := by rw [e_v_7, hF_s_5.1 44 (by decide)]
      refine ok_ix ⟨by omega, by omega⟩ ?_
      refine ok_lt fun s_8 e_s_8 => ?_
      have hB_s_8 : BX s_8 := by rw [e_s_8]; exact pX_37 hB_s_5 (by omega)
      have hF_s_8 : FR [36, 37, 39, 40, 42, 43] [1, 5] σ s_8 := by rw [e_s_8]; exact FR.st hF_s_5 (by decide)
      have hBV_s_8 : BV s_8 := by rw [e_s_8]; exact BV.st1 (by decide) hBV_s_5
      have hEB_s_8 : EB s_8 := by rw [e_s_8]; exact EB.st1 (by decide) hEB_s_5
      obtain ⟨t_9, ht_9, g_9⟩ : ∃ t : Int, (x1_1 + 1).toInt = t ∧ t = x1_1.toInt + (1 : Int32).toInt := ⟨_, rfl, by have h9 := fb_addI (x := x1_1) (y := (1 : Int32)) (by omega) (by omega); exact h9⟩
      refine ok_lt fun x1_9 e_x1_9 => ?_
      have q_x1_9 : x1_9.toInt = t_9 := by rw [e_x1_9]; exact ht_9
      exact ih_a_2 _ x1_9 s_8 (by rw [hn_a_2]; omega) ⟨rfl, (by omega), hB_s_8, hF_s_8, hEB_s_8, hBV_s_8⟩
    · rw [fa_eq] at c_7
      refine ok_lt fun s_10 e_s_10 => ?_
      have hB_s_10 : BX s_10 := by rw [e_s_10]; exact pX_36 hB_s_5 (by omega)
      have hF_s_10 : FR [36, 37, 39, 40, 42, 43] [1, 5] σ s_10 := by rw [e_s_10]; exact FR.st hF_s_5 (by decide)
      have hBV_s_10 : BV s_10 := by rw [e_s_10]; exact BV.st1 (by decide) hBV_s_5
      have hEB_s_10 : EB s_10 := by rw [e_s_10]; exact EB.st1 (by decide) hEB_s_5
      exact ok_ret ⟨(by (try dsimp only); omega), hB_s_10, hF_s_10, hBV_s_10⟩

set_option maxHeartbeats 4000000 in
theorem s_X8_twoJumpsAreEnough {σ : Sto} (hB : BX σ) (hEB : EB σ) (hBV : BV σ) : OK (f_X8_twoJumpsAreEnough σ) (fun r => (0 ≤ r.1.toInt ∧ r.1.toInt ≤ 1) ∧ BX r.2 ∧ FR [36, 37, 39, 40, 42, 43] [1, 5] σ r.2 ∧ BV r.2) := by
  unfold f_X8_twoJumpsAreEnough
  have hF : FR [36, 37, 39, 40, 42, 43] [1, 5] σ σ := FR.rf
  have k_0 : (0 : Int32).toInt = 0 := by decide +kernel
  have k_1 : (1 : Int32).toInt = 1 := by decide +kernel
  have k_2 : (2 : Int32).toInt = 2 := by decide +kernel
  refine ok_itr2 (fun (n : Nat) (x1_1 : Int32) (s_1 : Sto) => n = (121 - x1_1.toInt).toNat ∧ (0 ≤ x1_1.toInt ∧ x1_1.toInt ≤ 120) ∧ (BX s_1) ∧ (FR [36, 37, 39, 40, 42, 43] [1, 5] σ s_1) ∧ (EB s_1) ∧ (BV s_1)) ?_ (n := _) ⟨rfl, (by omega), hB, hF, hEB, hBV⟩ (show _ < 10000000 by omega)
  intro a_2 n x1_1 s_1 hI ih_a_2
  obtain ⟨hn_a_2, b_x1_1, hB_s_1, hF_s_1, hEB_s_1, hBV_s_1⟩ := hI
  have g_2 := gX_45 hB_s_1 0
  have g_3 : (s_1.1 45 0).toInt = (σ.1 45 0).toInt := by rw [hF_s_1.1 45 (by decide)]
  have g_4 := gX_45 hB 0
  refine ok_ite (fun c_1 => ?_) (fun c_1 => ?_)
  · rw [fa_le] at c_1
    exact ok_ret ⟨(by (try dsimp only); omega), hB_s_1, hF_s_1, hBV_s_1⟩
  · rw [fa_le] at c_1
    refine ok_ix ⟨by omega, by omega⟩ ?_
    have g_5 := gX_44 hB_s_1 (x1_1.toNatClampNeg)
    refine ok_lt fun v_3 e_v_3 => ?_
    have b_v_3 : 0 ≤ v_3.toInt ∧ v_3.toInt ≤ 119 := by rw [e_v_3]; exact gX_44 hB_s_1 _
    have q_v_3 : v_3.toInt = (σ.1 44 (x1_1.toNatClampNeg)).toInt := by rw [e_v_3, hF_s_1.1 44 (by decide)]
    refine ok_ix ⟨by omega, by omega⟩ ?_
    refine ok_lt fun s_4 e_s_4 => ?_
    have hB_s_4 : BX s_4 := by rw [e_s_4]; exact pX_37 hB_s_1 (by omega)
    have hF_s_4 : FR [36, 37, 39, 40, 42, 43] [1, 5] σ s_4 := by rw [e_s_4]; exact FR.st hF_s_1 (by decide)
    have hEB_s_4 : EB s_4 := by rw [e_s_4]; exact EB.st1 (by decide) hEB_s_1
    have hBV_s_4 : BV s_4 := by rw [e_s_4]; exact BV.st1 (by decide) hBV_s_1
    obtain ⟨t_6, ht_6, g_6⟩ : ∃ t : Int, (x1_1 + 1).toInt = t ∧ t = x1_1.toInt + (1 : Int32).toInt := ⟨_, rfl, by have h9 := fb_addI (x := x1_1) (y := (1 : Int32)) (by omega) (by omega); exact h9⟩
    refine ok_lt fun x2_5 e_x2_5 => ?_
    have q_x2_5 : x2_5.toInt = t_6 := by rw [e_x2_5]; exact ht_6
    refine ok_itr2 (fun (n : Nat) (x2_6 : Int32) (s_6 : Sto) => n = (121 - x2_6.toInt).toNat ∧ (1 ≤ x2_6.toInt ∧ x2_6.toInt ≤ 120) ∧ (BX s_6) ∧ (FR [36, 37, 39, 40, 42, 43] [1, 5] σ s_6) ∧ (EB s_6) ∧ (BV s_6)) ?_ (n := _) ⟨rfl, (by omega), hB_s_4, hF_s_4, hEB_s_4, hBV_s_4⟩ (show _ < 10000000 by omega)
    intro a_26 n x2_6 s_6 hI ih_a_26
    obtain ⟨hn_a_26, b_x2_6, hB_s_6, hF_s_6, hEB_s_6, hBV_s_6⟩ := hI
    have g_8 := gX_45 hB_s_6 0
    have g_9 : (s_6.1 45 0).toInt = (σ.1 45 0).toInt := by rw [hF_s_6.1 45 (by decide)]
    refine ok_ite (fun c_7 => ?_) (fun c_7 => ?_)
    · rw [fa_le] at c_7
      refine ok_ix ⟨by omega, by omega⟩ ?_
      have g_10 := gX_44 hB_s_6 (x1_1.toNatClampNeg)
      refine ok_lt fun v_8 e_v_8 => ?_
      have b_v_8 : 0 ≤ v_8.toInt ∧ v_8.toInt ≤ 119 := by rw [e_v_8]; exact gX_44 hB_s_6 _
      have q_v_8 : v_8.toInt = (σ.1 44 (x1_1.toNatClampNeg)).toInt := by rw [e_v_8, hF_s_6.1 44 (by decide)]
      refine ok_ix ⟨by omega, by omega⟩ ?_
      refine ok_lt fun s_9 e_s_9 => ?_
      have hB_s_9 : BX s_9 := by rw [e_s_9]; exact pX_37 hB_s_6 (by omega)
      have hF_s_9 : FR [36, 37, 39, 40, 42, 43] [1, 5] σ s_9 := by rw [e_s_9]; exact FR.st hF_s_6 (by decide)
      have hEB_s_9 : EB s_9 := by rw [e_s_9]; exact EB.st1 (by decide) hEB_s_6
      have hBV_s_9 : BV s_9 := by rw [e_s_9]; exact BV.st1 (by decide) hBV_s_6
      refine ok_lt fun x1_10 e_x1_10 => ?_
      have q_x1_10 : x1_10.toInt = t_6 := by rw [e_x1_10]; exact ht_6
      exact ih_a_2 _ x1_10 s_9 (by rw [hn_a_2]; omega) ⟨rfl, (by omega), hB_s_9, hF_s_9, hEB_s_9, hBV_s_9⟩
    · rw [fa_le] at c_7
      refine ok_ix ⟨by omega, by omega⟩ ?_
      have g_11 := gX_44 hB_s_6 (x2_6.toNatClampNeg)
      refine ok_lt fun v_11 e_v_11 => ?_
      have b_v_11 : 0 ≤ v_11.toInt ∧ v_11.toInt ≤ 119 := by rw [e_v_11]; exact gX_44 hB_s_6 _
      have q_v_11 : v_11.toInt = (σ.1 44 (x2_6.toNatClampNeg)).toInt := by rw [e_v_11, hF_s_6.1 44 (by decide)]
      refine ok_ix ⟨by omega, by omega⟩ ?_
      refine ok_lt fun s_12 e_s_12 => ?_
      have hB_s_12 : BX s_12 := by rw [e_s_12]; exact pX_37 hB_s_6 (by omega)
      have hF_s_12 : FR [36, 37, 39, 40, 42, 43] [1, 5] σ s_12 := by rw [e_s_12]; exact FR.st hF_s_6 (by decide)
      have hEB_s_12 : EB s_12 := by rw [e_s_12]; exact EB.st1 (by decide) hEB_s_6
      have hBV_s_12 : BV s_12 := by rw [e_s_12]; exact BV.st1 (by decide) hBV_s_6
      refine ok_calv (s_X8_isReducedNow  (σ := s_12) hB_s_12 hEB_s_12 hBV_s_12) (fun v_13 s_13 h_12 => ?_)
      obtain ⟨b_v_13, hB_s_13, hG_s_13, hBV_s_13⟩ := h_12
      (try dsimp only at b_v_13 hB_s_13 hG_s_13 hBV_s_13)
      have hF_s_13 : FR [36, 37, 39, 40, 42, 43] [1, 5] σ s_13 := FR.cal hF_s_12 hG_s_13 rfl rfl
      have hEB_s_13 : EB s_13 := EB.fr hG_s_13 (by decide) hEB_s_12
      refine ok_ite (fun c_13 => ?_) (fun c_13 => ?_)
      · rw [fa_eq] at c_13
        refine ok_ix ⟨by omega, by omega⟩ ?_
        have g_14 := gX_44 hB_s_13 (x2_6.toNatClampNeg)
        refine ok_lt fun v_15 e_v_15 => ?_
        have b_v_15 : 0 ≤ v_15.toInt ∧ v_15.toInt ≤ 119 := by rw [e_v_15]; exact gX_44 hB_s_13 _
        have q_v_15 : v_15.toInt = (σ.1 44 (x2_6.toNatClampNeg)).toInt := by rw [e_v_15, hF_s_13.1 44 (by decide)]
        refine ok_ix ⟨by omega, by omega⟩ ?_
        refine ok_lt fun s_16 e_s_16 => ?_
        have hB_s_16 : BX s_16 := by rw [e_s_16]; exact pX_37 hB_s_13 (by omega)
        have hF_s_16 : FR [36, 37, 39, 40, 42, 43] [1, 5] σ s_16 := by rw [e_s_16]; exact FR.st hF_s_13 (by decide)
        have hBV_s_16 : BV s_16 := by rw [e_s_16]; exact BV.st1 (by decide) hBV_s_13
        have hEB_s_16 : EB s_16 := by rw [e_s_16]; exact EB.st1 (by decide) hEB_s_13
        obtain ⟨t_15, ht_15, g_15⟩ : ∃ t : Int, (x2_6 + 1).toInt = t ∧ t = x2_6.toInt + (1 : Int32).toInt := ⟨_, rfl, by have h9 := fb_addI (x := x2_6) (y := (1 : Int32)) (by omega) (by omega); exact h9⟩
        refine ok_lt fun x2_17 e_x2_17 => ?_
        have q_x2_17 : x2_17.toInt = t_15 := by rw [e_x2_17]; exact ht_15
        exact ih_a_26 _ x2_17 s_16 (by rw [hn_a_26]; omega) ⟨rfl, (by omega), hB_s_16, hF_s_16, hEB_s_16, hBV_s_16⟩
      · rw [fa_eq] at c_13
        refine ok_lt fun s_18 e_s_18 => ?_
        have hB_s_18 : BX s_18 := by rw [e_s_18]; exact pX_36 hB_s_13 (by omega)
        have hF_s_18 : FR [36, 37, 39, 40, 42, 43] [1, 5] σ s_18 := by rw [e_s_18]; exact FR.st hF_s_13 (by decide)
        have hBV_s_18 : BV s_18 := by rw [e_s_18]; exact BV.st1 (by decide) hBV_s_13
        have hEB_s_18 : EB s_18 := by rw [e_s_18]; exact EB.st1 (by decide) hEB_s_13
        exact ok_ret ⟨(by (try dsimp only); omega), hB_s_18, hF_s_18, hBV_s_18⟩

set_option maxHeartbeats 4000000 in
theorem s_X8_form {σ : Sto} (hB : BX σ) (hEB : EB σ) (hBV : BV σ) : OK (f_X8_form σ) (fun s => BX s ∧ FR [34, 35, 36, 37, 38, 39, 40, 41, 42, 43, 44, 45] [1, 2, 3, 4, 5] σ s ∧ BV s ∧ MB s) := by
  unfold f_X8_form
  have hF : FR [34, 35, 36, 37, 38, 39, 40, 41, 42, 43, 44, 45] [1, 2, 3, 4, 5] σ σ := FR.rf
  have k_0 : (0 : Int32).toInt = 0 := by decide +kernel
  have k_1 : (1 : Int32).toInt = 1 := by decide +kernel
  have k_120 : (120 : Int32).toInt = 120 := by decide +kernel
  refine ok_itr2 (fun (n : Nat) (x1_1 : Int32) (s_1 : Sto) => n = (121 - x1_1.toInt).toNat ∧ (0 ≤ x1_1.toInt ∧ x1_1.toInt ≤ 120) ∧ (BX s_1) ∧ (FR [34, 35, 36, 37, 38, 39, 40, 41, 42, 43, 44, 45] [1, 2, 3, 4, 5] σ s_1) ∧ (EB s_1) ∧ (BV s_1)) ?_ (n := _) ⟨rfl, (by omega), hB, hF, hEB, hBV⟩ (show _ < 10000000 by omega)
  intro a_2 n x1_1 s_1 hI ih_a_2
  obtain ⟨hn_a_2, b_x1_1, hB_s_1, hF_s_1, hEB_s_1, hBV_s_1⟩ := hI
  refine ok_ite (fun c_1 => ?_) (fun c_1 => ?_)
  · rw [fa_le] at c_1
    refine ok_lt fun s_3 e_s_3 => ?_
    have hB_s_3 : BX s_3 := by rw [e_s_3]; exact pX_36 hB_s_1 (by omega)
    have hF_s_3 : FR [34, 35, 36, 37, 38, 39, 40, 41, 42, 43, 44, 45] [1, 2, 3, 4, 5] σ s_3 := by rw [e_s_3]; exact FR.st hF_s_1 (by decide)
    have w_s_3_35 : (s_3.1 35 0).toInt = (s_1.1 35 0).toInt := by rw [e_s_3]; rfl
    have hEB_s_3 : EB s_3 := by rw [e_s_3]; exact EB.st1 (by decide) hEB_s_1
    have hBV_s_3 : BV s_3 := by rw [e_s_3]; exact BV.st1 (by decide) hBV_s_1
    refine ok_calv (s_X8_isReducedNow  (σ := s_3) hB_s_3 hEB_s_3 hBV_s_3) (fun v_4 s_4 h_2 => ?_)
    obtain ⟨b_v_4, hB_s_4, hG_s_4, hBV_s_4⟩ := h_2
    (try dsimp only at b_v_4 hB_s_4 hG_s_4 hBV_s_4)
    have hF_s_4 : FR [34, 35, 36, 37, 38, 39, 40, 41, 42, 43, 44, 45] [1, 2, 3, 4, 5] σ s_4 := FR.cal hF_s_3 hG_s_4 rfl rfl
    have w_s_4_35 : (s_4.1 35 0).toInt = (s_3.1 35 0).toInt := by rw [hG_s_4.1 35 (by decide)]
    have hEB_s_4 : EB s_4 := EB.fr hG_s_4 (by decide) hEB_s_3
    refine ok_bz (by rw [fa_eq, fa_eq]; omega) ?_
    refine ok_lt fun s_5 e_s_5 => ?_
    have hB_s_5 : BX s_5 := by rw [e_s_5]; exact pX_35 hB_s_4 (by omega)
    have hF_s_5 : FR [34, 35, 36, 37, 38, 39, 40, 41, 42, 43, 44, 45] [1, 2, 3, 4, 5] σ s_5 := by rw [e_s_5]; exact FR.st hF_s_4 (by decide)
    have w_s_5_35 : (s_5.1 35 0).toInt = v_4.toInt := by rw [e_s_5, sti_s]
    have hBV_s_5 : BV s_5 := by rw [e_s_5]; exact BV.st1 (by decide) hBV_s_4
    have hEB_s_5 : EB s_5 := by rw [e_s_5]; exact EB.st1 (by decide) hEB_s_4
    refine ok_lt fun s_7 e_s_7 => ?_
    have hB_s_7 : BX s_7 := by rw [e_s_7]; exact pX_34 hB_s_5 (by omega)
    have hF_s_7 : FR [34, 35, 36, 37, 38, 39, 40, 41, 42, 43, 44, 45] [1, 2, 3, 4, 5] σ s_7 := by rw [e_s_7]; exact FR.st hF_s_5 (by decide)
    have w_s_7_35 : (s_7.1 35 0).toInt = (s_5.1 35 0).toInt := by rw [e_s_7]; rfl
    have hBV_s_7 : BV s_7 := by rw [e_s_7]; exact BV.st1 (by decide) hBV_s_5
    have hEB_s_7 : EB s_7 := by rw [e_s_7]; exact EB.st1 (by decide) hEB_s_5
    refine ok_jnI1 (fun (s_8 : Sto) => True ∧ (BX s_8) ∧ (FR [34, 35, 36, 37, 38, 39, 40, 41, 42, 43, 44, 45] [1, 2, 3, 4, 5] σ s_8) ∧ (EB s_8) ∧ (BV s_8)) ?_ ?_
    · intro s_8 hJ
      obtain ⟨-, hB_s_8, hF_s_8, hEB_s_8, hBV_s_8⟩ := hJ
      refine ok_itr2 (fun (n : Nat) (x1_9 : Int32) (s_9 : Sto) => n = (121 - x1_9.toInt).toNat ∧ (0 ≤ x1_9.toInt ∧ x1_9.toInt ≤ 120) ∧ (BX s_9) ∧ (FR [34, 35, 36, 37, 38, 39, 40, 41, 42, 43, 44, 45] [1, 2, 3, 4, 5] σ s_9) ∧ (EB s_9) ∧ (BV s_9)) ?_ (n := _) ⟨rfl, (by omega), hB_s_8, hF_s_8, hEB_s_8, hBV_s_8⟩ (show _ < 10000000 by omega)
      intro a_76 n x1_9 s_9 hI ih_a_76
      obtain ⟨hn_a_76, b_x1_9, hB_s_9, hF_s_9, hEB_s_9, hBV_s_9⟩ := hI
      have g_4 := gX_27 hB_s_9 0
      have g_5 : (s_9.1 27 0).toInt = (σ.1 27 0).toInt := by rw [hF_s_9.1 27 (by decide)]
      have g_6 := gX_27 hB 0
      refine ok_ite (fun c_3 => ?_) (fun c_3 => ?_)
      · rw [fa_le] at c_3
        refine ok_cals (s_X8_findAbove  (σ := s_9) hB_s_9) (fun s_11 h_7 => ?_)
        obtain ⟨hB_s_11, hG_s_11⟩ := h_7
        (try dsimp only at hB_s_11 hG_s_11)
        have hF_s_11 : FR [34, 35, 36, 37, 38, 39, 40, 41, 42, 43, 44, 45] [1, 2, 3, 4, 5] σ s_11 := FR.cal hF_s_9 hG_s_11 rfl rfl
        have w_s_11_35 : (s_11.1 35 0).toInt = (s_9.1 35 0).toInt := by rw [hG_s_11.1 35 (by decide)]
        have hEB_s_11 : EB s_11 := EB.fr hG_s_11 (by decide) hEB_s_9
        have hBV_s_11 : BV s_11 := BV.fr hG_s_11 (by decide) hBV_s_9
        refine ok_cals (s_X8_findLoops  (σ := s_11) hB_s_11) (fun s_12 h_8 => ?_)
        obtain ⟨hB_s_12, hG_s_12⟩ := h_8
        (try dsimp only at hB_s_12 hG_s_12)
        have hF_s_12 : FR [34, 35, 36, 37, 38, 39, 40, 41, 42, 43, 44, 45] [1, 2, 3, 4, 5] σ s_12 := FR.cal hF_s_11 hG_s_12 rfl rfl
        have w_s_12_35 : (s_12.1 35 0).toInt = (s_11.1 35 0).toInt := by rw [hG_s_12.1 35 (by decide)]
        have hEB_s_12 : EB s_12 := EB.fr hG_s_12 (by decide) hEB_s_11
        have hBV_s_12 : BV s_12 := BV.fr hG_s_12 (by decide) hBV_s_11
        refine ok_cals (s_X8_findMerges  (σ := s_12) hB_s_12 hEB_s_12) (fun s_13 h_9 => ?_)
        obtain ⟨hB_s_13, hG_s_13, hMB_s_13⟩ := h_9
        (try dsimp only at hB_s_13 hG_s_13 hMB_s_13)
        have hF_s_13 : FR [34, 35, 36, 37, 38, 39, 40, 41, 42, 43, 44, 45] [1, 2, 3, 4, 5] σ s_13 := FR.cal hF_s_12 hG_s_13 rfl rfl
        have w_s_13_35 : (s_13.1 35 0).toInt = (s_12.1 35 0).toInt := by rw [hG_s_13.1 35 (by decide)]
        have hEB_s_13 : EB s_13 := EB.fr hG_s_13 (by decide) hEB_s_12
        have hBV_s_13 : BV s_13 := BV.fr hG_s_13 (by decide) hBV_s_12
        exact ok_ret ⟨hB_s_13, hF_s_13, hBV_s_13, hMB_s_13⟩
      · rw [fa_le] at c_3
        refine ok_calp (s_X8_isBack (x1 := x1_9) (σ := s_9) hB_s_9 (by omega)) (fun v_14 h_10 => ?_)
        have b_v_14 := h_10
        (try dsimp only at b_v_14)
        refine ok_bz (by rw [fa_eq, fa_eq]; omega) ?_
        refine ok_ix ⟨by omega, by omega⟩ ?_
        refine ok_lt fun s_15 e_s_15 => ?_
        have hB_s_15 : BX s_15 := by rw [e_s_15]; exact pX_38 hB_s_9 (by omega)
        have hF_s_15 : FR [34, 35, 36, 37, 38, 39, 40, 41, 42, 43, 44, 45] [1, 2, 3, 4, 5] σ s_15 := by rw [e_s_15]; exact FR.st hF_s_9 (by decide)
        have w_s_15_35 : (s_15.1 35 0).toInt = (s_9.1 35 0).toInt := by rw [e_s_15]; rfl
        have hEB_s_15 : EB s_15 := by rw [e_s_15]; exact EB.st1 (by decide) hEB_s_9
        have hBV_s_15 : BV s_15 := by rw [e_s_15]; exact BV.st1 (by decide) hBV_s_9
        obtain ⟨t_11, ht_11, g_11⟩ : ∃ t : Int, (x1_9 + 1).toInt = t ∧ t = x1_9.toInt + (1 : Int32).toInt := ⟨_, rfl, by have h9 := fb_addI (x := x1_9) (y := (1 : Int32)) (by omega) (by omega); exact h9⟩
        refine ok_lt fun x1_17 e_x1_17 => ?_
        have q_x1_17 : x1_17.toInt = t_11 := by rw [e_x1_17]; exact ht_11
        exact ih_a_76 _ x1_17 s_15 (by rw [hn_a_76]; omega) ⟨rfl, (by omega), hB_s_15, hF_s_15, hEB_s_15, hBV_s_15⟩
    · intro k_74 hk_k_74
      have g_13 := gX_35 hB_s_7 0
      refine ok_ite (fun c_12 => ?_) (fun c_12 => ?_)
      · rw [fa_eq] at c_12
        refine ok_cals (s_X8_findCandidates  (σ := s_7) hB_s_7) (fun s_19 h_14 => ?_)
        obtain ⟨hB_s_19, hG_s_19⟩ := h_14
        (try dsimp only at hB_s_19 hG_s_19)
        have hF_s_19 : FR [34, 35, 36, 37, 38, 39, 40, 41, 42, 43, 44, 45] [1, 2, 3, 4, 5] σ s_19 := FR.cal hF_s_7 hG_s_19 rfl rfl
        have w_s_19_35 : (s_19.1 35 0).toInt = (s_7.1 35 0).toInt := by rw [hG_s_19.1 35 (by decide)]
        have hBV_s_19 : BV s_19 := BV.fr hG_s_19 (by decide) hBV_s_7
        have hEB_s_19 : EB s_19 := EB.fr hG_s_19 (by decide) hEB_s_7
        refine ok_calv (s_X8_oneJumpIsEnough  (σ := s_19) hB_s_19 hEB_s_19 hBV_s_19) (fun v_20 s_20 h_15 => ?_)
        obtain ⟨b_v_20, hB_s_20, hG_s_20, hBV_s_20⟩ := h_15
        (try dsimp only at b_v_20 hB_s_20 hG_s_20 hBV_s_20)
        have hF_s_20 : FR [34, 35, 36, 37, 38, 39, 40, 41, 42, 43, 44, 45] [1, 2, 3, 4, 5] σ s_20 := FR.cal hF_s_19 hG_s_20 rfl rfl
        have w_s_20_35 : (s_20.1 35 0).toInt = (s_19.1 35 0).toInt := by rw [hG_s_20.1 35 (by decide)]
        have hEB_s_20 : EB s_20 := EB.fr hG_s_20 (by decide) hEB_s_19
        refine ok_ite (fun c_16 => ?_) (fun c_16 => ?_)
        · rw [fa_eq] at c_16
          refine ok_calv (s_X8_twoJumpsAreEnough  (σ := s_20) hB_s_20 hEB_s_20 hBV_s_20) (fun v_22 s_22 h_17 => ?_)
          obtain ⟨b_v_22, hB_s_22, hG_s_22, hBV_s_22⟩ := h_17
          (try dsimp only at b_v_22 hB_s_22 hG_s_22 hBV_s_22)
          have hF_s_22 : FR [34, 35, 36, 37, 38, 39, 40, 41, 42, 43, 44, 45] [1, 2, 3, 4, 5] σ s_22 := FR.cal hF_s_20 hG_s_22 rfl rfl
          have w_s_22_35 : (s_22.1 35 0).toInt = (s_20.1 35 0).toInt := by rw [hG_s_22.1 35 (by decide)]
          have hEB_s_22 : EB s_22 := EB.fr hG_s_22 (by decide) hEB_s_20
          refine ok_ite (fun c_18 => ?_) (fun c_18 => ?_)
          · rw [fa_eq] at c_18
            refine ok_lt fun s_24 e_s_24 => ?_
            have hB_s_24 : BX s_24 := by rw [e_s_24]; exact pX_34 hB_s_22 (by omega)
            have hF_s_24 : FR [34, 35, 36, 37, 38, 39, 40, 41, 42, 43, 44, 45] [1, 2, 3, 4, 5] σ s_24 := by rw [e_s_24]; exact FR.st hF_s_22 (by decide)
            have w_s_24_35 : (s_24.1 35 0).toInt = (s_22.1 35 0).toInt := by rw [e_s_24]; rfl
            have hBV_s_24 : BV s_24 := by rw [e_s_24]; exact BV.st1 (by decide) hBV_s_22
            have hEB_s_24 : EB s_24 := by rw [e_s_24]; exact EB.st1 (by decide) hEB_s_22
            refine ok_calv (s_X8_isReducedNow  (σ := s_24) hB_s_24 hEB_s_24 hBV_s_24) (fun v_25 s_25 h_19 => ?_)
            obtain ⟨b_v_25, hB_s_25, hG_s_25, hBV_s_25⟩ := h_19
            (try dsimp only at b_v_25 hB_s_25 hG_s_25 hBV_s_25)
            have hF_s_25 : FR [34, 35, 36, 37, 38, 39, 40, 41, 42, 43, 44, 45] [1, 2, 3, 4, 5] σ s_25 := FR.cal hF_s_24 hG_s_25 rfl rfl
            have w_s_25_35 : (s_25.1 35 0).toInt = (s_24.1 35 0).toInt := by rw [hG_s_25.1 35 (by decide)]
            have hEB_s_25 : EB s_25 := EB.fr hG_s_25 (by decide) hEB_s_24
            exact hk_k_74 s_25 ⟨trivial, hB_s_25, hF_s_25, hEB_s_25, hBV_s_25⟩
          · rw [fa_eq] at c_18
            exact hk_k_74 s_22 ⟨trivial, hB_s_22, hF_s_22, hEB_s_22, hBV_s_22⟩
        · rw [fa_eq] at c_16
          exact hk_k_74 s_20 ⟨trivial, hB_s_20, hF_s_20, hEB_s_20, hBV_s_20⟩
      · rw [fa_eq] at c_12
        exact hk_k_74 s_7 ⟨trivial, hB_s_7, hF_s_7, hEB_s_7, hBV_s_7⟩
  · rw [fa_le] at c_1
    refine ok_ix ⟨by omega, by omega⟩ ?_
    refine ok_lt fun s_26 e_s_26 => ?_
    have hB_s_26 : BX s_26 := by rw [e_s_26]; exact pX_37 hB_s_1 (by omega)
    have hF_s_26 : FR [34, 35, 36, 37, 38, 39, 40, 41, 42, 43, 44, 45] [1, 2, 3, 4, 5] σ s_26 := by rw [e_s_26]; exact FR.st hF_s_1 (by decide)
    have w_s_26_35 : (s_26.1 35 0).toInt = (s_1.1 35 0).toInt := by rw [e_s_26]; rfl
    have hEB_s_26 : EB s_26 := by rw [e_s_26]; exact EB.st1 (by decide) hEB_s_1
    have hBV_s_26 : BV s_26 := by rw [e_s_26]; exact BV.st1 (by decide) hBV_s_1
    obtain ⟨t_20, ht_20, g_20⟩ : ∃ t : Int, (x1_1 + 1).toInt = t ∧ t = x1_1.toInt + (1 : Int32).toInt := ⟨_, rfl, by have h9 := fb_addI (x := x1_1) (y := (1 : Int32)) (by omega) (by omega); exact h9⟩
    refine ok_lt fun x1_27 e_x1_27 => ?_
    have q_x1_27 : x1_27.toInt = t_20 := by rw [e_x1_27]; exact ht_20
    exact ih_a_2 _ x1_27 s_26 (by rw [hn_a_2]; omega) ⟨rfl, (by omega), hB_s_26, hF_s_26, hEB_s_26, hBV_s_26⟩

set_option maxHeartbeats 4000000 in
theorem s_X7_isName {x1 : Int32} {σ : Sto} (hB : BX σ) (p_x1 : 0 ≤ x1.toInt ∧ x1.toInt ≤ 511) : OK (f_X7_isName x1 σ) (fun v => (0 ≤ v.toInt ∧ v.toInt ≤ 1) ∧ (v.toInt = 1 → (σ.1 47 x1.toNatClampNeg).toInt = 108 ∨ (σ.1 47 x1.toNatClampNeg).toInt = 84 ∨ (σ.1 47 x1.toNatClampNeg).toInt = 88)) := by
  unfold f_X7_isName
  have hF : FR [] [] σ σ := FR.rf
  have k_0 : (0 : Int32).toInt = 0 := by decide +kernel
  have k_1 : (1 : Int32).toInt = 1 := by decide +kernel
  have k_84 : (84 : Int32).toInt = 84 := by decide +kernel
  have k_88 : (88 : Int32).toInt = 88 := by decide +kernel
  have k_108 : (108 : Int32).toInt = 108 := by decide +kernel
  refine ok_ix ⟨by omega, by omega⟩ ?_
  have g_1 := gX_47 hB (x1.toNatClampNeg)
  refine ok_lt fun v_1 e_v_1 => ?_
  have b_v_1 : 0 ≤ v_1.toInt ∧ v_1.toInt ≤ 255 := by rw [e_v_1]; exact gX_47 hB _
  have q_v_1 : v_1.toInt = (σ.1 47 x1.toNatClampNeg).toInt := by rw [e_v_1]
  have z1 : v_1.toInt = (σ.1 47 x1.toNatClampNeg).toInt := by rw [e_v_1]
  refine ok_jn ?_
  refine ok_ite (fun c_2 => ?_) (fun c_2 => ?_)
  · rw [fa_eq] at c_2
    exact ok_ret ⟨(by (try dsimp only); omega), (fun h => by (try dsimp only at h); omega)⟩
  · rw [fa_eq] at c_2
    refine ok_ix ⟨by omega, by omega⟩ ?_
    refine ok_lt fun v_4 e_v_4 => ?_
    have b_v_4 : 0 ≤ v_4.toInt ∧ v_4.toInt ≤ 255 := by rw [e_v_4]; exact gX_47 hB _
    have q_v_4 : v_4.toInt = (σ.1 47 x1.toNatClampNeg).toInt := by rw [e_v_4]
    refine ok_ite (fun c_3 => ?_) (fun c_3 => ?_)
    · rw [fa_eq] at c_3
      exact ok_ret ⟨(by (try dsimp only); omega), (fun h => by (try dsimp only at h); omega)⟩
    · rw [fa_eq] at c_3
      refine ok_ix ⟨by omega, by omega⟩ ?_
      refine ok_lt fun v_6 e_v_6 => ?_
      have b_v_6 : 0 ≤ v_6.toInt ∧ v_6.toInt ≤ 255 := by rw [e_v_6]; exact gX_47 hB _
      have q_v_6 : v_6.toInt = (σ.1 47 x1.toNatClampNeg).toInt := by rw [e_v_6]
      refine ok_ite (fun c_4 => ?_) (fun c_4 => ?_)
      · rw [fa_eq] at c_4
        exact ok_ret ⟨(by (try dsimp only); omega), (fun h => by (try dsimp only at h); omega)⟩
      · rw [fa_eq] at c_4
        exact ok_ret ⟨(by (try dsimp only); omega), (fun h => by (try dsimp only at h); omega)⟩

set_option maxHeartbeats 4000000 in
theorem s_X11_isUnary {x1 : Int32} (p_x1 : 0 ≤ x1.toInt ∧ x1.toInt ≤ 255) : OK (f_X11_isUnary x1) (fun v => (0 ≤ v.toInt ∧ v.toInt ≤ 1) ∧ ((v.toInt = 1 ↔ opU x1))) := by
  unfold f_X11_isUnary
  have k_0 : (0 : Int32).toInt = 0 := by decide +kernel
  have k_1 : (1 : Int32).toInt = 1 := by decide +kernel
  have k_33 : (33 : Int32).toInt = 33 := by decide +kernel
  have k_110 : (110 : Int32).toInt = 110 := by decide +kernel
  refine ok_jn ?_
  refine ok_ite (fun c_1 => ?_) (fun c_1 => ?_)
  · rw [fa_eq] at c_1
    exact ok_ret ⟨(by (try dsimp only); omega), (by (try dsimp only); unfold opU; omega)⟩
  · rw [fa_eq] at c_1
    refine ok_ite (fun c_2 => ?_) (fun c_2 => ?_)
    · rw [fa_eq] at c_2
      exact ok_ret ⟨(by (try dsimp only); omega), (by (try dsimp only); unfold opU; omega)⟩
    · rw [fa_eq] at c_2
      exact ok_ret ⟨(by (try dsimp only); omega), (by (try dsimp only); unfold opU; omega)⟩

set_option maxHeartbeats 4000000 in
theorem s_X1_tellWithin {x1 : Int32} {σ : Sto} (hB : BX σ) (hPI : PI σ) (p_x1 : 0 ≤ x1.toInt ∧ x1.toInt ≤ 511) : OK (f_X1_tellWithin x1 σ) (fun s => BX s ∧ FR [62] [] σ s) := by
  unfold f_X1_tellWithin
  have hF : FR [62] [] σ σ := FR.rf
  have k_0 : (0 : Int32).toInt = 0 := by decide +kernel
  have k_1 : (1 : Int32).toInt = 1 := by decide +kernel
  refine ok_ix ⟨by omega, by omega⟩ ?_
  have g_1 := gX_47 hB (x1.toNatClampNeg)
  refine ok_lt fun v_1 e_v_1 => ?_
  have b_v_1 : 0 ≤ v_1.toInt ∧ v_1.toInt ≤ 255 := by rw [e_v_1]; exact gX_47 hB _
  have q_v_1 : v_1.toInt = (σ.1 47 x1.toNatClampNeg).toInt := by rw [e_v_1]
  refine ok_calp (s_X11_isBinary (x1 := v_1) ) (fun v_2 h_2 => ?_)
  obtain ⟨b_v_2, x_v_2⟩ := h_2
  (try dsimp only at b_v_2 x_v_2)
  have hb2 : v_2.toInt = 1 → v_1.toInt ≠ 107 := fun h => by have h9 := x_v_2.mp h; unfold opB at h9; omega
  refine ok_jn ?_
  refine ok_jn ?_
  refine ok_ite (fun c_3 => ?_) (fun c_3 => ?_)
  · rw [fa_eq] at c_3
    refine ok_ix ⟨by omega, by omega⟩ ?_
    refine ok_lt fun v_11 e_v_11 => ?_
    have b_v_11 : 0 ≤ v_11.toInt ∧ v_11.toInt ≤ 255 := by rw [e_v_11]; exact gX_47 hB _
    have q_v_11 : v_11.toInt = (σ.1 47 x1.toNatClampNeg).toInt := by rw [e_v_11]
    refine ok_calp (s_X11_isUnary (x1 := v_11) (by omega)) (fun v_12 h_4 => ?_)
    obtain ⟨b_v_12, x_v_12⟩ := h_4
    (try dsimp only at b_v_12 x_v_12)
    have hb12 : v_12.toInt = 1 → v_11.toInt ≠ 107 := fun h => by have h9 := x_v_12.mp h; unfold opU at h9; omega
    refine ok_ite (fun c_5 => ?_) (fun c_5 => ?_)
    · rw [fa_eq] at c_5
      refine ok_ite (fun c_6 => ?_) (fun c_6 => ?_)
      · rw [fa_eq] at c_6
        exact ok_ret ⟨hB, hF⟩
      · rw [fa_eq] at c_6
        exfalso; omega
    · rw [fa_eq] at c_5
      refine ok_ix ⟨by omega, by omega⟩ ?_
      have g_7 := gX_48 hB (x1.toNatClampNeg)
      refine ok_lt fun v_8 e_v_8 => ?_
      have b_v_8 : 0 ≤ v_8.toInt ∧ v_8.toInt ≤ 999 := by rw [e_v_8]; exact gX_48 hB _
      have y1 : (σ.1 47 x1.toNatClampNeg).toInt ≠ 107 → v_8.toInt ≤ 511 := by rw [e_v_8]; exact (hPI _).1
      refine ok_ix ⟨by omega, by omega⟩ ?_
      refine ok_lt fun s_9 e_s_9 => ?_
      have hB_s_9 : BX s_9 := by rw [e_s_9]; exact pX_62 hB (by omega)
      have hF_s_9 : FR [62] [] σ s_9 := by rw [e_s_9]; exact FR.st hF (by decide)
      have hPI_s_9 : PI s_9 := by rw [e_s_9]; exact PI.st1 (by decide) hPI
      refine ok_ite (fun c_8 => ?_) (fun c_8 => ?_)
      · rw [fa_eq] at c_8
        exact ok_ret ⟨hB_s_9, hF_s_9⟩
      · rw [fa_eq] at c_8
        exfalso; omega
  · rw [fa_eq] at c_3
    refine ok_ix ⟨by omega, by omega⟩ ?_
    have g_9 := gX_48 hB (x1.toNatClampNeg)
    refine ok_lt fun v_8 e_v_8 => ?_
    have b_v_8 : 0 ≤ v_8.toInt ∧ v_8.toInt ≤ 999 := by rw [e_v_8]; exact gX_48 hB _
    have y1 : (σ.1 47 x1.toNatClampNeg).toInt ≠ 107 → v_8.toInt ≤ 511 := by rw [e_v_8]; exact (hPI _).1
    refine ok_ix ⟨by omega, by omega⟩ ?_
    refine ok_lt fun s_9 e_s_9 => ?_
    have hB_s_9 : BX s_9 := by rw [e_s_9]; exact pX_62 hB (by omega)
    have hF_s_9 : FR [62] [] σ s_9 := by rw [e_s_9]; exact FR.st hF (by decide)
    have hPI_s_9 : PI s_9 := by rw [e_s_9]; exact PI.st1 (by decide) hPI
    refine ok_ite (fun c_10 => ?_) (fun c_10 => ?_)
    · rw [fa_eq] at c_10
      exfalso; omega
    · rw [fa_eq] at c_10
      refine ok_ix ⟨by omega, by omega⟩ ?_
      have g_11 := gX_49 hB_s_9 (x1.toNatClampNeg)
      refine ok_lt fun v_5 e_v_5 => ?_
      have b_v_5 : 0 ≤ v_5.toInt ∧ v_5.toInt ≤ 511 := by rw [e_v_5]; exact gX_49 hB_s_9 _
      refine ok_ix ⟨by omega, by omega⟩ ?_
      refine ok_lt fun s_6 e_s_6 => ?_
      have hB_s_6 : BX s_6 := by rw [e_s_6]; exact pX_62 hB_s_9 (by omega)
      have hF_s_6 : FR [62] [] σ s_6 := by rw [e_s_6]; exact FR.st hF_s_9 (by decide)
      have hPI_s_6 : PI s_6 := by rw [e_s_6]; exact PI.st1 (by decide) hPI_s_9
      exact ok_ret ⟨hB_s_6, hF_s_6⟩

set_option maxHeartbeats 4000000 in
theorem s_X1_countUnlike {σ : Sto} (hB : BX σ) (hPI : PI σ) : OK (f_X1_countUnlike σ) (fun s => BX s ∧ FR [59, 62] [] σ s) := by
  unfold f_X1_countUnlike
  have hF : FR [59, 62] [] σ σ := FR.rf
  have k_m1 : ((-1) : Int32).toInt = -1 := by decide +kernel
  have k_0 : (0 : Int32).toInt = 0 := by decide +kernel
  have k_1 : (1 : Int32).toInt = 1 := by decide +kernel
  have g9 := gX_46 hB 0
  refine ok_itr2 (fun (n : Nat) (x1_1 : Int32) (s_1 : Sto) => n = (513 - x1_1.toInt).toNat ∧ (0 ≤ x1_1.toInt ∧ x1_1.toInt ≤ 512) ∧ (BX s_1) ∧ (FR [59, 62] [] σ s_1) ∧ (PI s_1)) ?_ (n := _) ⟨rfl, (by omega), hB, hF, hPI⟩ (show _ < 10000000 by omega)
  intro a_2 n x1_1 s_1 hI ih_a_2
  obtain ⟨hn_a_2, b_x1_1, hB_s_1, hF_s_1, hPI_s_1⟩ := hI
  have g_2 := gX_46 hB_s_1 0
  have g_3 : (s_1.1 46 0).toInt = (σ.1 46 0).toInt := by rw [hF_s_1.1 46 (by decide)]
  have g_4 := gX_46 hB 0
  refine ok_ite (fun c_1 => ?_) (fun c_1 => ?_)
  · rw [fa_le] at c_1
    refine ok_itr2 (fun (n : Nat) (x1_3 : Int32) (s_3 : Sto) => n = (321 - x1_3.toInt).toNat ∧ (0 ≤ x1_3.toInt ∧ x1_3.toInt ≤ 320) ∧ (BX s_3) ∧ (FR [59, 62] [] σ s_3) ∧ (PI s_3)) ?_ (n := _) ⟨rfl, (by omega), hB_s_1, hF_s_1, hPI_s_1⟩ (show _ < 10000000 by omega)
    intro a_28 n x1_3 s_3 hI ih_a_28
    obtain ⟨hn_a_28, b_x1_3, hB_s_3, hF_s_3, hPI_s_3⟩ := hI
    have g_6 := gX_52 hB_s_3 0
    have g_7 : (s_3.1 52 0).toInt = (σ.1 52 0).toInt := by rw [hF_s_3.1 52 (by decide)]
    have g_8 := gX_52 hB 0
    refine ok_ite (fun c_5 => ?_) (fun c_5 => ?_)
    · rw [fa_le] at c_5
      refine ok_itr2 (fun (n : Nat) (x1_5 : Int32) (s_5 : Sto) => n = (41 - x1_5.toInt).toNat ∧ (0 ≤ x1_5.toInt ∧ x1_5.toInt ≤ 40) ∧ (BX s_5) ∧ (FR [59, 62] [] σ s_5) ∧ (PI s_5)) ?_ (n := _) ⟨rfl, (by omega), hB_s_3, hF_s_3, hPI_s_3⟩ (show _ < 10000000 by omega)
      intro a_66 n x1_5 s_5 hI ih_a_66
      obtain ⟨hn_a_66, b_x1_5, hB_s_5, hF_s_5, hPI_s_5⟩ := hI
      have g_10 := gX_20 hB_s_5 0
      have g_11 : (s_5.1 20 0).toInt = (σ.1 20 0).toInt := by rw [hF_s_5.1 20 (by decide)]
      have g_12 := gX_20 hB 0
      refine ok_ite (fun c_9 => ?_) (fun c_9 => ?_)
      · rw [fa_le] at c_9
        refine ok_lt fun s_7 e_s_7 => ?_
        have hB_s_7 : BX s_7 := by rw [e_s_7]; exact pX_59 hB_s_5 (by omega)
        have hF_s_7 : FR [59, 62] [] σ s_7 := by rw [e_s_7]; exact FR.st hF_s_5 (by decide)
        have w_s_7_59 : (s_7.1 59 0).toInt = (0 : Int32).toInt := by rw [e_s_7, sti_s]
        have hPI_s_7 : PI s_7 := by rw [e_s_7]; exact PI.st1 (by decide) hPI_s_5
        have g_13 := gX_46 hB_s_7 0
        have g_14 : (s_7.1 46 0).toInt = (σ.1 46 0).toInt := by rw [hF_s_7.1 46 (by decide)]
        obtain ⟨t_15, ht_15, g_15⟩ : ∃ t : Int, ((s_7.1 46 0) - 1).toInt = t ∧ t = (s_7.1 46 0).toInt - (1 : Int32).toInt := ⟨_, rfl, by have h9 := fb_subI (x := (s_7.1 46 0)) (y := (1 : Int32)) (by omega) (by omega); exact h9⟩
        refine ok_lt fun x1_8 e_x1_8 => ?_
        have q_x1_8 : x1_8.toInt = t_15 := by rw [e_x1_8]; exact ht_15
        refine ok_itr2 (fun (n : Nat) (x1_9 : Int32) (s_9 : Sto) => n = (x1_9.toInt - (-2)).toNat ∧ ((-1) ≤ x1_9.toInt ∧ x1_9.toInt ≤ 511) ∧ (BX s_9) ∧ (FR [59, 62] [] σ s_9) ∧ (PI s_9) ∧ ((s_9.1 59 0).toInt + x1_9.toInt ≤ 511)) ?_ (n := _) ⟨rfl, (by omega), hB_s_7, hF_s_7, hPI_s_7, (by omega)⟩ (show _ < 10000000 by omega)
        intro a_120 n x1_9 s_9 hI ih_a_120
        obtain ⟨hn_a_120, b_x1_9, hB_s_9, hF_s_9, hPI_s_9, hun⟩ := hI
        refine ok_ite (fun c_16 => ?_) (fun c_16 => ?_)
        · rw [fa_lt] at c_16
          exact ok_ret ⟨hB_s_9, hF_s_9⟩
        · rw [fa_lt] at c_16
          refine ok_ix ⟨by omega, by omega⟩ ?_
          have g_17 := gX_62 hB_s_9 (x1_9.toNatClampNeg)
          refine ok_lt fun v_11 e_v_11 => ?_
          have b_v_11 : 0 ≤ v_11.toInt ∧ v_11.toInt ≤ 1 := by rw [e_v_11]; exact gX_62 hB_s_9 _
          refine ok_jn ?_
          refine ok_ite (fun c_18 => ?_) (fun c_18 => ?_)
          · rw [fa_eq] at c_18
            obtain ⟨t_19, ht_19, g_19⟩ : ∃ t : Int, (x1_9 + (-1)).toInt = t ∧ t = x1_9.toInt + ((-1) : Int32).toInt := ⟨_, rfl, by have h9 := fb_addI (x := x1_9) (y := ((-1) : Int32)) (by omega) (by omega); exact h9⟩
            refine ok_lt fun x1_13 e_x1_13 => ?_
            have q_x1_13 : x1_13.toInt = t_19 := by rw [e_x1_13]; exact ht_19
            exact ih_a_120 _ x1_13 s_9 (by rw [hn_a_120]; omega) ⟨rfl, (by omega), hB_s_9, hF_s_9, hPI_s_9, (by omega)⟩
          · rw [fa_eq] at c_18
            refine ok_calp (s_X7_isName (x1 := x1_9) (σ := s_9) hB_s_9 (by omega)) (fun v_15 h_20 => ?_)
            obtain ⟨b_v_15, x_v_15⟩ := h_20
            (try dsimp only at b_v_15 x_v_15)
            refine ok_ite (fun c_21 => ?_) (fun c_21 => ?_)
            · rw [fa_eq] at c_21
              have g_22 := gX_59 hB_s_9 0
              obtain ⟨t_23, ht_23, g_23⟩ : ∃ t : Int, ((s_9.1 59 0) + 1).toInt = t ∧ t = (s_9.1 59 0).toInt + (1 : Int32).toInt := ⟨_, rfl, by have h9 := fb_addI (x := (s_9.1 59 0)) (y := (1 : Int32)) (by omega) (by omega); exact h9⟩
              refine ok_lt fun s_17 e_s_17 => ?_
              have hB_s_17 : BX s_17 := by rw [e_s_17]; exact pX_59 hB_s_9 (by rw [ht_23]; omega)
              have hF_s_17 : FR [59, 62] [] σ s_17 := by rw [e_s_17]; exact FR.st hF_s_9 (by decide)
              have w_s_17_59 : (s_17.1 59 0).toInt = t_23 := by rw [e_s_17, sti_s, ht_23]
              have hPI_s_17 : PI s_17 := by rw [e_s_17]; exact PI.st1 (by decide) hPI_s_9
              refine ok_cals (s_X1_tellWithin (x1 := x1_9) (σ := s_17) hB_s_17 hPI_s_17 (by omega)) (fun s_18 h_24 => ?_)
              obtain ⟨hB_s_18, hG_s_18⟩ := h_24
              (try dsimp only at hB_s_18 hG_s_18)
              have hF_s_18 : FR [59, 62] [] σ s_18 := FR.cal hF_s_17 hG_s_18 rfl rfl
              have w_s_18_59 : (s_18.1 59 0).toInt = (s_17.1 59 0).toInt := by rw [hG_s_18.1 59 (by decide)]
              have hPI_s_18 : PI s_18 := PI.fr hG_s_18 (by decide) hPI_s_17
              obtain ⟨t_25, ht_25, g_25⟩ : ∃ t : Int, (x1_9 + (-1)).toInt = t ∧ t = x1_9.toInt + ((-1) : Int32).toInt := ⟨_, rfl, by have h9 := fb_addI (x := x1_9) (y := ((-1) : Int32)) (by omega) (by omega); exact h9⟩
              refine ok_lt fun x1_13 e_x1_13 => ?_
              have q_x1_13 : x1_13.toInt = t_25 := by rw [e_x1_13]; exact ht_25
              exact ih_a_120 _ x1_13 s_18 (by rw [hn_a_120]; omega) ⟨rfl, (by omega), hB_s_18, hF_s_18, hPI_s_18, (by omega)⟩
            · rw [fa_eq] at c_21
              obtain ⟨t_26, ht_26, g_26⟩ : ∃ t : Int, (x1_9 + (-1)).toInt = t ∧ t = x1_9.toInt + ((-1) : Int32).toInt := ⟨_, rfl, by have h9 := fb_addI (x := x1_9) (y := ((-1) : Int32)) (by omega) (by omega); exact h9⟩
              refine ok_lt fun x1_13 e_x1_13 => ?_
              have q_x1_13 : x1_13.toInt = t_26 := by rw [e_x1_13]; exact ht_26
              exact ih_a_120 _ x1_13 s_9 (by rw [hn_a_120]; omega) ⟨rfl, (by omega), hB_s_9, hF_s_9, hPI_s_9, (by omega)⟩
      · rw [fa_le] at c_9
        refine ok_ix ⟨by omega, by omega⟩ ?_
        have g_27 := gX_57 hB_s_5 (x1_5.toNatClampNeg)
        refine ok_lt fun v_19 e_v_19 => ?_
        have b_v_19 : (-1) ≤ v_19.toInt ∧ v_19.toInt ≤ 511 := by rw [e_v_19]; exact gX_57 hB_s_5 _
        have q_v_19 : v_19.toInt = (σ.1 57 (x1_5.toNatClampNeg)).toInt := by rw [e_v_19, hF_s_5.1 57 (by decide)]
        refine ok_jn ?_
        refine ok_ite (fun c_28 => ?_) (fun c_28 => ?_)
        · rw [fa_eq] at c_28
          obtain ⟨t_29, ht_29, g_29⟩ : ∃ t : Int, (x1_5 + 1).toInt = t ∧ t = x1_5.toInt + (1 : Int32).toInt := ⟨_, rfl, by have h9 := fb_addI (x := x1_5) (y := (1 : Int32)) (by omega) (by omega); exact h9⟩
          refine ok_lt fun x1_21 e_x1_21 => ?_
          have q_x1_21 : x1_21.toInt = t_29 := by rw [e_x1_21]; exact ht_29
          exact ih_a_66 _ x1_21 s_5 (by rw [hn_a_66]; omega) ⟨rfl, (by omega), hB_s_5, hF_s_5, hPI_s_5⟩
        · rw [fa_eq] at c_28
          refine ok_ix ⟨by omega, by omega⟩ ?_
          refine ok_lt fun v_23 e_v_23 => ?_
          have b_v_23 : (-1) ≤ v_23.toInt ∧ v_23.toInt ≤ 511 := by rw [e_v_23]; exact gX_57 hB_s_5 _
          have q_v_23 : v_23.toInt = (σ.1 57 (x1_5.toNatClampNeg)).toInt := by rw [e_v_23, hF_s_5.1 57 (by decide)]
          refine ok_ix ⟨by omega, by omega⟩ ?_
          refine ok_lt fun s_24 e_s_24 => ?_
          have hB_s_24 : BX s_24 := by rw [e_s_24]; exact pX_62 hB_s_5 (by omega)
          have hF_s_24 : FR [59, 62] [] σ s_24 := by rw [e_s_24]; exact FR.st hF_s_5 (by decide)
          have w_s_24_59 : (s_24.1 59 0).toInt = (s_5.1 59 0).toInt := by rw [e_s_24]; rfl
          have hPI_s_24 : PI s_24 := by rw [e_s_24]; exact PI.st1 (by decide) hPI_s_5
          obtain ⟨t_30, ht_30, g_30⟩ : ∃ t : Int, (x1_5 + 1).toInt = t ∧ t = x1_5.toInt + (1 : Int32).toInt := ⟨_, rfl, by have h9 := fb_addI (x := x1_5) (y := (1 : Int32)) (by omega) (by omega); exact h9⟩
          refine ok_lt fun x1_21 e_x1_21 => ?_
          have q_x1_21 : x1_21.toInt = t_30 := by rw [e_x1_21]; exact ht_30
          exact ih_a_66 _ x1_21 s_24 (by rw [hn_a_66]; omega) ⟨rfl, (by omega), hB_s_24, hF_s_24, hPI_s_24⟩
    · rw [fa_le] at c_5
      refine ok_ix ⟨by omega, by omega⟩ ?_
      have g_31 := gX_55 hB_s_3 (x1_3.toNatClampNeg)
      refine ok_lt fun v_25 e_v_25 => ?_
      have b_v_25 : (-1) ≤ v_25.toInt ∧ v_25.toInt ≤ 511 := by rw [e_v_25]; exact gX_55 hB_s_3 _
      have q_v_25 : v_25.toInt = (σ.1 55 (x1_3.toNatClampNeg)).toInt := by rw [e_v_25, hF_s_3.1 55 (by decide)]
      refine ok_jn ?_
      refine ok_ite (fun c_32 => ?_) (fun c_32 => ?_)
      · rw [fa_eq] at c_32
        obtain ⟨t_33, ht_33, g_33⟩ : ∃ t : Int, (x1_3 + 1).toInt = t ∧ t = x1_3.toInt + (1 : Int32).toInt := ⟨_, rfl, by have h9 := fb_addI (x := x1_3) (y := (1 : Int32)) (by omega) (by omega); exact h9⟩
        refine ok_lt fun x1_27 e_x1_27 => ?_
        have q_x1_27 : x1_27.toInt = t_33 := by rw [e_x1_27]; exact ht_33
        exact ih_a_28 _ x1_27 s_3 (by rw [hn_a_28]; omega) ⟨rfl, (by omega), hB_s_3, hF_s_3, hPI_s_3⟩
      · rw [fa_eq] at c_32
        refine ok_ix ⟨by omega, by omega⟩ ?_
        refine ok_lt fun v_29 e_v_29 => ?_
        have b_v_29 : (-1) ≤ v_29.toInt ∧ v_29.toInt ≤ 511 := by rw [e_v_29]; exact gX_55 hB_s_3 _
        have q_v_29 : v_29.toInt = (σ.1 55 (x1_3.toNatClampNeg)).toInt := by rw [e_v_29, hF_s_3.1 55 (by decide)]
        refine ok_ix ⟨by omega, by omega⟩ ?_
        refine ok_lt fun s_30 e_s_30 => ?_
        have hB_s_30 : BX s_30 := by rw [e_s_30]; exact pX_62 hB_s_3 (by omega)
        have hF_s_30 : FR [59, 62] [] σ s_30 := by rw [e_s_30]; exact FR.st hF_s_3 (by decide)
        have w_s_30_59 : (s_30.1 59 0).toInt = (s_3.1 59 0).toInt := by rw [e_s_30]; rfl
        have hPI_s_30 : PI s_30 := by rw [e_s_30]; exact PI.st1 (by decide) hPI_s_3
        obtain ⟨t_34, ht_34, g_34⟩ : ∃ t : Int, (x1_3 + 1).toInt = t ∧ t = x1_3.toInt + (1 : Int32).toInt := ⟨_, rfl, by have h9 := fb_addI (x := x1_3) (y := (1 : Int32)) (by omega) (by omega); exact h9⟩
        refine ok_lt fun x1_27 e_x1_27 => ?_
        have q_x1_27 : x1_27.toInt = t_34 := by rw [e_x1_27]; exact ht_34
        exact ih_a_28 _ x1_27 s_30 (by rw [hn_a_28]; omega) ⟨rfl, (by omega), hB_s_30, hF_s_30, hPI_s_30⟩
  · rw [fa_le] at c_1
    refine ok_ix ⟨by omega, by omega⟩ ?_
    refine ok_lt fun s_31 e_s_31 => ?_
    have hB_s_31 : BX s_31 := by rw [e_s_31]; exact pX_62 hB_s_1 (by omega)
    have hF_s_31 : FR [59, 62] [] σ s_31 := by rw [e_s_31]; exact FR.st hF_s_1 (by decide)
    have w_s_31_59 : (s_31.1 59 0).toInt = (s_1.1 59 0).toInt := by rw [e_s_31]; rfl
    have hPI_s_31 : PI s_31 := by rw [e_s_31]; exact PI.st1 (by decide) hPI_s_1
    obtain ⟨t_35, ht_35, g_35⟩ : ∃ t : Int, (x1_1 + 1).toInt = t ∧ t = x1_1.toInt + (1 : Int32).toInt := ⟨_, rfl, by have h9 := fb_addI (x := x1_1) (y := (1 : Int32)) (by omega) (by omega); exact h9⟩
    refine ok_lt fun x1_32 e_x1_32 => ?_
    have q_x1_32 : x1_32.toInt = t_35 := by rw [e_x1_32]; exact ht_35
    exact ih_a_2 _ x1_32 s_31 (by rw [hn_a_2]; omega) ⟨rfl, (by omega), hB_s_31, hF_s_31, hPI_s_31⟩

