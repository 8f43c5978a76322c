theorem FR.bl {ms ml : List Nat} {σ s : Sto} (f : FR ms ml σ s) {c k : Nat} (d : ms.all (fun q => decide (c ≤ q)) = true) (hk : k < c) : s.1 k = σ.1 k := f.1 k (fun hm => by
  have := List.all_eq_true.mp d k hm
  rw [decide_eq_true_eq] at this
  omega)
theorem FR.bll {ms ml : List Nat} {σ s : Sto} (f : FR ms ml σ s) {c k : Nat} (d : ml.all (fun q => decide (c ≤ q)) = true) (hk : k < c) : s.2 k = σ.2 k := f.2 k (fun hm => by
  have := List.all_eq_true.mp d k hm
  rw [decide_eq_true_eq] at this
  omega)
abbrev FC_ : List Nat := [20, 21, 22, 23, 24, 25, 26, 27, 28, 29, 30, 31, 32, 33]
abbrev FSx_ : List Nat := [34, 35, 36, 37, 38, 39, 40, 41, 42, 43, 44, 45]
abbrev FLx_ : List Nat := [46, 47, 48, 49, 50, 51, 52, 53, 54, 55, 56, 57, 58, 59, 60, 61, 62]
abbrev FN_ : List Nat := [68, 69, 70, 71, 72, 73, 74, 75, 76, 77]
/-- what adoptDraft does -/
def TRX (σ s : Sto) : Prop := ∃ s1 s2 s3 s4 s5 s6 s7 s8,
  (f_X3_copy_draft σ = some s1 ∧ BX s1 ∧ LV s1 ∧ LW s1 ∧ FE s1 ∧ CPY σ s1) ∧
  (f_X0_cut s1 = some s2 ∧ BX s2 ∧ FR FC_ [0] s1 s2 ∧ GB s2 ∧ EB s2 ∧ FE s2 ∧ ON s2 ∧ BV s2 ∧ PI s2 ∧ SI s2 ∧ LW s2 ∧ BKX s2) ∧
  (f_X8_form s2 = some s3 ∧ BX s3 ∧ FR FSx_ [1, 2, 3, 4, 5] s2 s3 ∧ BV s3 ∧ MB s3) ∧
  (f_X1_lift s3 = some s4 ∧ BX s4 ∧ FR FLx_ [] s3 s4 ∧ PI s4 ∧ SI s4 ∧ PA s4 ∧ ES s4 ∧ TS s4 ∧ FS s4) ∧
  (f_X10_judge s4 = some s5 ∧ BX s5 ∧ FR [63, 64, 65] [] s4 s5) ∧
  (f_X4_flow s5 = some s6 ∧ BX s6 ∧ FR [66, 67] [6] s5 s6) ∧
  (s7 = sti s6 68 0 0 ∧ BX s7) ∧
  (((s7.1 34 0 = 0 ∧ f_X2_tellAll s7 = some s8 ∧ BX s8 ∧ LI s8 ∧ LQ s8) ∨ (s7.1 34 0 ≠ 0 ∧ s8 = s7)) ∧ FR FN_ [] s7 s8) ∧
  s = sti s8 0 0 1
theorem u_X11_adoptDraft {σ : Sto} (hB : BX σ) (hDV : DV σ) (hPI : PI σ) (hSI : SI σ) (hLI : LI σ) (hFE : FE σ) (hBV : BV σ) : OK (f_X11_adoptDraft σ) (TRX σ) := by
  unfold f_X11_adoptDraft
  have hF : FR [0, 4, 5, 6, 7, 8, 9, 10, 11, 20, 21, 22, 23, 24, 25, 26, 27, 28, 29, 30, 31, 32, 33, 34, 35, 36, 37, 38, 39, 40, 41, 42, 43, 44, 45, 46, 47, 48, 49, 50, 51, 52, 53, 54, 55, 56, 57, 58, 59, 60, 61, 62, 63, 64, 65, 66, 67, 68, 69, 70, 71, 72, 73, 74, 75, 76, 77] [0, 1, 2, 3, 4, 5, 6] σ σ := FR.rf
  have k_0 : (0 : Int32).toInt = 0 := by decide +kernel
  have k_1 : (1 : Int32).toInt = 1 := by decide +kernel
  have y_1 := s_X3_copy_draft  (σ := σ) hB
  refine ok_cals (ok_tr y_1 (pc_and (pc_ok y_1) pc_eq)) (fun s_1 h_1 => ?_)
  obtain ⟨⟨hB_s_1, hG_s_1, x_s_1⟩, z_1⟩ := h_1
  (try dsimp only at hB_s_1 hG_s_1 x_s_1)
  have hF_s_1 : FR [0, 4, 5, 6, 7, 8, 9, 10, 11, 20, 21, 22, 23, 24, 25, 26, 27, 28, 29, 30, 31, 32, 33, 34, 35, 36, 37, 38, 39, 40, 41, 42, 43, 44, 45, 46, 47, 48, 49, 50, 51, 52, 53, 54, 55, 56, 57, 58, 59, 60, 61, 62, 63, 64, 65, 66, 67, 68, 69, 70, 71, 72, 73, 74, 75, 76, 77] [0, 1, 2, 3, 4, 5, 6] σ s_1 := FR.cal hF hG_s_1 rfl rfl
  have w_s_1_34 : (s_1.1 34 0).toInt = (σ.1 34 0).toInt := by rw [hG_s_1.1 34 (by decide)]
  have w_s_1_68 : (s_1.1 68 0).toInt = (σ.1 68 0).toInt := by rw [hG_s_1.1 68 (by decide)]
  have hDV_s_1 : DV s_1 := DV.fr hG_s_1 (by decide) hDV
  have hPI_s_1 : PI s_1 := PI.fr hG_s_1 (by decide) hPI
  have hSI_s_1 : SI s_1 := SI.fr hG_s_1 (by decide) hSI
  have hLI_s_1 : LI s_1 := LI.fr hG_s_1 (by decide) hLI
  have hFE_s_1 : FE s_1 := FE.fr hG_s_1 (by decide) hFE
  have hBV_s_1 : BV s_1 := BV.fr hG_s_1 (by decide) hBV
  have hLW_s_1 : LW s_1 := LW.cp hDV (gX_12 hB 0) (gX_13 hB 0) x_s_1
  have hLV_s_1 : LV s_1 := LW.lv hLW_s_1 hB_s_1
  have hCP_s_1 : CPY σ s_1 := x_s_1
  have y_2 := t_X0_cut  (σ := s_1) hB_s_1 hLV_s_1 hLW_s_1 hFE_s_1
  refine ok_cals (ok_tr y_2 (pc_and (pc_ok y_2) pc_eq)) (fun s_2 h_2 => ?_)
  obtain ⟨⟨hB_s_2, hG_s_2, hGB_s_2, hEB_s_2, hFE_s_2, hON_s_2, hbk0⟩, z_2⟩ := h_2
  (try dsimp only at hB_s_2 hG_s_2 hGB_s_2 hEB_s_2 hFE_s_2 hON_s_2)
  have hF_s_2 : FR [0, 4, 5, 6, 7, 8, 9, 10, 11, 20, 21, 22, 23, 24, 25, 26, 27, 28, 29, 30, 31, 32, 33, 34, 35, 36, 37, 38, 39, 40, 41, 42, 43, 44, 45, 46, 47, 48, 49, 50, 51, 52, 53, 54, 55, 56, 57, 58, 59, 60, 61, 62, 63, 64, 65, 66, 67, 68, 69, 70, 71, 72, 73, 74, 75, 76, 77] [0, 1, 2, 3, 4, 5, 6] σ s_2 := FR.cal hF_s_1 hG_s_2 rfl rfl
  have w_s_2_34 : (s_2.1 34 0).toInt = (s_1.1 34 0).toInt := by rw [hG_s_2.1 34 (by decide)]
  have w_s_2_68 : (s_2.1 68 0).toInt = (s_1.1 68 0).toInt := by rw [hG_s_2.1 68 (by decide)]
  have hDV_s_2 : DV s_2 := DV.fr hG_s_2 (by decide) hDV_s_1
  have hPI_s_2 : PI s_2 := PI.fr hG_s_2 (by decide) hPI_s_1
  have hSI_s_2 : SI s_2 := SI.fr hG_s_2 (by decide) hSI_s_1
  have hLI_s_2 : LI s_2 := LI.fr hG_s_2 (by decide) hLI_s_1
  have hBV_s_2 : BV s_2 := BV.fr hG_s_2 (by decide) hBV_s_1
  have hLW_s_2 : LW s_2 := LW.fr hG_s_2 (by decide) hLW_s_1
  have hLV_s_2 : LV s_2 := LV.fr hG_s_2 (by decide) hLV_s_1
  have hBX_s_2 : BKX s_2 := BKX.of hbk0 hG_s_2
  have hCP_s_2 : CPY σ s_2 := CPY.fr hG_s_2 (by decide) hCP_s_1
  have y_3 := s_X8_form  (σ := s_2) hB_s_2 hEB_s_2 hBV_s_2
  refine ok_cals (ok_tr y_3 (pc_and (pc_ok y_3) pc_eq)) (fun s_3 h_3 => ?_)
  obtain ⟨⟨hB_s_3, hG_s_3, hBV_s_3, hMB_s_3⟩, z_3⟩ := h_3
  (try dsimp only at hB_s_3 hG_s_3 hBV_s_3 hMB_s_3)
  have hF_s_3 : FR [0, 4, 5, 6, 7, 8, 9, 10, 11, 20, 21, 22, 23, 24, 25, 26, 27, 28, 29, 30, 31, 32, 33, 34, 35, 36, 37, 38, 39, 40, 41, 42, 43, 44, 45, 46, 47, 48, 49, 50, 51, 52, 53, 54, 55, 56, 57, 58, 59, 60, 61, 62, 63, 64, 65, 66, 67, 68, 69, 70, 71, 72, 73, 74, 75, 76, 77] [0, 1, 2, 3, 4, 5, 6] σ s_3 := FR.cal hF_s_2 hG_s_3 rfl rfl
  have w_s_3_68 : (s_3.1 68 0).toInt = (s_2.1 68 0).toInt := by rw [hG_s_3.1 68 (by decide)]
  have hGB_s_3 : GB s_3 := GB.fr hG_s_3 (by decide) hGB_s_2
  have hEB_s_3 : EB s_3 := EB.fr hG_s_3 (by decide) hEB_s_2
  have hFE_s_3 : FE s_3 := FE.fr hG_s_3 (by decide) hFE_s_2
  have hON_s_3 : ON s_3 := ON.fr hG_s_3 (by decide) hON_s_2
  have hDV_s_3 : DV s_3 := DV.fr hG_s_3 (by decide) hDV_s_2
  have hPI_s_3 : PI s_3 := PI.fr hG_s_3 (by decide) hPI_s_2
  have hSI_s_3 : SI s_3 := SI.fr hG_s_3 (by decide) hSI_s_2
  have hLI_s_3 : LI s_3 := LI.fr hG_s_3 (by decide) hLI_s_2
  have hLW_s_3 : LW s_3 := LW.fr hG_s_3 (by decide) hLW_s_2
  have hLV_s_3 : LV s_3 := LV.fr hG_s_3 (by decide) hLV_s_2
  have hBX_s_3 : BKX s_3 := BKX.fr hG_s_3 (by decide) hBX_s_2
  have hCP_s_3 : CPY σ s_3 := CPY.fr hG_s_3 (by decide) hCP_s_2
  have y_4 := s_X1_lift  (σ := s_3) hB_s_3 hPI_s_3 hSI_s_3 hGB_s_3
  refine ok_cals (ok_tr y_4 (pc_and (pc_ok y_4) pc_eq)) (fun s_4 h_4 => ?_)
  obtain ⟨⟨hB_s_4, hG_s_4, hPI_s_4, hSI_s_4, hPA_s_4, hES_s_4, hTS_s_4, hFS_s_4⟩, z_4⟩ := h_4
  (try dsimp only at hB_s_4 hG_s_4 hPI_s_4 hSI_s_4 hPA_s_4 hES_s_4 hTS_s_4 hFS_s_4)
  have hF_s_4 : FR [0, 4, 5, 6, 7, 8, 9, 10, 11, 20, 21, 22, 23, 24, 25, 26, 27, 28, 29, 30, 31, 32, 33, 34, 35, 36, 37, 38, 39, 40, 41, 42, 43, 44, 45, 46, 47, 48, 49, 50, 51, 52, 53, 54, 55, 56, 57, 58, 59, 60, 61, 62, 63, 64, 65, 66, 67, 68, 69, 70, 71, 72, 73, 74, 75, 76, 77] [0, 1, 2, 3, 4, 5, 6] σ s_4 := FR.cal hF_s_3 hG_s_4 rfl rfl
  have w_s_4_34 : (s_4.1 34 0).toInt = (s_3.1 34 0).toInt := by rw [hG_s_4.1 34 (by decide)]
  have w_s_4_68 : (s_4.1 68 0).toInt = (s_3.1 68 0).toInt := by rw [hG_s_4.1 68 (by decide)]
  have hBV_s_4 : BV s_4 := BV.fr hG_s_4 (by decide) hBV_s_3
  have hMB_s_4 : MB s_4 := MB.fr hG_s_4 (by decide) hMB_s_3
  have hGB_s_4 : GB s_4 := GB.fr hG_s_4 (by decide) hGB_s_3
  have hEB_s_4 : EB s_4 := EB.fr hG_s_4 (by decide) hEB_s_3
  have hFE_s_4 : FE s_4 := FE.fr hG_s_4 (by decide) hFE_s_3
  have hON_s_4 : ON s_4 := ON.fr hG_s_4 (by decide) hON_s_3
  have hDV_s_4 : DV s_4 := DV.fr hG_s_4 (by decide) hDV_s_3
  have hLI_s_4 : LI s_4 := LI.fr hG_s_4 (by decide) hLI_s_3
  have hLW_s_4 : LW s_4 := LW.fr hG_s_4 (by decide) hLW_s_3
  have hLV_s_4 : LV s_4 := LV.fr hG_s_4 (by decide) hLV_s_3
  have hBX_s_4 : BKX s_4 := BKX.fr hG_s_4 (by decide) hBX_s_3
  have hCP_s_4 : CPY σ s_4 := CPY.fr hG_s_4 (by decide) hCP_s_3
  have y_5 := s_X10_judge  (σ := s_4) hB_s_4 hPI_s_4 hSI_s_4
  refine ok_cals (ok_tr y_5 (pc_and (pc_ok y_5) pc_eq)) (fun s_5 h_5 => ?_)
  obtain ⟨⟨hB_s_5, hG_s_5⟩, z_5⟩ := h_5
  (try dsimp only at hB_s_5 hG_s_5)
  have hF_s_5 : FR [0, 4, 5, 6, 7, 8, 9, 10, 11, 20, 21, 22, 23, 24, 25, 26, 27, 28, 29, 30, 31, 32, 33, 34, 35, 36, 37, 38, 39, 40, 41, 42, 43, 44, 45, 46, 47, 48, 49, 50, 51, 52, 53, 54, 55, 56, 57, 58, 59, 60, 61, 62, 63, 64, 65, 66, 67, 68, 69, 70, 71, 72, 73, 74, 75, 76, 77] [0, 1, 2, 3, 4, 5, 6] σ s_5 := FR.cal hF_s_4 hG_s_5 rfl rfl
  have w_s_5_34 : (s_5.1 34 0).toInt = (s_4.1 34 0).toInt := by rw [hG_s_5.1 34 (by decide)]
  have w_s_5_68 : (s_5.1 68 0).toInt = (s_4.1 68 0).toInt := by rw [hG_s_5.1 68 (by decide)]
  have hPI_s_5 : PI s_5 := PI.fr hG_s_5 (by decide) hPI_s_4
  have hSI_s_5 : SI s_5 := SI.fr hG_s_5 (by decide) hSI_s_4
  have hPA_s_5 : PA s_5 := PA.fr hG_s_5 (by decide) hPA_s_4
  have hES_s_5 : ES s_5 := ES.fr hG_s_5 (by decide) hES_s_4
  have hTS_s_5 : TS s_5 := TS.fr hG_s_5 (by decide) hTS_s_4
  have hFS_s_5 : FS s_5 := FS.fr hG_s_5 (by decide) hFS_s_4
  have hBV_s_5 : BV s_5 := BV.fr hG_s_5 (by decide) hBV_s_4
  have hMB_s_5 : MB s_5 := MB.fr hG_s_5 (by decide) hMB_s_4
  have hGB_s_5 : GB s_5 := GB.fr hG_s_5 (by decide) hGB_s_4
  have hEB_s_5 : EB s_5 := EB.fr hG_s_5 (by decide) hEB_s_4
  have hFE_s_5 : FE s_5 := FE.fr hG_s_5 (by decide) hFE_s_4
  have hON_s_5 : ON s_5 := ON.fr hG_s_5 (by decide) hON_s_4
  have hDV_s_5 : DV s_5 := DV.fr hG_s_5 (by decide) hDV_s_4
  have hLI_s_5 : LI s_5 := LI.fr hG_s_5 (by decide) hLI_s_4
  have hLW_s_5 : LW s_5 := LW.fr hG_s_5 (by decide) hLW_s_4
  have hLV_s_5 : LV s_5 := LV.fr hG_s_5 (by decide) hLV_s_4
  have hBX_s_5 : BKX s_5 := BKX.fr hG_s_5 (by decide) hBX_s_4
  have hCP_s_5 : CPY σ s_5 := CPY.fr hG_s_5 (by decide) hCP_s_4
  have y_6 := s_X4_flow  (σ := s_5) hB_s_5
  refine ok_cals (ok_tr y_6 (pc_and (pc_ok y_6) pc_eq)) (fun s_6 h_6 => ?_)
  obtain ⟨⟨hB_s_6, hG_s_6⟩, z_6⟩ := h_6
  (try dsimp only at hB_s_6 hG_s_6)
  have hF_s_6 : FR [0, 4, 5, 6, 7, 8, 9, 10, 11, 20, 21, 22, 23, 24, 25, 26, 27, 28, 29, 30, 31, 32, 33, 34, 35, 36, 37, 38, 39, 40, 41, 42, 43, 44, 45, 46, 47, 48, 49, 50, 51, 52, 53, 54, 55, 56, 57, 58, 59, 60, 61, 62, 63, 64, 65, 66, 67, 68, 69, 70, 71, 72, 73, 74, 75, 76, 77] [0, 1, 2, 3, 4, 5, 6] σ s_6 := FR.cal hF_s_5 hG_s_6 rfl rfl
  have w_s_6_34 : (s_6.1 34 0).toInt = (s_5.1 34 0).toInt := by rw [hG_s_6.1 34 (by decide)]
  have w_s_6_68 : (s_6.1 68 0).toInt = (s_5.1 68 0).toInt := by rw [hG_s_6.1 68 (by decide)]
  have hPI_s_6 : PI s_6 := PI.fr hG_s_6 (by decide) hPI_s_5
  have hSI_s_6 : SI s_6 := SI.fr hG_s_6 (by decide) hSI_s_5
  have hPA_s_6 : PA s_6 := PA.fr hG_s_6 (by decide) hPA_s_5
  have hES_s_6 : ES s_6 := ES.fr hG_s_6 (by decide) hES_s_5
  have hTS_s_6 : TS s_6 := TS.fr hG_s_6 (by decide) hTS_s_5
  have hFS_s_6 : FS s_6 := FS.fr hG_s_6 (by decide) hFS_s_5
  have hBV_s_6 : BV s_6 := BV.fr hG_s_6 (by decide) hBV_s_5
  have hMB_s_6 : MB s_6 := MB.fr hG_s_6 (by decide) hMB_s_5
  have hGB_s_6 : GB s_6 := GB.fr hG_s_6 (by decide) hGB_s_5
  have hEB_s_6 : EB s_6 := EB.fr hG_s_6 (by decide) hEB_s_5
  have hFE_s_6 : FE s_6 := FE.fr hG_s_6 (by decide) hFE_s_5
  have hON_s_6 : ON s_6 := ON.fr hG_s_6 (by decide) hON_s_5
  have hDV_s_6 : DV s_6 := DV.fr hG_s_6 (by decide) hDV_s_5
  have hLI_s_6 : LI s_6 := LI.fr hG_s_6 (by decide) hLI_s_5
  have hLW_s_6 : LW s_6 := LW.fr hG_s_6 (by decide) hLW_s_5
  have hLV_s_6 : LV s_6 := LV.fr hG_s_6 (by decide) hLV_s_5
  have hBX_s_6 : BKX s_6 := BKX.fr hG_s_6 (by decide) hBX_s_5
  have hCP_s_6 : CPY σ s_6 := CPY.fr hG_s_6 (by decide) hCP_s_5
  refine ok_lt fun s_7 e_s_7 => ?_
  have hB_s_7 : BX s_7 := by rw [e_s_7]; exact pX_68 hB_s_6 (by omega)
  have hF_s_7 : FR [0, 4, 5, 6, 7, 8, 9, 10, 11, 20, 21, 22, 23, 24, 25, 26, 27, 28, 29, 30, 31, 32, 33, 34, 35, 36, 37, 38, 39, 40, 41, 42, 43, 44, 45, 46, 47, 48, 49, 50, 51, 52, 53, 54, 55, 56, 57, 58, 59, 60, 61, 62, 63, 64, 65, 66, 67, 68, 69, 70, 71, 72, 73, 74, 75, 76, 77] [0, 1, 2, 3, 4, 5, 6] σ s_7 := by rw [e_s_7]; exact FR.st hF_s_6 (by decide)
  have w_s_7_34 : (s_7.1 34 0).toInt = (s_6.1 34 0).toInt := by rw [e_s_7]; rfl
  have w_s_7_68 : (s_7.1 68 0).toInt = (0 : Int32).toInt := by rw [e_s_7, sti_s]
  have hPI_s_7 : PI s_7 := by rw [e_s_7]; exact PI.st1 (by decide) hPI_s_6
  have hSI_s_7 : SI s_7 := by rw [e_s_7]; exact SI.st1 (by decide) hSI_s_6
  have hPA_s_7 : PA s_7 := by rw [e_s_7]; exact PA.st1 (by decide) hPA_s_6
  have hES_s_7 : ES s_7 := by rw [e_s_7]; exact ES.st1 (by decide) hES_s_6
  have hTS_s_7 : TS s_7 := by rw [e_s_7]; exact TS.st1 (by decide) hTS_s_6
  have hFS_s_7 : FS s_7 := by rw [e_s_7]; exact FS.st1 (by decide) hFS_s_6
  have hBV_s_7 : BV s_7 := by rw [e_s_7]; exact BV.st1 (by decide) hBV_s_6
  have hMB_s_7 : MB s_7 := by rw [e_s_7]; exact MB.st1 (by decide) hMB_s_6
  have hGB_s_7 : GB s_7 := by rw [e_s_7]; exact GB.st1 (by decide) hGB_s_6
  have hEB_s_7 : EB s_7 := by rw [e_s_7]; exact EB.st1 (by decide) hEB_s_6
  have hFE_s_7 : FE s_7 := by rw [e_s_7]; exact FE.st1 (by decide) hFE_s_6
  have hON_s_7 : ON s_7 := by rw [e_s_7]; exact ON.st1 (by decide) hON_s_6
  have hDV_s_7 : DV s_7 := by rw [e_s_7]; exact DV.st1 (by decide) hDV_s_6
  have hLI_s_7 : LI s_7 := by rw [e_s_7]; exact LI.st1 (by decide) hLI_s_6
  have hLW_s_7 : LW s_7 := by rw [e_s_7]; exact LW.st1 (by decide) hLW_s_6
  have hLV_s_7 : LV s_7 := by rw [e_s_7]; exact LV.st1 (by decide) hLV_s_6
  have hBX_s_7 : BKX s_7 := by rw [e_s_7]; exact BKX.st1 (by decide) hBX_s_6
  have hCP_s_7 : CPY σ s_7 := by rw [e_s_7]; exact CPY.st1 (by decide) hCP_s_6
  have hLQ_s_7 : LQ s_7 := fun i hi => by exfalso; omega
  refine ok_jnI1 (fun (s_8 : Sto) => ((s_7.1 34 0 = 0 ∧ f_X2_tellAll s_7 = some s_8 ∧ BX s_8 ∧ LI s_8 ∧ LQ s_8) ∨ (s_7.1 34 0 ≠ 0 ∧ s_8 = s_7)) ∧ FR FN_ [] s_7 s_8) ?_ ?_
  · intro s_8 hJ
    exact ok_lt fun s_9 e_s_9 => ok_ret ⟨s_1, s_2, s_3, s_4, s_5, s_6, s_7, s_8, ⟨z_1, hB_s_1, hLV_s_1, hLW_s_1, hFE_s_1, hCP_s_1⟩, ⟨z_2, hB_s_2, hG_s_2, hGB_s_2, hEB_s_2, hFE_s_2, hON_s_2, hBV_s_2, hPI_s_2, hSI_s_2, hLW_s_2, hBX_s_2⟩, ⟨z_3, hB_s_3, hG_s_3, hBV_s_3, hMB_s_3⟩, ⟨z_4, hB_s_4, hG_s_4, hPI_s_4, hSI_s_4, hPA_s_4, hES_s_4, hTS_s_4, hFS_s_4⟩, ⟨z_5, hB_s_5, hG_s_5⟩, ⟨z_6, hB_s_6, hG_s_6⟩, ⟨e_s_7, hB_s_7⟩, hJ, e_s_9⟩
  · intro k_71 hk_k_71
    have g_8 := gX_34 hB_s_7 0
    refine ok_ite (fun c_7 => ?_) (fun c_7 => ?_)
    · have y_7 := s_X2_tellAll  (σ := s_7) hB_s_7 hLI_s_7 hLQ_s_7 hFE_s_7 hFS_s_7 hTS_s_7 hON_s_7 hMB_s_7 hEB_s_7.1
      refine ok_cals (ok_tr y_7 (pc_and (pc_ok y_7) pc_eq)) (fun s_11 h_9 => ?_)
      obtain ⟨⟨hB_s_11, hG_s_11, hLI_s_11, hLQ_s_11⟩, z_7⟩ := h_9
      exact hk_k_71 s_11 ⟨Or.inl ⟨c_7, z_7, hB_s_11, hLI_s_11, hLQ_s_11⟩, hG_s_11⟩
    · exact hk_k_71 s_7 ⟨Or.inr ⟨c_7, rfl⟩, FR.rf⟩
/-- what lays does -/
def TRM (σ s : Sto) : Prop := ∃ s1 s2 s3 s4 s5 s6 s7 s8 s9,
  (f_X12_laysBlocks σ = some s1 ∧ BM s1 ∧ FR [22, 23, 24, 26] [] σ s1 ∧ QL s1 ∧ BK s1 ∧ 1 ≤ nB s1) ∧
  (f_X12_laysEdges s1 = some s2 ∧ BM s2 ∧ FR FE_ [] s1 s2 ∧ ED s2) ∧
  (f_X12_laysJumps s2 = some s3 ∧ BM s3 ∧ FR FJ_ [0] s2 s3 ∧ ED s3 ∧ JXt s3 ∧ -1 ≤ (s3.1 36 0).toInt ∧ ((s3.1 36 0).toInt ≠ -1 → GD s3)) ∧
  (f_X12_laysOrder s3 = some s4 ∧ BM s4 ∧ FR [33, 35] [2] s3 s4 ∧ (GD s3 → ORD s4)) ∧
  (f_X12_laysAbove s4 = some s5 ∧ BM s5 ∧ FR [34] [] s4 s5 ∧ (GD s4 → 1 ≤ nB s4 → ABV s5)) ∧
  (f_X12_laysLoops s5 = some s6 ∧ BM s6 ∧ FR [] [1] s5 s6 ∧ LPS s6) ∧
  (f_X12_laysStatements s6 = some s7 ∧ BM s7 ∧ FR FT_ [] s6 s7 ∧ STS s7) ∧
  (f_X12_laysTypes s7 = some s8 ∧ BM s8 ∧ FR [52, 53, 54] [] s7 s8) ∧
  (f_X12_laysLive s8 = some s9 ∧ BM s9 ∧ FR FLV [] s8 s9) ∧
  (f_X12_laysLines s9 = some s ∧ BM s ∧ FR LYS [] s9 s)
theorem u_lays_ {σ : Sto} (hB : BM σ) (hQ : QL σ) : OK (f_X12_lays_ σ) (TRM σ) := by
  unfold f_X12_lays_
  have y1 := s_laysBlocks hB hQ
  refine ok_cals (ok_tr y1 (pc_and (pc_ok y1) pc_eq)) (fun s1 q => ?_)
  obtain ⟨⟨B1, f1, Q1, K1⟩, z1⟩ := q
  have y2 := s_laysEdges B1 Q1 K1
  refine ok_cals (ok_tr y2 (pc_and (pc_ok y2) pc_eq)) (fun s2 q => ?_)
  obtain ⟨⟨B2, f2, E2⟩, z2⟩ := q
  have y3 := s_laysJumps B2 E2.efi
  refine ok_cals (ok_tr y3 (pc_and (pc_ok y3) pc_eq)) (fun s3 q => ?_)
  obtain ⟨⟨B3, f3, J3, t3, G3⟩, z3⟩ := q
  have E3 : ED s3 := E2.cg (f3.1 9 (by decide)) (f3.1 10 (by decide)) (f3.1 23 (by decide)) (f3.1 24 (by decide)) (f3.1 25 (by decide)) (f3.1 26 (by decide)) (f3.1 27 (by decide)) (f3.1 28 (by decide)) (f3.1 29 (by decide)) (f3.1 32 (by decide))
  have N1 : 1 ≤ nB s1 := by
    have d0 := Q1.d0
    have c0 : 0 < nC s1 := by have := Q1.1; unfold nC; omega
    have := BK.of_ B1 Q1 K1 c0 (by rw [d0]; decide)
    omega
  have N3 : 1 ≤ nB s3 := by unfold nB at N1 ⊢; rw [f3.1 26 (by decide), f2.1 26 (by decide)]; exact N1
  have y4 := s_laysOrder B3 E3.efi N3
  refine ok_cals (ok_tr y4 (pc_and (pc_ok y4) pc_eq)) (fun s4 q => ?_)
  obtain ⟨⟨B4, f4, O4⟩, z4⟩ := q
  have y5 := s_laysAbove B4
  refine ok_cals (ok_tr y5 (pc_and (pc_ok y5) pc_eq)) (fun s5 q => ?_)
  obtain ⟨⟨B5, f5, a5, A5⟩, z5⟩ := q
  have f35 : FR R3_ [1, 2] s3 s5 := FR.cal (FR.cal FR.rf f4 rfl rfl) f5 rfl rfl
  have E5 : ED s5 := E3.cg (f35.1 9 (by decide)) (f35.1 10 (by decide)) (f35.1 23 (by decide)) (f35.1 24 (by decide)) (f35.1 25 (by decide)) (f35.1 26 (by decide)) (f35.1 27 (by decide)) (f35.1 28 (by decide)) (f35.1 29 (by decide)) (f35.1 32 (by decide))
  have y6 := s_laysLoops B5 E5.efi
  refine ok_cals (ok_tr y6 (pc_and (pc_ok y6) pc_eq)) (fun s6 q => ?_)
  obtain ⟨⟨B6, f6, L6⟩, z6⟩ := q
  have f16 : FR R1_ [0, 1, 2] s1 s6 := FR.cal (FR.cal (FR.cal (FR.cal FR.rf f2 rfl rfl) f3 rfl rfl) f35 rfl rfl) f6 rfl rfl
  have sq : ∀ {s : Sto}, FR R1_ [0, 1, 2] s1 s → QL s ∧ BK s := fun {s} g => by
    have e : ∀ k, k = 9 ∨ k = 10 ∨ k = 11 ∨ k = 15 ∨ k = 16 ∨ k = 20 → s.1 k = s1.1 k := fun k hk => by
      rcases hk with z | z | z | z | z | z <;> subst z <;> exact g.1 _ (by decide)
    exact ⟨Q1.cg e, K1.cg e (g.1 22 (by decide)) (g.1 23 (by decide)) (g.1 24 (by decide)) (g.1 26 (by decide))⟩
  have y7 := s_laysStatements B6 (sq f16).1 (sq f16).2
  refine ok_cals (ok_tr y7 (pc_and (pc_ok y7) pc_eq)) (fun s7 q => ?_)
  obtain ⟨⟨B7, f7, S7⟩, z7⟩ := q
  have y8 := s_laysTypes B7 S7.1
  refine ok_cals (ok_tr y8 (pc_and (pc_ok y8) pc_eq)) (fun s8 q => ?_)
  obtain ⟨⟨B8, f8⟩, z8⟩ := q
  have f18 : FR R1_ [0, 1, 2] s1 s8 := FR.cal (FR.cal f16 f7 rfl rfl) f8 rfl rfl
  have f28 : FR R2_ [0, 1, 2] s2 s8 := FR.cal (FR.cal (FR.cal (FR.cal (FR.cal FR.rf f3 rfl rfl) f35 rfl rfl) f6 rfl rfl) f7 rfl rfl) f8 rfl rfl
  have E8 : ED s8 := E2.cg (f28.1 9 (by decide)) (f28.1 10 (by decide)) (f28.1 23 (by decide)) (f28.1 24 (by decide)) (f28.1 25 (by decide)) (f28.1 26 (by decide)) (f28.1 27 (by decide)) (f28.1 28 (by decide)) (f28.1 29 (by decide)) (f28.1 32 (by decide))
  have y9 := s_laysLive B8 (sq f18).1 (sq f18).2 E8.2.2.2.2.2
  refine ok_cals (ok_tr y9 (pc_and (pc_ok y9) pc_eq)) (fun s9 q => ?_)
  obtain ⟨⟨B9, f9⟩, z9⟩ := q
  -- all of it, at a store where the rows before the lines stand
  have tr : ∀ {s : Sto}, BM s → FR R7_ [] s7 s → QL s ∧ BK s ∧ ED s ∧ JXt s ∧ -1 ≤ (s.1 36 0).toInt ∧ ((s.1 36 0).toInt ≠ -1 → GD s ∧ ORD s ∧ ABV s) ∧ (∀ b, b < nB s → -1 ≤ (s.1 34 b).toInt ∧ (s.1 34 b).toInt < (nB s : Int)) ∧ LPS s ∧ STS s ∧ 1 ≤ nB s := fun {s} hBs g => by
    have g6 : FR R6_ [] s6 s := FR.cal (FR.cal FR.rf f7 rfl rfl) g rfl rfl
    have g5 : FR R6_ [1] s5 s := FR.cal (FR.cal FR.rf f6 rfl rfl) g6 rfl rfl
    have g4 : FR R5_ [1] s4 s := FR.cal (FR.cal FR.rf f5 rfl rfl) g5 rfl rfl
    have g3 : FR R3_ [1, 2] s3 s := FR.cal (FR.cal FR.rf f4 rfl rfl) g4 rfl rfl
    have g2 : FR R2_ [0, 1, 2] s2 s := FR.cal (FR.cal FR.rf f3 rfl rfl) g3 rfl rfl
    have g1 : FR R1_ [0, 1, 2] s1 s := FR.cal (FR.cal FR.rf f2 rfl rfl) g2 rfl rfl
    have N : 1 ≤ nB s := by unfold nB at N1 ⊢; rw [g1.1 26 (by decide)]; exact N1
    have gd : (s.1 36 0).toInt ≠ -1 → GD s3 := fun h => G3 (by rw [← g3.1 36 (by decide)]; exact h)
    refine ⟨(sq g1).1, (sq g1).2, E2.cg (g2.1 9 (by decide)) (g2.1 10 (by decide)) (g2.1 23 (by decide)) (g2.1 24 (by decide)) (g2.1 25 (by decide)) (g2.1 26 (by decide)) (g2.1 27 (by decide)) (g2.1 28 (by decide)) (g2.1 29 (by decide)) (g2.1 32 (by decide)), J3.cg (g3.1 29 (by decide)) (g3.1 30 (by decide)) (g3.1 32 (by decide)), by rw [g3.1 36 (by decide)]; exact t3, fun h => ?_, fun b hb => ?_, L6.cg (g6.1 28 (by decide)) (g6.1 31 (by decide)) (g6.1 32 (by decide)) (g6.2 1 (by decide)), S7.cg (g.1 9 (by decide)) (g.1 10 (by decide)) (g.1 23 (by decide)) (g.1 24 (by decide)) (g.1 26 (by decide)) (fun k h1 h2 => g.1 k (by simp; omega)), N⟩
    · have G := gd h
      have G4 : GD s4 := G.cg (f4.1 26 (by decide)) (f4.1 27 (by decide)) (f4.1 28 (by decide)) (f4.1 30 (by decide)) (f4.1 31 (by decide)) (f4.1 32 (by decide)) (f4.2 0 (by decide))
      have N4 : 1 ≤ nB s4 := by unfold nB at N3 ⊢; rw [f4.1 26 (by decide)]; exact N3
      exact ⟨G.cg (g3.1 26 (by decide)) (g3.1 27 (by decide)) (g3.1 28 (by decide)) (g3.1 30 (by decide)) (g3.1 31 (by decide)) (g3.1 32 (by decide)) (g3.2 0 (by decide)), (O4 G).cg (g4.1 26 (by decide)) (g4.1 27 (by decide)) (g4.1 28 (by decide)) (g4.1 30 (by decide)) (g4.1 31 (by decide)) (g4.1 32 (by decide)) (g4.1 33 (by decide)), (A5 G4 N4).cg (g5.1 26 (by decide)) (g5.1 34 (by decide)) (g5.2 0 (by decide))⟩
    · have nb : nB s = nB s4 := by unfold nB; rw [g4.1 26 (by decide)]
      rw [nb] at hb ⊢
      rw [g5.1 34 (by decide)]
      exact a5 b hb
  have g9 : FR R7_ [] s7 s9 := FR.cal (FR.cal FR.rf f8 rfl rfl) f9 rfl rfl
  have T9 := tr B9 g9
  have y10 := s_laysLines B9 (fun h => ⟨B9, T9.1, T9.2.1, T9.2.2.1, (T9.2.2.2.2.2.1 h).1, (T9.2.2.2.2.2.1 h).2.1, (T9.2.2.2.2.2.1 h).2.2, T9.2.2.2.2.2.2.2.2.1, T9.2.2.2.2.2.2.2.2.2⟩)
  refine ok_cals (ok_tr y10 (pc_and (pc_ok y10) pc_eq)) (fun s10 q => ?_)
  obtain ⟨⟨B10, f10, L10⟩, z10⟩ := q
  exact ok_ret ⟨s1, s2, s3, s4, s5, s6, s7, s8, s9, ⟨z1, B1, f1, Q1, K1, N1⟩, ⟨z2, B2, f2, E2⟩, ⟨z3, B3, f3, E3, J3, t3, G3⟩, ⟨z4, B4, f4, O4⟩, ⟨z5, B5, f5, A5⟩, ⟨z6, B6, f6, L6⟩, ⟨z7, B7, f7, S7⟩, ⟨z8, B8, f8⟩, ⟨z9, B9, f9⟩, ⟨z10, B10, f10⟩⟩
theorem AD4.tr {σ : Sto} (h : AD4 σ) : ∃ s5 a, GDX s5 ∧ TRX s5 a ∧ SAX a σ := by
  obtain ⟨s5, a, g, e, q⟩ := h
  exact ⟨s5, a, g, ok_get (u_X11_adoptDraft g.1 g.2.1 g.2.2.1 g.2.2.2.1 g.2.2.2.2.1 g.2.2.2.2.2.1 g.2.2.2.2.2.2) e, q⟩
theorem LY4.tr {σ : Sto} (h : LY4 σ) : ∃ s7 b, TRM s7 b ∧ SAQ b σ := by
  obtain ⟨s7, b, g, e, q⟩ := h
  exact ⟨s7, b, ok_get (u_lays_ g.1 g.2) e, q⟩
/-- rows of the class that stand once the blocks are cut -/
theorem AD4.cut {σ : Sto} (h : AD4 σ) : ∃ s1 s2, (BX s1 ∧ LV s1 ∧ LW s1 ∧ FE s1) ∧ f_X0_cut s1 = some s2 ∧ (BX s2 ∧ EB s2 ∧ LW s2 ∧ BKX s2) ∧ (∀ k, 4 ≤ k → k < 34 → (k < 12 ∨ 20 ≤ k) → σ.1 k = s2.1 k) ∧ σ.2 0 = s2.2 0 := by
  obtain ⟨s5, a, g, ⟨s1, s2, s3, s4, s5', s6, s7, s8, ⟨a0, a1, a2, a3, a4, a5⟩, ⟨b0, b1, b2, b3, b4, b5, b6, b7, b8, b9, b10, b11⟩, ⟨c0, c1, c2, c3⟩, ⟨d0, d1, d2, d3⟩, ⟨e0, e1, e2⟩, ⟨f0, f1, f2⟩, ⟨g0, g1⟩, ⟨h0, h1⟩, i0⟩, q⟩ := h.tr
  refine ⟨s1, s2, ⟨a1, a2, a3, a4⟩, b0, ⟨b1, b4, b10, b11⟩, fun k k1 k2 k3 => ?_, ?_⟩
  · rw [q.1 k (by simp only [kx4, Bool.or_eq_true, Bool.and_eq_true, decide_eq_true_eq, beq_iff_eq]; omega), i0, sti_o (by omega), h1.bl (c := 34) rfl k2, g0, sti_o (by omega), f2.bl (c := 34) rfl k2, e2.bl (c := 34) rfl k2, d2.bl (c := 34) rfl k2, c2.bl (c := 34) rfl k2]
  · have l : s8.2 0 = s7.2 0 := h1.bll (c := 1) rfl (by decide)
    rw [q.2 0, i0]
    show s8.2 0 = _
    rw [l, g0]
    show s6.2 0 = _
    rw [f2.bll (c := 1) rfl (by decide), e2.bll (c := 1) rfl (by decide), d2.bll (c := 1) rfl (by decide), c2.bll (c := 1) rfl (by decide)]
theorem AD4.edx {σ : Sto} (h : AD4 σ) : EDX σ := by
  obtain ⟨s1, s2, ⟨a1, a2, a3, a4⟩, b0, _, r, l⟩ := h.cut
  have q := ok_get (u_X0_cut a1 a2 a3 a4) b0
  exact q.2.2.2.2.2.2.2.cg (fun k k1 k2 k3 => r k (by omega) (by omega) k3) l
