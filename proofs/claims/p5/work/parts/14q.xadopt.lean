/-- the class's blocks are those of its listing -/
def BKX (s : Sto) : Prop := BKI (mk (s.1 4 0).toInt.toNat (s.1 8)) (CUTC (s.1 4 0).toInt.toNat (s.1 5 0).toInt.toNat (ri (s.1 6)) (ri (s.1 7)) (ri (s.1 9)) (ri (s.1 10)) (ri (s.1 11)) (mk (s.1 4 0).toInt.toNat (s.1 8))) (s.1 4 0).toInt.toNat (ri (s.1 21)) (ri (s.1 22)) (ri (s.1 23)) (s.1 20 0).toInt.toNat
theorem BKX.cg {σ s : Sto} (h : BKX σ) (e : ∀ k, k ∈ ([4, 5, 6, 7, 8, 9, 10, 11, 20, 21, 22, 23] : List Nat) → s.1 k = σ.1 k) : BKX s := by
  unfold BKX at h ⊢
  rw [e 4 (by decide), e 5 (by decide), e 6 (by decide), e 7 (by decide), e 8 (by decide), e 9 (by decide), e 10 (by decide), e 11 (by decide), e 20 (by decide), e 21 (by decide), e 22 (by decide), e 23 (by decide)]
  exact h
theorem BKX.fr {σ s : Sto} {ms ml : List Nat} (f : FR ms ml σ s) (d : (([4, 5, 6, 7, 8, 9, 10, 11, 20, 21, 22, 23] : List Nat).all (fun k => !ms.contains k)) = true) (h : BKX σ) : BKX s := h.cg (fun k hk => f.1 k (fun hm => by
  have := List.all_eq_true.mp d k hk
  simp only [Bool.not_eq_true', List.contains_eq_mem, decide_eq_false_iff_not] at this
  exact this hm))
theorem BKX.st1 {σ : Sto} {k i : Nat} {v : Int32} (hk : k ∉ ([4, 5, 6, 7, 8, 9, 10, 11, 20, 21, 22, 23] : List Nat)) (h : BKX σ) : BKX (sti σ k i v) := h.cg (fun j hj => if_neg (fun e => hk (by rw [← e]; exact hj)))
theorem BKX.of {σ s : Sto} {ml : List Nat} (h : BKI (mk (σ.1 4 0).toInt.toNat (σ.1 8)) (CUTC (σ.1 4 0).toInt.toNat (σ.1 5 0).toInt.toNat (ri (σ.1 6)) (ri (σ.1 7)) (ri (σ.1 9)) (ri (σ.1 10)) (ri (σ.1 11)) (mk (σ.1 4 0).toInt.toNat (σ.1 8))) (σ.1 4 0).toInt.toNat (ri (s.1 21)) (ri (s.1 22)) (ri (s.1 23)) (s.1 20 0).toInt.toNat) (f : FR [20, 21, 22, 23, 24, 25, 26, 27, 28, 29, 30, 31, 32, 33] ml σ s) : BKX s := by
  unfold BKX
  rw [f.1 4 (by decide), f.1 5 (by decide), f.1 6 (by decide), f.1 7 (by decide), f.1 8 (by decide), f.1 9 (by decide), f.1 10 (by decide), f.1 11 (by decide)]
  exact h
/-- the listing is the draft -/
def CPY (σ s : Sto) : Prop := (s.1 4 0).toInt = (σ.1 12 0).toInt ∧ (s.1 5 0).toInt = (σ.1 13 0).toInt ∧ (∀ i, i < 40 → s.1 6 i = σ.1 14 i ∧ s.1 7 i = σ.1 15 i ∧ s.1 8 i = σ.1 16 i) ∧ (∀ h, h < 3 → s.1 9 h = σ.1 17 h ∧ s.1 10 h = σ.1 18 h ∧ s.1 11 h = σ.1 19 h)
theorem CPY.cg {σ s s2 : Sto} (h : CPY σ s) (e : ∀ k, k ∈ ([4, 5, 6, 7, 8, 9, 10, 11] : List Nat) → s2.1 k = s.1 k) : CPY σ s2 := by
  unfold CPY at h ⊢
  rw [e 4 (by decide), e 5 (by decide), e 6 (by decide), e 7 (by decide), e 8 (by decide), e 9 (by decide), e 10 (by decide), e 11 (by decide)]
  exact h
theorem CPY.fr {σ s s2 : Sto} {ms ml : List Nat} (f : FR ms ml s s2) (d : (([4, 5, 6, 7, 8, 9, 10, 11] : List Nat).all (fun k => !ms.contains k)) = true) (h : CPY σ s) : CPY σ s2 := h.cg (fun k hk => f.1 k (fun hm => by
  have := List.all_eq_true.mp d k hk
  simp only [Bool.not_eq_true', List.contains_eq_mem, decide_eq_false_iff_not] at this
  exact this hm))
theorem CPY.st1 {σ s : Sto} {k i : Nat} {v : Int32} (hk : k ∉ ([4, 5, 6, 7, 8, 9, 10, 11] : List Nat)) (h : CPY σ s) : CPY σ (sti s k i v) := h.cg (fun j hj => if_neg (fun e => hk (by rw [← e]; exact hj)))
set_option maxHeartbeats 4000000 in
theorem t_X11_adoptDraft {σ : Sto} (hB : BX σ) (hDV : DV σ) (hPI : PI σ) (hSI : SI σ) (hLI : LI σ) (hFE : FE σ) (hBV : BV σ) : OK (f_X11_adoptDraft σ) (fun s => BX s ∧ FR [0, 4, 5, 6, 7, 8, 9, 10, 11, 20, 21, 22, 23, 24, 25, 26, 27, 28, 29, 30, 31, 32, 33, 34, 35, 36, 37, 38, 39, 40, 41, 42, 43, 44, 45, 46, 47, 48, 49, 50, 51, 52, 53, 54, 55, 56, 57, 58, 59, 60, 61, 62, 63, 64, 65, 66, 67, 68, 69, 70, 71, 72, 73, 74, 75, 76, 77] [0, 1, 2, 3, 4, 5, 6] σ s ∧ PI s ∧ SI s ∧ LI s ∧ QV s ∧ FE s ∧ BV s ∧ PA s ∧ ES s ∧ TS s ∧ FS s ∧ LQ s ∧ BKX s ∧ CPY σ s) := by
  unfold f_X11_adoptDraft
  have hF : FR [0, 4, 5, 6, 7, 8, 9, 10, 11, 20, 21, 22, 23, 24, 25, 26, 27, 28, 29, 30, 31, 32, 33, 34, 35, 36, 37, 38, 39, 40, 41, 42, 43, 44, 45, 46, 47, 48, 49, 50, 51, 52, 53, 54, 55, 56, 57, 58, 59, 60, 61, 62, 63, 64, 65, 66, 67, 68, 69, 70, 71, 72, 73, 74, 75, 76, 77] [0, 1, 2, 3, 4, 5, 6] σ σ := FR.rf
  have k_0 : (0 : Int32).toInt = 0 := by decide +kernel
  have k_1 : (1 : Int32).toInt = 1 := by decide +kernel
  refine ok_cals (s_X3_copy_draft  (σ := σ) hB) (fun s_1 h_1 => ?_)
  obtain ⟨hB_s_1, hG_s_1, x_s_1⟩ := h_1
  (try dsimp only at hB_s_1 hG_s_1 x_s_1)
  have hF_s_1 : FR [0, 4, 5, 6, 7, 8, 9, 10, 11, 20, 21, 22, 23, 24, 25, 26, 27, 28, 29, 30, 31, 32, 33, 34, 35, 36, 37, 38, 39, 40, 41, 42, 43, 44, 45, 46, 47, 48, 49, 50, 51, 52, 53, 54, 55, 56, 57, 58, 59, 60, 61, 62, 63, 64, 65, 66, 67, 68, 69, 70, 71, 72, 73, 74, 75, 76, 77] [0, 1, 2, 3, 4, 5, 6] σ s_1 := FR.cal hF hG_s_1 rfl rfl
  have w_s_1_34 : (s_1.1 34 0).toInt = (σ.1 34 0).toInt := by rw [hG_s_1.1 34 (by decide)]
  have w_s_1_68 : (s_1.1 68 0).toInt = (σ.1 68 0).toInt := by rw [hG_s_1.1 68 (by decide)]
  have hDV_s_1 : DV s_1 := DV.fr hG_s_1 (by decide) hDV
  have hPI_s_1 : PI s_1 := PI.fr hG_s_1 (by decide) hPI
  have hSI_s_1 : SI s_1 := SI.fr hG_s_1 (by decide) hSI
  have hLI_s_1 : LI s_1 := LI.fr hG_s_1 (by decide) hLI
  have hFE_s_1 : FE s_1 := FE.fr hG_s_1 (by decide) hFE
  have hBV_s_1 : BV s_1 := BV.fr hG_s_1 (by decide) hBV
  have hLW_s_1 : LW s_1 := LW.cp hDV (gX_12 hB 0) (gX_13 hB 0) x_s_1
  have hLV_s_1 : LV s_1 := LW.lv hLW_s_1 hB_s_1
  have hCP_s_1 : CPY σ s_1 := x_s_1
  refine ok_cals (t_X0_cut  (σ := s_1) hB_s_1 hLV_s_1 hLW_s_1 hFE_s_1) (fun s_2 h_2 => ?_)
  obtain ⟨hB_s_2, hG_s_2, hGB_s_2, hEB_s_2, hFE_s_2, hON_s_2, hbk0⟩ := h_2
  (try dsimp only at hB_s_2 hG_s_2 hGB_s_2 hEB_s_2 hFE_s_2 hON_s_2)
  have hF_s_2 : FR [0, 4, 5, 6, 7, 8, 9, 10, 11, 20, 21, 22, 23, 24, 25, 26, 27, 28, 29, 30, 31, 32, 33, 34, 35, 36, 37, 38, 39, 40, 41, 42, 43, 44, 45, 46, 47, 48, 49, 50, 51, 52, 53, 54, 55, 56, 57, 58, 59, 60, 61, 62, 63, 64, 65, 66, 67, 68, 69, 70, 71, 72, 73, 74, 75, 76, 77] [0, 1, 2, 3, 4, 5, 6] σ s_2 := FR.cal hF_s_1 hG_s_2 rfl rfl
  have w_s_2_34 : (s_2.1 34 0).toInt = (s_1.1 34 0).toInt := by rw [hG_s_2.1 34 (by decide)]
  have w_s_2_68 : (s_2.1 68 0).toInt = (s_1.1 68 0).toInt := by rw [hG_s_2.1 68 (by decide)]
  have hDV_s_2 : DV s_2 := DV.fr hG_s_2 (by decide) hDV_s_1
  have hPI_s_2 : PI s_2 := PI.fr hG_s_2 (by decide) hPI_s_1
  have hSI_s_2 : SI s_2 := SI.fr hG_s_2 (by decide) hSI_s_1
  have hLI_s_2 : LI s_2 := LI.fr hG_s_2 (by decide) hLI_s_1
  have hBV_s_2 : BV s_2 := BV.fr hG_s_2 (by decide) hBV_s_1
  have hLW_s_2 : LW s_2 := LW.fr hG_s_2 (by decide) hLW_s_1
  have hLV_s_2 : LV s_2 := LV.fr hG_s_2 (by decide) hLV_s_1
  have hBX_s_2 : BKX s_2 := BKX.of hbk0 hG_s_2
  have hCP_s_2 : CPY σ s_2 := CPY.fr hG_s_2 (by decide) hCP_s_1
  refine ok_cals (s_X8_form  (σ := s_2) hB_s_2 hEB_s_2 hBV_s_2) (fun s_3 h_3 => ?_)
  obtain ⟨hB_s_3, hG_s_3, hBV_s_3, hMB_s_3⟩ := h_3
  (try dsimp only at hB_s_3 hG_s_3 hBV_s_3 hMB_s_3)
  have hF_s_3 : FR [0, 4, 5, 6, 7, 8, 9, 10, 11, 20, 21, 22, 23, 24, 25, 26, 27, 28, 29, 30, 31, 32, 33, 34, 35, 36, 37, 38, 39, 40, 41, 42, 43, 44, 45, 46, 47, 48, 49, 50, 51, 52, 53, 54, 55, 56, 57, 58, 59, 60, 61, 62, 63, 64, 65, 66, 67, 68, 69, 70, 71, 72, 73, 74, 75, 76, 77] [0, 1, 2, 3, 4, 5, 6] σ s_3 := FR.cal hF_s_2 hG_s_3 rfl rfl
  have w_s_3_68 : (s_3.1 68 0).toInt = (s_2.1 68 0).toInt := by rw [hG_s_3.1 68 (by decide)]
  have hGB_s_3 : GB s_3 := GB.fr hG_s_3 (by decide) hGB_s_2
  have hEB_s_3 : EB s_3 := EB.fr hG_s_3 (by decide) hEB_s_2
  have hFE_s_3 : FE s_3 := FE.fr hG_s_3 (by decide) hFE_s_2
  have hON_s_3 : ON s_3 := ON.fr hG_s_3 (by decide) hON_s_2
  have hDV_s_3 : DV s_3 := DV.fr hG_s_3 (by decide) hDV_s_2
  have hPI_s_3 : PI s_3 := PI.fr hG_s_3 (by decide) hPI_s_2
  have hSI_s_3 : SI s_3 := SI.fr hG_s_3 (by decide) hSI_s_2
  have hLI_s_3 : LI s_3 := LI.fr hG_s_3 (by decide) hLI_s_2
  have hLW_s_3 : LW s_3 := LW.fr hG_s_3 (by decide) hLW_s_2
  have hLV_s_3 : LV s_3 := LV.fr hG_s_3 (by decide) hLV_s_2
  have hBX_s_3 : BKX s_3 := BKX.fr hG_s_3 (by decide) hBX_s_2
  have hCP_s_3 : CPY σ s_3 := CPY.fr hG_s_3 (by decide) hCP_s_2
  refine ok_cals (s_X1_lift  (σ := s_3) hB_s_3 hPI_s_3 hSI_s_3 hGB_s_3) (fun s_4 h_4 => ?_)
  obtain ⟨hB_s_4, hG_s_4, hPI_s_4, hSI_s_4, hPA_s_4, hES_s_4, hTS_s_4, hFS_s_4⟩ := h_4
  (try dsimp only at hB_s_4 hG_s_4 hPI_s_4 hSI_s_4 hPA_s_4 hES_s_4 hTS_s_4 hFS_s_4)
  have hF_s_4 : FR [0, 4, 5, 6, 7, 8, 9, 10, 11, 20, 21, 22, 23, 24, 25, 26, 27, 28, 29, 30, 31, 32, 33, 34, 35, 36, 37, 38, 39, 40, 41, 42, 43, 44, 45, 46, 47, 48, 49, 50, 51, 52, 53, 54, 55, 56, 57, 58, 59, 60, 61, 62, 63, 64, 65, 66, 67, 68, 69, 70, 71, 72, 73, 74, 75, 76, 77] [0, 1, 2, 3, 4, 5, 6] σ s_4 := FR.cal hF_s_3 hG_s_4 rfl rfl
  have w_s_4_34 : (s_4.1 34 0).toInt = (s_3.1 34 0).toInt := by rw [hG_s_4.1 34 (by decide)]
  have w_s_4_68 : (s_4.1 68 0).toInt = (s_3.1 68 0).toInt := by rw [hG_s_4.1 68 (by decide)]
  have hBV_s_4 : BV s_4 := BV.fr hG_s_4 (by decide) hBV_s_3
  have hMB_s_4 : MB s_4 := MB.fr hG_s_4 (by decide) hMB_s_3
  have hGB_s_4 : GB s_4 := GB.fr hG_s_4 (by decide) hGB_s_3
  have hEB_s_4 : EB s_4 := EB.fr hG_s_4 (by decide) hEB_s_3
  have hFE_s_4 : FE s_4 := FE.fr hG_s_4 (by decide) hFE_s_3
  have hON_s_4 : ON s_4 := ON.fr hG_s_4 (by decide) hON_s_3
  have hDV_s_4 : DV s_4 := DV.fr hG_s_4 (by decide) hDV_s_3
  have hLI_s_4 : LI s_4 := LI.fr hG_s_4 (by decide) hLI_s_3
  have hLW_s_4 : LW s_4 := LW.fr hG_s_4 (by decide) hLW_s_3
  have hLV_s_4 : LV s_4 := LV.fr hG_s_4 (by decide) hLV_s_3
  have hBX_s_4 : BKX s_4 := BKX.fr hG_s_4 (by decide) hBX_s_3
  have hCP_s_4 : CPY σ s_4 := CPY.fr hG_s_4 (by decide) hCP_s_3
  refine ok_cals (s_X10_judge  (σ := s_4) hB_s_4 hPI_s_4 hSI_s_4) (fun s_5 h_5 => ?_)
  obtain ⟨hB_s_5, hG_s_5⟩ := h_5
  (try dsimp only at hB_s_5 hG_s_5)
  have hF_s_5 : FR [0, 4, 5, 6, 7, 8, 9, 10, 11, 20, 21, 22, 23, 24, 25, 26, 27, 28, 29, 30, 31, 32, 33, 34, 35, 36, 37, 38, 39, 40, 41, 42, 43, 44, 45, 46, 47, 48, 49, 50, 51, 52, 53, 54, 55, 56, 57, 58, 59, 60, 61, 62, 63, 64, 65, 66, 67, 68, 69, 70, 71, 72, 73, 74, 75, 76, 77] [0, 1, 2, 3, 4, 5, 6] σ s_5 := FR.cal hF_s_4 hG_s_5 rfl rfl
  have w_s_5_34 : (s_5.1 34 0).toInt = (s_4.1 34 0).toInt := by rw [hG_s_5.1 34 (by decide)]
  have w_s_5_68 : (s_5.1 68 0).toInt = (s_4.1 68 0).toInt := by rw [hG_s_5.1 68 (by decide)]
  have hPI_s_5 : PI s_5 := PI.fr hG_s_5 (by decide) hPI_s_4
  have hSI_s_5 : SI s_5 := SI.fr hG_s_5 (by decide) hSI_s_4
  have hPA_s_5 : PA s_5 := PA.fr hG_s_5 (by decide) hPA_s_4
  have hES_s_5 : ES s_5 := ES.fr hG_s_5 (by decide) hES_s_4
  have hTS_s_5 : TS s_5 := TS.fr hG_s_5 (by decide) hTS_s_4
  have hFS_s_5 : FS s_5 := FS.fr hG_s_5 (by decide) hFS_s_4
  have hBV_s_5 : BV s_5 := BV.fr hG_s_5 (by decide) hBV_s_4
  have hMB_s_5 : MB s_5 := MB.fr hG_s_5 (by decide) hMB_s_4
  have hGB_s_5 : GB s_5 := GB.fr hG_s_5 (by decide) hGB_s_4
  have hEB_s_5 : EB s_5 := EB.fr hG_s_5 (by decide) hEB_s_4
  have hFE_s_5 : FE s_5 := FE.fr hG_s_5 (by decide) hFE_s_4
  have hON_s_5 : ON s_5 := ON.fr hG_s_5 (by decide) hON_s_4
  have hDV_s_5 : DV s_5 := DV.fr hG_s_5 (by decide) hDV_s_4
  have hLI_s_5 : LI s_5 := LI.fr hG_s_5 (by decide) hLI_s_4
  have hLW_s_5 : LW s_5 := LW.fr hG_s_5 (by decide) hLW_s_4
  have hLV_s_5 : LV s_5 := LV.fr hG_s_5 (by decide) hLV_s_4
  have hBX_s_5 : BKX s_5 := BKX.fr hG_s_5 (by decide) hBX_s_4
  have hCP_s_5 : CPY σ s_5 := CPY.fr hG_s_5 (by decide) hCP_s_4
  refine ok_cals (s_X4_flow  (σ := s_5) hB_s_5) (fun s_6 h_6 => ?_)
  obtain ⟨hB_s_6, hG_s_6⟩ := h_6
  (try dsimp only at hB_s_6 hG_s_6)
  have hF_s_6 : FR [0, 4, 5, 6, 7, 8, 9, 10, 11, 20, 21, 22, 23, 24, 25, 26, 27, 28, 29, 30, 31, 32, 33, 34, 35, 36, 37, 38, 39, 40, 41, 42, 43, 44, 45, 46, 47, 48, 49, 50, 51, 52, 53, 54, 55, 56, 57, 58, 59, 60, 61, 62, 63, 64, 65, 66, 67, 68, 69, 70, 71, 72, 73, 74, 75, 76, 77] [0, 1, 2, 3, 4, 5, 6] σ s_6 := FR.cal hF_s_5 hG_s_6 rfl rfl
  have w_s_6_34 : (s_6.1 34 0).toInt = (s_5.1 34 0).toInt := by rw [hG_s_6.1 34 (by decide)]
  have w_s_6_68 : (s_6.1 68 0).toInt = (s_5.1 68 0).toInt := by rw [hG_s_6.1 68 (by decide)]
  have hPI_s_6 : PI s_6 := PI.fr hG_s_6 (by decide) hPI_s_5
  have hSI_s_6 : SI s_6 := SI.fr hG_s_6 (by decide) hSI_s_5
  have hPA_s_6 : PA s_6 := PA.fr hG_s_6 (by decide) hPA_s_5
  have hES_s_6 : ES s_6 := ES.fr hG_s_6 (by decide) hES_s_5
  have hTS_s_6 : TS s_6 := TS.fr hG_s_6 (by decide) hTS_s_5
  have hFS_s_6 : FS s_6 := FS.fr hG_s_6 (by decide) hFS_s_5
  have hBV_s_6 : BV s_6 := BV.fr hG_s_6 (by decide) hBV_s_5
  have hMB_s_6 : MB s_6 := MB.fr hG_s_6 (by decide) hMB_s_5
  have hGB_s_6 : GB s_6 := GB.fr hG_s_6 (by decide) hGB_s_5
  have hEB_s_6 : EB s_6 := EB.fr hG_s_6 (by decide) hEB_s_5
  have hFE_s_6 : FE s_6 := FE.fr hG_s_6 (by decide) hFE_s_5
  have hON_s_6 : ON s_6 := ON.fr hG_s_6 (by decide) hON_s_5
  have hDV_s_6 : DV s_6 := DV.fr hG_s_6 (by decide) hDV_s_5
  have hLI_s_6 : LI s_6 := LI.fr hG_s_6 (by decide) hLI_s_5
  have hLW_s_6 : LW s_6 := LW.fr hG_s_6 (by decide) hLW_s_5
  have hLV_s_6 : LV s_6 := LV.fr hG_s_6 (by decide) hLV_s_5
  have hBX_s_6 : BKX s_6 := BKX.fr hG_s_6 (by decide) hBX_s_5
  have hCP_s_6 : CPY σ s_6 := CPY.fr hG_s_6 (by decide) hCP_s_5
  refine ok_lt fun s_7 e_s_7 => ?_
  have hB_s_7 : BX s_7 := by rw [e_s_7]; exact pX_68 hB_s_6 (by omega)
  have hF_s_7 : FR [0, 4, 5, 6, 7, 8, 9, 10, 11, 20, 21, 22, 23, 24, 25, 26, 27, 28, 29, 30, 31, 32, 33, 34, 35, 36, 37, 38, 39, 40, 41, 42, 43, 44, 45, 46, 47, 48, 49, 50, 51, 52, 53, 54, 55, 56, 57, 58, 59, 60, 61, 62, 63, 64, 65, 66, 67, 68, 69, 70, 71, 72, 73, 74, 75, 76, 77] [0, 1, 2, 3, 4, 5, 6] σ s_7 := by rw [e_s_7]; exact FR.st hF_s_6 (by decide)
  have w_s_7_34 : (s_7.1 34 0).toInt = (s_6.1 34 0).toInt := by rw [e_s_7]; rfl
  have w_s_7_68 : (s_7.1 68 0).toInt = (0 : Int32).toInt := by rw [e_s_7, sti_s]
  have hPI_s_7 : PI s_7 := by rw [e_s_7]; exact PI.st1 (by decide) hPI_s_6
  have hSI_s_7 : SI s_7 := by rw [e_s_7]; exact SI.st1 (by decide) hSI_s_6
  have hPA_s_7 : PA s_7 := by rw [e_s_7]; exact PA.st1 (by decide) hPA_s_6
  have hES_s_7 : ES s_7 := by rw [e_s_7]; exact ES.st1 (by decide) hES_s_6
  have hTS_s_7 : TS s_7 := by rw [e_s_7]; exact TS.st1 (by decide) hTS_s_6
  have hFS_s_7 : FS s_7 := by rw [e_s_7]; exact FS.st1 (by decide) hFS_s_6
  have hBV_s_7 : BV s_7 := by rw [e_s_7]; exact BV.st1 (by decide) hBV_s_6
  have hMB_s_7 : MB s_7 := by rw [e_s_7]; exact MB.st1 (by decide) hMB_s_6
  have hGB_s_7 : GB s_7 := by rw [e_s_7]; exact GB.st1 (by decide) hGB_s_6
  have hEB_s_7 : EB s_7 := by rw [e_s_7]; exact EB.st1 (by decide) hEB_s_6
  have hFE_s_7 : FE s_7 := by rw [e_s_7]; exact FE.st1 (by decide) hFE_s_6
  have hON_s_7 : ON s_7 := by rw [e_s_7]; exact ON.st1 (by decide) hON_s_6
  have hDV_s_7 : DV s_7 := by rw [e_s_7]; exact DV.st1 (by decide) hDV_s_6
  have hLI_s_7 : LI s_7 := by rw [e_s_7]; exact LI.st1 (by decide) hLI_s_6
  have hLW_s_7 : LW s_7 := by rw [e_s_7]; exact LW.st1 (by decide) hLW_s_6
  have hLV_s_7 : LV s_7 := by rw [e_s_7]; exact LV.st1 (by decide) hLV_s_6
  have hBX_s_7 : BKX s_7 := by rw [e_s_7]; exact BKX.st1 (by decide) hBX_s_6
  have hCP_s_7 : CPY σ s_7 := by rw [e_s_7]; exact CPY.st1 (by decide) hCP_s_6
  have hLQ_s_7 : LQ s_7 := fun i hi => by exfalso; omega
  refine ok_jnI1 (fun (s_8 : Sto) => True ∧ (BX s_8) ∧ (FR [0, 4, 5, 6, 7, 8, 9, 10, 11, 20, 21, 22, 23, 24, 25, 26, 27, 28, 29, 30, 31, 32, 33, 34, 35, 36, 37, 38, 39, 40, 41, 42, 43, 44, 45, 46, 47, 48, 49, 50, 51, 52, 53, 54, 55, 56, 57, 58, 59, 60, 61, 62, 63, 64, 65, 66, 67, 68, 69, 70, 71, 72, 73, 74, 75, 76, 77] [0, 1, 2, 3, 4, 5, 6] σ s_8) ∧ (PI s_8) ∧ (SI s_8) ∧ (LI s_8) ∧ (FE s_8) ∧ (BV s_8) ∧ (LW s_8) ∧ (PA s_8) ∧ (ES s_8) ∧ (TS s_8) ∧ (FS s_8) ∧ (LQ s_8) ∧ (BKX s_8) ∧ (CPY σ s_8)) ?_ ?_
  · intro s_8 hJ
    obtain ⟨-, hB_s_8, hF_s_8, hPI_s_8, hSI_s_8, hLI_s_8, hFE_s_8, hBV_s_8, hLW_s_8, hPA_s_8, hES_s_8, hTS_s_8, hFS_s_8, hLQ_s_8, hBX_s_8, hCP_s_8⟩ := hJ
    refine ok_lt fun s_9 e_s_9 => ?_
    have hB_s_9 : BX s_9 := by rw [e_s_9]; exact pX_0 hB_s_8 (by omega)
    have hF_s_9 : FR [0, 4, 5, 6, 7, 8, 9, 10, 11, 20, 21, 22, 23, 24, 25, 26, 27, 28, 29, 30, 31, 32, 33, 34, 35, 36, 37, 38, 39, 40, 41, 42, 43, 44, 45, 46, 47, 48, 49, 50, 51, 52, 53, 54, 55, 56, 57, 58, 59, 60, 61, 62, 63, 64, 65, 66, 67, 68, 69, 70, 71, 72, 73, 74, 75, 76, 77] [0, 1, 2, 3, 4, 5, 6] σ s_9 := by rw [e_s_9]; exact FR.st hF_s_8 (by decide)
    have w_s_9_34 : (s_9.1 34 0).toInt = (s_8.1 34 0).toInt := by rw [e_s_9]; rfl
    have w_s_9_68 : (s_9.1 68 0).toInt = (s_8.1 68 0).toInt := by rw [e_s_9]; rfl
    have hPI_s_9 : PI s_9 := by rw [e_s_9]; exact PI.st1 (by decide) hPI_s_8
    have hSI_s_9 : SI s_9 := by rw [e_s_9]; exact SI.st1 (by decide) hSI_s_8
    have hLI_s_9 : LI s_9 := by rw [e_s_9]; exact LI.st1 (by decide) hLI_s_8
    have hFE_s_9 : FE s_9 := by rw [e_s_9]; exact FE.st1 (by decide) hFE_s_8
    have hBV_s_9 : BV s_9 := by rw [e_s_9]; exact BV.st1 (by decide) hBV_s_8
    have hLW_s_9 : LW s_9 := by rw [e_s_9]; exact LW.st1 (by decide) hLW_s_8
    have hPA_s_9 : PA s_9 := by rw [e_s_9]; exact PA.st1 (by decide) hPA_s_8
    have hES_s_9 : ES s_9 := by rw [e_s_9]; exact ES.st1 (by decide) hES_s_8
    have hTS_s_9 : TS s_9 := by rw [e_s_9]; exact TS.st1 (by decide) hTS_s_8
    have hFS_s_9 : FS s_9 := by rw [e_s_9]; exact FS.st1 (by decide) hFS_s_8
    have hLQ_s_9 : LQ s_9 := by rw [e_s_9]; exact LQ.st1 (by decide) hLQ_s_8
    have hQV_s_9 : QV s_9 := QV.of hLW_s_9 hB_s_9 (fun _ _ _ => rfl)
    have hBX_s_9 : BKX s_9 := by rw [e_s_9]; exact BKX.st1 (by decide) hBX_s_8
    have hCP_s_9 : CPY σ s_9 := by rw [e_s_9]; exact CPY.st1 (by decide) hCP_s_8
    exact ok_ret ⟨hB_s_9, hF_s_9, hPI_s_9, hSI_s_9, hLI_s_9, hQV_s_9, hFE_s_9, hBV_s_9, hPA_s_9, hES_s_9, hTS_s_9, hFS_s_9, hLQ_s_9, hBX_s_9, hCP_s_9⟩
  · intro k_71 hk_k_71
    have g_8 := gX_34 hB_s_7 0
    refine ok_ite (fun c_7 => ?_) (fun c_7 => ?_)
    · rw [fa_eq] at c_7
      refine ok_cals (s_X2_tellAll  (σ := s_7) hB_s_7 hLI_s_7 hLQ_s_7 hFE_s_7 hFS_s_7 hTS_s_7 hON_s_7 hMB_s_7 hEB_s_7.1) (fun s_11 h_9 => ?_)
      obtain ⟨hB_s_11, hG_s_11, hLI_s_11, hLQ_s_11⟩ := h_9
      (try dsimp only at hB_s_11 hG_s_11 hLI_s_11 hLQ_s_11)
      have hF_s_11 : FR [0, 4, 5, 6, 7, 8, 9, 10, 11, 20, 21, 22, 23, 24, 25, 26, 27, 28, 29, 30, 31, 32, 33, 34, 35, 36, 37, 38, 39, 40, 41, 42, 43, 44, 45, 46, 47, 48, 49, 50, 51, 52, 53, 54, 55, 56, 57, 58, 59, 60, 61, 62, 63, 64, 65, 66, 67, 68, 69, 70, 71, 72, 73, 74, 75, 76, 77] [0, 1, 2, 3, 4, 5, 6] σ s_11 := FR.cal hF_s_7 hG_s_11 rfl rfl
      have w_s_11_34 : (s_11.1 34 0).toInt = (s_7.1 34 0).toInt := by rw [hG_s_11.1 34 (by decide)]
      have hPI_s_11 : PI s_11 := PI.fr hG_s_11 (by decide) hPI_s_7
      have hSI_s_11 : SI s_11 := SI.fr hG_s_11 (by decide) hSI_s_7
      have hPA_s_11 : PA s_11 := PA.fr hG_s_11 (by decide) hPA_s_7
      have hES_s_11 : ES s_11 := ES.fr hG_s_11 (by decide) hES_s_7
      have hTS_s_11 : TS s_11 := TS.fr hG_s_11 (by decide) hTS_s_7
      have hFS_s_11 : FS s_11 := FS.fr hG_s_11 (by decide) hFS_s_7
      have hBV_s_11 : BV s_11 := BV.fr hG_s_11 (by decide) hBV_s_7
      have hMB_s_11 : MB s_11 := MB.fr hG_s_11 (by decide) hMB_s_7
      have hGB_s_11 : GB s_11 := GB.fr hG_s_11 (by decide) hGB_s_7
      have hEB_s_11 : EB s_11 := EB.fr hG_s_11 (by decide) hEB_s_7
      have hFE_s_11 : FE s_11 := FE.fr hG_s_11 (by decide) hFE_s_7
      have hON_s_11 : ON s_11 := ON.fr hG_s_11 (by decide) hON_s_7
      have hDV_s_11 : DV s_11 := DV.fr hG_s_11 (by decide) hDV_s_7
      have hLW_s_11 : LW s_11 := LW.fr hG_s_11 (by decide) hLW_s_7
      have hLV_s_11 : LV s_11 := LV.fr hG_s_11 (by decide) hLV_s_7
      have hBX_s_11 : BKX s_11 := BKX.fr hG_s_11 (by decide) hBX_s_7
      have hCP_s_11 : CPY σ s_11 := CPY.fr hG_s_11 (by decide) hCP_s_7
      exact hk_k_71 s_11 ⟨trivial, hB_s_11, hF_s_11, hPI_s_11, hSI_s_11, hLI_s_11, hFE_s_11, hBV_s_11, hLW_s_11, hPA_s_11, hES_s_11, hTS_s_11, hFS_s_11, hLQ_s_11, hBX_s_11, hCP_s_11⟩
    · rw [fa_eq] at c_7
      exact hk_k_71 s_7 ⟨trivial, hB_s_7, hF_s_7, hPI_s_7, hSI_s_7, hLI_s_7, hFE_s_7, hBV_s_7, hLW_s_7, hPA_s_7, hES_s_7, hTS_s_7, hFS_s_7, hLQ_s_7, hBX_s_7, hCP_s_7⟩
