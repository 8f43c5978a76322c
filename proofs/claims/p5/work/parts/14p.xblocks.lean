set_option maxHeartbeats 4000000 in
theorem t_X0_cut {σ : Sto} (hB : BX σ) (hLV : LV σ) (hLW : LW σ) (hFE : FE σ) : OK (f_X0_cut σ) (fun s => BX s ∧ FR [20, 21, 22, 23, 24, 25, 26, 27, 28, 29, 30, 31, 32, 33] [0] σ s ∧ GB s ∧ EB s ∧ FE s ∧ ON s ∧ BKI (mk (σ.1 4 0).toInt.toNat (σ.1 8)) (CUTC (σ.1 4 0).toInt.toNat (σ.1 5 0).toInt.toNat (ri (σ.1 6)) (ri (σ.1 7)) (ri (σ.1 9)) (ri (σ.1 10)) (ri (σ.1 11)) (mk (σ.1 4 0).toInt.toNat (σ.1 8))) (σ.1 4 0).toInt.toNat (ri (s.1 21)) (ri (s.1 22)) (ri (s.1 23)) (s.1 20 0).toInt.toNat) := by
  unfold f_X0_cut
  have hF : FR [20, 21, 22, 23, 24, 25, 26, 27, 28, 29, 30, 31, 32, 33] [0] σ σ := FR.rf
  have k_m1 : ((-1) : Int32).toInt = -1 := by decide +kernel
  have k_0 : (0 : Int32).toInt = 0 := by decide +kernel
  have k_1 : (1 : Int32).toInt = 1 := by decide +kernel
  have g4 := gX_4 hB 0
  have g5 := gX_5 hB 0
  have hR := hLW.2.2.2
  have hz1 := hLW.1
  have hd0 : (mk (σ.1 4 0).toInt.toNat (σ.1 8)) 0 ≠ -1 := by have := hR.2.2.1; omega
  refine ok_cals (s_X0_markCuts  (σ := σ) hB hLV) (fun s_1 h_1 => ?_)
  obtain ⟨hB_s_1, hG_s_1, x_s_1⟩ := h_1
  (try dsimp only at hB_s_1 hG_s_1 x_s_1)
  have hF_s_1 : FR [20, 21, 22, 23, 24, 25, 26, 27, 28, 29, 30, 31, 32, 33] [0] σ s_1 := FR.cal hF hG_s_1 rfl rfl
  have w_s_1_20 : (s_1.1 20 0).toInt = (σ.1 20 0).toInt := by rw [hG_s_1.1 20 (by decide)]
  have w_s_1_27 : (s_1.1 27 0).toInt = (σ.1 27 0).toInt := by rw [hG_s_1.1 27 (by decide)]
  have w_s_1_32 : (s_1.1 32 0).toInt = (σ.1 32 0).toInt := by rw [hG_s_1.1 32 (by decide)]
  have f_s_1_4 : (s_1.1 4 0).toInt = (σ.1 4 0).toInt := by rw [hF_s_1.1 4 (by decide)]
  have f_s_1_5 : (s_1.1 5 0).toInt = (σ.1 5 0).toInt := by rw [hF_s_1.1 5 (by decide)]
  have hLV_s_1 : LV s_1 := LV.fr hG_s_1 (by decide) hLV
  have hLW_s_1 : LW s_1 := LW.fr hG_s_1 (by decide) hLW
  have hFE_s_1 : FE s_1 := FE.fr hG_s_1 (by decide) hFE
  have hRC_s_1 : ∀ i : Nat, i ≤ 40 → ((s_1.1 33 i).toInt ≠ 0 ↔ CUTC (σ.1 4 0).toInt.toNat (σ.1 5 0).toInt.toNat (ri (σ.1 6)) (ri (σ.1 7)) (ri (σ.1 9)) (ri (σ.1 10)) (ri (σ.1 11)) (mk (σ.1 4 0).toInt.toNat (σ.1 8)) i) := x_s_1
  refine ok_lt fun s_2 e_s_2 => ?_
  have hB_s_2 : BX s_2 := by rw [e_s_2]; exact pX_20 hB_s_1 (by omega)
  have hF_s_2 : FR [20, 21, 22, 23, 24, 25, 26, 27, 28, 29, 30, 31, 32, 33] [0] σ s_2 := by rw [e_s_2]; exact FR.st hF_s_1 (by decide)
  have w_s_2_20 : (s_2.1 20 0).toInt = (0 : Int32).toInt := by rw [e_s_2, sti_s]
  have w_s_2_27 : (s_2.1 27 0).toInt = (s_1.1 27 0).toInt := by rw [e_s_2]; rfl
  have w_s_2_32 : (s_2.1 32 0).toInt = (s_1.1 32 0).toInt := by rw [e_s_2]; rfl
  have f_s_2_4 : (s_2.1 4 0).toInt = (σ.1 4 0).toInt := by rw [hF_s_2.1 4 (by decide)]
  have f_s_2_5 : (s_2.1 5 0).toInt = (σ.1 5 0).toInt := by rw [hF_s_2.1 5 (by decide)]
  have hLV_s_2 : LV s_2 := by rw [e_s_2]; exact LV.st1 (by decide) hLV_s_1
  have hLW_s_2 : LW s_2 := by rw [e_s_2]; exact LW.st1 (by decide) hLW_s_1
  have hFE_s_2 : FE s_2 := by rw [e_s_2]; exact FE.st1 (by decide) hFE_s_1
  have hRC_s_2 : ∀ i : Nat, i ≤ 40 → ((s_2.1 33 i).toInt ≠ 0 ↔ CUTC (σ.1 4 0).toInt.toNat (σ.1 5 0).toInt.toNat (ri (σ.1 6)) (ri (σ.1 7)) (ri (σ.1 9)) (ri (σ.1 10)) (ri (σ.1 11)) (mk (σ.1 4 0).toInt.toNat (σ.1 8)) i) := by rw [e_s_2]; exact hRC_s_1
  refine ok_lt fun s_3 e_s_3 => ?_
  have hB_s_3 : BX s_3 := by rw [e_s_3]; exact pX_32 hB_s_2 (by omega)
  have hF_s_3 : FR [20, 21, 22, 23, 24, 25, 26, 27, 28, 29, 30, 31, 32, 33] [0] σ s_3 := by rw [e_s_3]; exact FR.st hF_s_2 (by decide)
  have w_s_3_20 : (s_3.1 20 0).toInt = (s_2.1 20 0).toInt := by rw [e_s_3]; rfl
  have w_s_3_27 : (s_3.1 27 0).toInt = (s_2.1 27 0).toInt := by rw [e_s_3]; rfl
  have w_s_3_32 : (s_3.1 32 0).toInt = (0 : Int32).toInt := by rw [e_s_3, sti_s]
  have f_s_3_4 : (s_3.1 4 0).toInt = (σ.1 4 0).toInt := by rw [hF_s_3.1 4 (by decide)]
  have f_s_3_5 : (s_3.1 5 0).toInt = (σ.1 5 0).toInt := by rw [hF_s_3.1 5 (by decide)]
  have hLV_s_3 : LV s_3 := by rw [e_s_3]; exact LV.st1 (by decide) hLV_s_2
  have hLW_s_3 : LW s_3 := by rw [e_s_3]; exact LW.st1 (by decide) hLW_s_2
  have hFE_s_3 : FE s_3 := by rw [e_s_3]; exact FE.st1 (by decide) hFE_s_2
  have hRC_s_3 : ∀ i : Nat, i ≤ 40 → ((s_3.1 33 i).toInt ≠ 0 ↔ CUTC (σ.1 4 0).toInt.toNat (σ.1 5 0).toInt.toNat (ri (σ.1 6)) (ri (σ.1 7)) (ri (σ.1 9)) (ri (σ.1 10)) (ri (σ.1 11)) (mk (σ.1 4 0).toInt.toNat (σ.1 8)) i) := by rw [e_s_3]; exact hRC_s_2
  refine ok_itr2 (fun (n : Nat) (x1_4 : Int32) (s_4 : Sto) => n = (41 - x1_4.toInt).toNat ∧ (0 ≤ x1_4.toInt ∧ x1_4.toInt ≤ 40) ∧ (BX s_4) ∧ (FR [20, 21, 22, 23, 24, 25, 26, 27, 28, 29, 30, 31, 32, 33] [0] σ s_4) ∧ (∀ i : Nat, i ≤ 40 → ((s_4.1 33 i).toInt ≠ 0 ↔ CUTC (σ.1 4 0).toInt.toNat (σ.1 5 0).toInt.toNat (ri (σ.1 6)) (ri (σ.1 7)) (ri (σ.1 9)) (ri (σ.1 10)) (ri (σ.1 11)) (mk (σ.1 4 0).toInt.toNat (σ.1 8)) i)) ∧ (FE s_4) ∧ (x1_4.toInt ≤ (σ.1 4 0).toInt) ∧ (BKI (mk (σ.1 4 0).toInt.toNat (σ.1 8)) (CUTC (σ.1 4 0).toInt.toNat (σ.1 5 0).toInt.toNat (ri (σ.1 6)) (ri (σ.1 7)) (ri (σ.1 9)) (ri (σ.1 10)) (ri (σ.1 11)) (mk (σ.1 4 0).toInt.toNat (σ.1 8))) x1_4.toNatClampNeg (ri (s_4.1 21)) (ri (s_4.1 22)) (ri (s_4.1 23)) (s_4.1 20 0).toInt.toNat)) ?_ (n := _) ⟨rfl, (by omega), hB_s_3, hF_s_3, hRC_s_3, hFE_s_3, (by omega), (BKI.z (by omega))⟩ (show _ < 10000000 by omega)
  intro a_16 n x1_4 s_4 hI ih_a_16
  obtain ⟨hn_a_16, b_x1_4, hB_s_4, hF_s_4, hRC_s_4, hFE_s_4, hle4, hbk⟩ := hI
  have f_s_4_4 : (s_4.1 4 0).toInt = (σ.1 4 0).toInt := by rw [hF_s_4.1 4 (by decide)]
  have f_s_4_5 : (s_4.1 5 0).toInt = (σ.1 5 0).toInt := by rw [hF_s_4.1 5 (by decide)]
  have g_3 := gX_4 hB_s_4 0
  have g_4 : (s_4.1 4 0).toInt = (σ.1 4 0).toInt := by rw [hF_s_4.1 4 (by decide)]
  have g_5 := gX_4 hB 0
  refine ok_ite (fun c_2 => ?_) (fun c_2 => ?_)
  · rw [fa_le] at c_2
    refine ok_lt fun s_6 e_s_6 => ?_
    have hB_s_6 : BX s_6 := by rw [e_s_6]; exact pX_27 hB_s_4 (by omega)
    have hF_s_6 : FR [20, 21, 22, 23, 24, 25, 26, 27, 28, 29, 30, 31, 32, 33] [0] σ s_6 := by rw [e_s_6]; exact FR.st hF_s_4 (by decide)
    have w_s_6_20 : (s_6.1 20 0).toInt = (s_4.1 20 0).toInt := by rw [e_s_6]; rfl
    have w_s_6_27 : (s_6.1 27 0).toInt = (0 : Int32).toInt := by rw [e_s_6, sti_s]
    have w_s_6_32 : (s_6.1 32 0).toInt = (s_4.1 32 0).toInt := by rw [e_s_6]; rfl
    have f_s_6_4 : (s_6.1 4 0).toInt = (σ.1 4 0).toInt := by rw [hF_s_6.1 4 (by decide)]
    have f_s_6_5 : (s_6.1 5 0).toInt = (σ.1 5 0).toInt := by rw [hF_s_6.1 5 (by decide)]
    have hRC_s_6 : ∀ i : Nat, i ≤ 40 → ((s_6.1 33 i).toInt ≠ 0 ↔ CUTC (σ.1 4 0).toInt.toNat (σ.1 5 0).toInt.toNat (ri (σ.1 6)) (ri (σ.1 7)) (ri (σ.1 9)) (ri (σ.1 10)) (ri (σ.1 11)) (mk (σ.1 4 0).toInt.toNat (σ.1 8)) i) := by rw [e_s_6]; exact hRC_s_4
    have hFE_s_6 : FE s_6 := by rw [e_s_6]; exact FE.st1 (by decide) hFE_s_4
    have g20b := gX_20 hB_s_6 0
    have hbk6 := hbk
    rw [show x1_4.toNatClampNeg = (σ.1 4 0).toInt.toNat by have := clamp_I (x := x1_4) (by omega); omega] at hbk6
    have hBK_s_6 : BKI (mk (σ.1 4 0).toInt.toNat (σ.1 8)) (CUTC (σ.1 4 0).toInt.toNat (σ.1 5 0).toInt.toNat (ri (σ.1 6)) (ri (σ.1 7)) (ri (σ.1 9)) (ri (σ.1 10)) (ri (σ.1 11)) (mk (σ.1 4 0).toInt.toNat (σ.1 8))) (σ.1 4 0).toInt.toNat (ri (s_6.1 21)) (ri (s_6.1 22)) (ri (s_6.1 23)) (s_6.1 20 0).toInt.toNat := by rw [show s_6.1 20 = s_4.1 20 by rw [e_s_6]; rfl, show s_6.1 21 = s_4.1 21 by rw [e_s_6]; rfl, show s_6.1 22 = s_4.1 22 by rw [e_s_6]; rfl, show s_6.1 23 = s_4.1 23 by rw [e_s_6]; rfl]; exact hbk6
    have hOF_s_6 : OF s_6 := fun i hi => by have g20 := gX_20 hB_s_6 0; have := (hBK_s_6.ofl (i := i) (by omega)).2; unfold ri at this; omega
    have hTG_s_6 : TG s_6 := fun e he => by exfalso; omega
    have hLV_s_6 : LV s_6 := LV.fr hF_s_6 (by decide) hLV
    refine ok_itr2 (fun (n : Nat) (x1_7 : Int32) (s_7 : Sto) => n = (41 - x1_7.toInt).toNat ∧ (0 ≤ x1_7.toInt ∧ x1_7.toInt ≤ 40) ∧ (BX s_7) ∧ (FR [20, 21, 22, 23, 24, 25, 26, 27, 28, 29, 30, 31, 32, 33] [0] σ s_7) ∧ (BKI (mk (σ.1 4 0).toInt.toNat (σ.1 8)) (CUTC (σ.1 4 0).toInt.toNat (σ.1 5 0).toInt.toNat (ri (σ.1 6)) (ri (σ.1 7)) (ri (σ.1 9)) (ri (σ.1 10)) (ri (σ.1 11)) (mk (σ.1 4 0).toInt.toNat (σ.1 8))) (σ.1 4 0).toInt.toNat (ri (s_7.1 21)) (ri (s_7.1 22)) (ri (s_7.1 23)) (s_7.1 20 0).toInt.toNat) ∧ (TG s_7) ∧ (OF s_7) ∧ (LV s_7) ∧ (FE s_7) ∧ (x1_7.toInt ≤ (s_7.1 20 0).toInt) ∧ ((s_7.1 27 0).toInt ≤ 3 * x1_7.toInt) ∧ (∀ b : Nat, (b : Int) < x1_7.toInt → (s_7.1 28 b).toInt ≤ (s_7.1 27 0).toInt) ∧ (∀ p q : Nat, p ≤ q → (q : Int) < x1_7.toInt → (s_7.1 28 p).toInt ≤ (s_7.1 28 q).toInt) ∧ (∀ b : Nat, (b : Int) < x1_7.toInt → (s_7.1 24 b).toInt < (s_7.1 20 0).toInt ∧ (s_7.1 25 b).toInt < (s_7.1 20 0).toInt)) ?_ (n := _) ⟨rfl, (by omega), hB_s_6, hF_s_6, hBK_s_6, hTG_s_6, hOF_s_6, hLV_s_6, hFE_s_6, (by omega), (by omega), (fun b hb => by exfalso; have h9 : (0 : Int32).toInt = 0 := (by decide +kernel); omega), (fun p q _ hb => by exfalso; have h9 : (0 : Int32).toInt = 0 := (by decide +kernel); omega), (fun b hb => by exfalso; have h9 : (0 : Int32).toInt = 0 := (by decide +kernel); omega)⟩ (show _ < 10000000 by omega)
    intro a_120 n x1_7 s_7 hI ih_a_120
    obtain ⟨hn_a_120, b_x1_7, hB_s_7, hF_s_7, hBK_s_7, hTG_s_7, hOF_s_7, hLV_s_7, hFE_s_7, hle7, he3, hfe, hmo, hon⟩ := hI
    have f_s_7_4 : (s_7.1 4 0).toInt = (σ.1 4 0).toInt := by rw [hF_s_7.1 4 (by decide)]
    have f_s_7_5 : (s_7.1 5 0).toInt = (σ.1 5 0).toInt := by rw [hF_s_7.1 5 (by decide)]
    have g_7 := gX_20 hB_s_7 0
    refine ok_ite (fun c_6 => ?_) (fun c_6 => ?_)
    · rw [fa_le] at c_6
      refine ok_ix ⟨by omega, by omega⟩ ?_
      have g_8 := gX_27 hB_s_7 0
      refine ok_lt fun s_9 e_s_9 => ?_
      have hB_s_9 : BX s_9 := by rw [e_s_9]; exact pX_28 hB_s_7 (by omega)
      have hF_s_9 : FR [20, 21, 22, 23, 24, 25, 26, 27, 28, 29, 30, 31, 32, 33] [0] σ s_9 := by rw [e_s_9]; exact FR.st hF_s_7 (by decide)
      have w_s_9_20 : (s_9.1 20 0).toInt = (s_7.1 20 0).toInt := by rw [e_s_9]; rfl
      have w_s_9_27 : (s_9.1 27 0).toInt = (s_7.1 27 0).toInt := by rw [e_s_9]; rfl
      have w_s_9_32 : (s_9.1 32 0).toInt = (s_7.1 32 0).toInt := by rw [e_s_9]; rfl
      have f_s_9_4 : (s_9.1 4 0).toInt = (σ.1 4 0).toInt := by rw [hF_s_9.1 4 (by decide)]
      have f_s_9_5 : (s_9.1 5 0).toInt = (σ.1 5 0).toInt := by rw [hF_s_9.1 5 (by decide)]
      have hBK_s_9 : BKI (mk (σ.1 4 0).toInt.toNat (σ.1 8)) (CUTC (σ.1 4 0).toInt.toNat (σ.1 5 0).toInt.toNat (ri (σ.1 6)) (ri (σ.1 7)) (ri (σ.1 9)) (ri (σ.1 10)) (ri (σ.1 11)) (mk (σ.1 4 0).toInt.toNat (σ.1 8))) (σ.1 4 0).toInt.toNat (ri (s_9.1 21)) (ri (s_9.1 22)) (ri (s_9.1 23)) (s_9.1 20 0).toInt.toNat := by rw [e_s_9]; exact hBK_s_7
      have hTG_s_9 : TG s_9 := by rw [e_s_9]; exact TG.st1 (by decide) hTG_s_7
      have hOF_s_9 : OF s_9 := by rw [e_s_9]; exact OF.st1 (by decide) hOF_s_7
      have hLV_s_9 : LV s_9 := by rw [e_s_9]; exact LV.st1 (by decide) hLV_s_7
      have c9 := clamp_I (x := s_7.1 20 0) (by omega)
      have hGB_s_9 : GB s_9 := GB.of hB hLW (s := s_9) (by rw [e_s_9]; exact hBK_s_7) (hF_s_9.1 6 (by decide)) (hF_s_9.1 7 (by decide)) (hF_s_9.1 8 (by decide))
      have hFE_s_9 : FE s_9 := fun b hb => by rw [e_s_9, sti_if]; by_cases q : b = (s_7.1 20 0).toNatClampNeg; (rw [if_pos q]; omega); (rw [if_neg q]; exact hFE_s_7 b hb)
      have h20p : 1 ≤ (s_7.1 20 0).toInt := by have h8 : (s_7.1 20 0).toInt.toNat = cbP (mk (σ.1 4 0).toInt.toNat (σ.1 8)) (CUTC (σ.1 4 0).toInt.toNat (σ.1 5 0).toInt.toNat (ri (σ.1 6)) (ri (σ.1 7)) (ri (σ.1 9)) (ri (σ.1 10)) (ri (σ.1 11)) (mk (σ.1 4 0).toInt.toNat (σ.1 8))) (σ.1 4 0).toInt.toNat := hBK_s_7.1; have h9 := cb_pos (dd := mk (σ.1 4 0).toInt.toNat (σ.1 8)) (ct := CUTC (σ.1 4 0).toInt.toNat (σ.1 5 0).toInt.toNat (ri (σ.1 6)) (ri (σ.1 7)) (ri (σ.1 9)) (ri (σ.1 10)) (ri (σ.1 11)) (mk (σ.1 4 0).toInt.toNat (σ.1 8))) (i := (σ.1 4 0).toInt.toNat) hd0 (by omega); omega
      have hEB_s_9 : EB s_9 := ⟨by omega, fun p q hpq hq => by rw [show s_9.1 28 = (sti s_7 28 (s_7.1 20 0).toNatClampNeg (s_7.1 27 0)).1 28 by rw [e_s_9], sti_if, sti_if]; by_cases r : q = (s_7.1 20 0).toNatClampNeg; (rw [if_pos r]; by_cases r2 : p = (s_7.1 20 0).toNatClampNeg; (rw [if_pos r2]; exact Int.le_refl _); (rw [if_neg r2]; exact hfe p (by omega))); (rw [if_neg r, if_neg (by omega)]; exact hmo p q hpq (by omega)), fun b hb => by rw [show s_9.1 28 = (sti s_7 28 (s_7.1 20 0).toNatClampNeg (s_7.1 27 0)).1 28 by rw [e_s_9], sti_if, if_pos (by omega)]; omega, fun e he => by rw [show s_9.1 30 = s_7.1 30 by rw [e_s_9]; rfl]; have := hTG_s_7 e (by omega); omega⟩
      have hON_s_9 : ON s_9 := fun b hb => by rw [show s_9.1 24 = s_7.1 24 by rw [e_s_9]; rfl, show s_9.1 25 = s_7.1 25 by rw [e_s_9]; rfl, show s_9.1 20 = s_7.1 20 by rw [e_s_9]; rfl] at *; exact hon b (by omega)
      exact ok_ret ⟨hB_s_9, hF_s_9, hGB_s_9, hEB_s_9, hFE_s_9, hON_s_9, hBK_s_9⟩
    · rw [fa_le] at c_6
      refine ok_cals (s_X0_join (x1 := x1_7) (σ := s_7) hB_s_7 hLV_s_7 hOF_s_7 hTG_s_7 (by omega) (by omega) (by obtain ⟨f, l, r1, r2, r3, r4, r5, r6, r7, r8, r9⟩ := hBK_s_7.blk hR.nx (b := x1_7.toNatClampNeg) (by have := clamp_I (x := x1_7) (by omega); omega); have r2b : (s_7.1 22 x1_7.toNatClampNeg).toInt = l := r2; rw [hF_s_7.1 4 (by decide)]; omega) (by obtain ⟨f, l, r1, r2, r3, r4, r5, r6, r7, r8, r9⟩ := hBK_s_7.blk hR.nx (b := x1_7.toNatClampNeg) (by have := clamp_I (x := x1_7) (by omega); omega); have r2b : (s_7.1 22 x1_7.toNatClampNeg).toInt = l := r2; have q := (r8 l r3 (Nat.le_refl _)).1; rw [mk_lt r4] at q; rw [hF_s_7.1 8 (by decide), show (s_7.1 22 x1_7.toNatClampNeg).toNatClampNeg = l by have := clamp_I (x := s_7.1 22 x1_7.toNatClampNeg) (by omega); omega]; exact q)) (fun s_10 h_9 => ?_)
      obtain ⟨hB_s_10, hG_s_10, hTG_s_10, x_s_10⟩ := h_9
      (try dsimp only at hB_s_10 hG_s_10 hTG_s_10 x_s_10)
      have hF_s_10 : FR [20, 21, 22, 23, 24, 25, 26, 27, 28, 29, 30, 31, 32, 33] [0] σ s_10 := FR.cal hF_s_7 hG_s_10 rfl rfl
      have w_s_10_20 : (s_10.1 20 0).toInt = (s_7.1 20 0).toInt := by rw [hG_s_10.1 20 (by decide)]
      have w_s_10_32 : (s_10.1 32 0).toInt = (s_7.1 32 0).toInt := by rw [hG_s_10.1 32 (by decide)]
      have f_s_10_4 : (s_10.1 4 0).toInt = (σ.1 4 0).toInt := by rw [hF_s_10.1 4 (by decide)]
      have f_s_10_5 : (s_10.1 5 0).toInt = (σ.1 5 0).toInt := by rw [hF_s_10.1 5 (by decide)]
      have hBK_s_10 : BKI (mk (σ.1 4 0).toInt.toNat (σ.1 8)) (CUTC (σ.1 4 0).toInt.toNat (σ.1 5 0).toInt.toNat (ri (σ.1 6)) (ri (σ.1 7)) (ri (σ.1 9)) (ri (σ.1 10)) (ri (σ.1 11)) (mk (σ.1 4 0).toInt.toNat (σ.1 8))) (σ.1 4 0).toInt.toNat (ri (s_10.1 21)) (ri (s_10.1 22)) (ri (s_10.1 23)) (s_10.1 20 0).toInt.toNat := by rw [hG_s_10.1 20 (by decide), hG_s_10.1 21 (by decide), hG_s_10.1 22 (by decide), hG_s_10.1 23 (by decide)]; exact hBK_s_7
      have hOF_s_10 : OF s_10 := OF.fr hG_s_10 (by decide) hOF_s_7
      have hLV_s_10 : LV s_10 := LV.fr hG_s_10 (by decide) hLV_s_7
      have hn10 : (s_10.1 20 0).toInt = (s_7.1 20 0).toInt := by rw [hG_s_10.1 20 (by decide)]
      have hFE_s_10 : FE s_10 := fun b hb => by rw [x_s_10.2.2.1, sti_if]; by_cases q : b = x1_7.toNatClampNeg; (rw [if_pos q]; omega); (rw [if_neg q]; exact hFE_s_7 b hb)
      refine ok_ix ⟨by omega, by omega⟩ ?_
      have g_10 := gX_21 hB_s_10 (x1_7.toNatClampNeg)
      refine ok_lt fun v_11 e_v_11 => ?_
      have b_v_11 : 0 ≤ v_11.toInt ∧ v_11.toInt ≤ 39 := by rw [e_v_11]; exact gX_21 hB_s_10 _
      refine ok_ix ⟨by omega, by omega⟩ ?_
      have g_11 := gX_8 hB_s_10 (v_11.toNatClampNeg)
      refine ok_lt fun v_12 e_v_12 => ?_
      have b_v_12 : (-1) ≤ v_12.toInt ∧ v_12.toInt ≤ 6 := by rw [e_v_12]; exact gX_8 hB_s_10 _
      refine ok_ix ⟨by omega, by omega⟩ ?_
      have g_12 := gX_22 hB_s_10 (x1_7.toNatClampNeg)
      refine ok_lt fun v_13 e_v_13 => ?_
      have b_v_13 : 0 ≤ v_13.toInt ∧ v_13.toInt ≤ 39 := by rw [e_v_13]; exact gX_22 hB_s_10 _
      refine ok_calp (s_X3_depthBehind (x1 := v_13) (σ := s_10) hB_s_10 (by omega)) (fun v_14 h_13 => ?_)
      obtain ⟨b_v_14, x_v_14⟩ := h_13
      (try dsimp only at b_v_14 x_v_14)
      have y14 : v_14.toInt ≤ 6 := by obtain ⟨f, l, r1, r2, r3, r4, r5, r6, r7, r8, r9⟩ := hBK_s_7.blk hR.nx (b := x1_7.toNatClampNeg) (by have := clamp_I (x := x1_7) (by omega); omega); have r2b : (s_7.1 22 x1_7.toNatClampNeg).toInt = l := r2; have q13 : v_13.toNatClampNeg = l := (by have z := congrArg Int32.toInt e_v_13; rw [hG_s_10.1 22 (by decide)] at z; have := clamp_I (x := v_13) (by omega); omega); have o := hR.1 l r4 (r8 l r3 (Nat.le_refl _)).1; have x9 := x_v_14; unfold HD at x9; rw [q13, hF_s_10.1 6 (by decide), hF_s_10.1 8 (by decide)] at x9; have o2 := o.2.1; rw [mk_lt r4] at o2; unfold ri at o2; omega
      obtain ⟨t_14, ht_14, g_14⟩ : ∃ t : Int, (if v_12 < v_14 then v_14 else v_12).toInt = t ∧ -2147483648 ≤ t ∧ t ≤ 2147483647 := ⟨_, rfl, tI_rng _⟩
      refine ok_lt fun v_15 e_v_15 => ?_
      have b_v_15 := mx_spec e_v_15
      obtain ⟨t_15, ht_15, g_15⟩ : ∃ t : Int, (if (s_10.1 32 0) < v_15 then v_15 else (s_10.1 32 0)).toInt = t ∧ -2147483648 ≤ t ∧ t ≤ 2147483647 := ⟨_, rfl, tI_rng _⟩
      refine ok_lt fun v_16 e_v_16 => ?_
      have g_16 := gX_32 hB_s_10 0
      have b_v_16 := mx_spec e_v_16
      refine ok_lt fun s_17 e_s_17 => ?_
      have hB_s_17 : BX s_17 := by rw [e_s_17]; exact pX_32 hB_s_10 (by omega)
      have hF_s_17 : FR [20, 21, 22, 23, 24, 25, 26, 27, 28, 29, 30, 31, 32, 33] [0] σ s_17 := by rw [e_s_17]; exact FR.st hF_s_10 (by decide)
      have w_s_17_20 : (s_17.1 20 0).toInt = (s_10.1 20 0).toInt := by rw [e_s_17]; rfl
      have w_s_17_27 : (s_17.1 27 0).toInt = (s_10.1 27 0).toInt := by rw [e_s_17]; rfl
      have w_s_17_32 : (s_17.1 32 0).toInt = v_16.toInt := by rw [e_s_17, sti_s]
      have f_s_17_4 : (s_17.1 4 0).toInt = (σ.1 4 0).toInt := by rw [hF_s_17.1 4 (by decide)]
      have f_s_17_5 : (s_17.1 5 0).toInt = (σ.1 5 0).toInt := by rw [hF_s_17.1 5 (by decide)]
      have hTG_s_17 : TG s_17 := by rw [e_s_17]; exact TG.st1 (by decide) hTG_s_10
      have hBK_s_17 : BKI (mk (σ.1 4 0).toInt.toNat (σ.1 8)) (CUTC (σ.1 4 0).toInt.toNat (σ.1 5 0).toInt.toNat (ri (σ.1 6)) (ri (σ.1 7)) (ri (σ.1 9)) (ri (σ.1 10)) (ri (σ.1 11)) (mk (σ.1 4 0).toInt.toNat (σ.1 8))) (σ.1 4 0).toInt.toNat (ri (s_17.1 21)) (ri (s_17.1 22)) (ri (s_17.1 23)) (s_17.1 20 0).toInt.toNat := by rw [e_s_17]; exact hBK_s_10
      have hOF_s_17 : OF s_17 := by rw [e_s_17]; exact OF.st1 (by decide) hOF_s_10
      have hLV_s_17 : LV s_17 := by rw [e_s_17]; exact LV.st1 (by decide) hLV_s_10
      have hFE_s_17 : FE s_17 := by rw [e_s_17]; exact FE.st1 (by decide) hFE_s_10
      have cx7 := clamp_I (x := x1_7) (by omega)
      obtain ⟨t_17, ht_17, g_17⟩ : ∃ t : Int, (x1_7 + 1).toInt = t ∧ t = x1_7.toInt + (1 : Int32).toInt := ⟨_, rfl, by have h9 := fb_addI (x := x1_7) (y := (1 : Int32)) (by omega) (by omega); exact h9⟩
      refine ok_lt fun x1_18 e_x1_18 => ?_
      have q_x1_18 : x1_18.toInt = t_17 := by rw [e_x1_18]; exact ht_17
      exact ih_a_120 _ x1_18 s_17 (by rw [hn_a_120]; omega) ⟨rfl, (by omega), hB_s_17, hF_s_17, hBK_s_17, hTG_s_17, hOF_s_17, hLV_s_17, hFE_s_17, (by omega), (by omega), (fun b hb => by rw [show s_17.1 28 = s_10.1 28 by rw [e_s_17]; rfl, x_s_10.2.2.1, sti_if]; by_cases q : b = x1_7.toNatClampNeg; (rw [if_pos q]; omega); (rw [if_neg q]; have := hfe b (by omega); omega)), (fun p q hpq hq => by rw [show s_17.1 28 = s_10.1 28 by rw [e_s_17]; rfl, x_s_10.2.2.1, sti_if, sti_if]; by_cases r : q = x1_7.toNatClampNeg; (rw [if_pos r]; by_cases r2 : p = x1_7.toNatClampNeg; (rw [if_pos r2]; exact Int.le_refl _); (rw [if_neg r2]; exact hfe p (by omega))); (rw [if_neg r, if_neg (by omega)]; exact hmo p q hpq (by omega))), (fun b hb => by rw [show s_17.1 24 = s_10.1 24 by rw [e_s_17]; rfl, show s_17.1 25 = s_10.1 25 by rw [e_s_17]; rfl, show s_17.1 20 = s_10.1 20 by rw [e_s_17]; rfl, hn10]; by_cases q : b = x1_7.toNatClampNeg; (rw [q]; exact x_s_10.2.2.2.2); (rw [(x_s_10.2.2.2.1 b q).1, (x_s_10.2.2.2.1 b q).2]; exact hon b (by omega)))⟩
  · rw [fa_le] at c_2
    refine ok_ix ⟨by omega, by omega⟩ ?_
    refine ok_lt fun s_19 e_s_19 => ?_
    have hB_s_19 : BX s_19 := by rw [e_s_19]; exact pX_23 hB_s_4 (by omega)
    have hF_s_19 : FR [20, 21, 22, 23, 24, 25, 26, 27, 28, 29, 30, 31, 32, 33] [0] σ s_19 := by rw [e_s_19]; exact FR.st hF_s_4 (by decide)
    have w_s_19_20 : (s_19.1 20 0).toInt = (s_4.1 20 0).toInt := by rw [e_s_19]; rfl
    have w_s_19_27 : (s_19.1 27 0).toInt = (s_4.1 27 0).toInt := by rw [e_s_19]; rfl
    have w_s_19_32 : (s_19.1 32 0).toInt = (s_4.1 32 0).toInt := by rw [e_s_19]; rfl
    have f_s_19_4 : (s_19.1 4 0).toInt = (σ.1 4 0).toInt := by rw [hF_s_19.1 4 (by decide)]
    have f_s_19_5 : (s_19.1 5 0).toInt = (σ.1 5 0).toInt := by rw [hF_s_19.1 5 (by decide)]
    have hRC_s_19 : ∀ i : Nat, i ≤ 40 → ((s_19.1 33 i).toInt ≠ 0 ↔ CUTC (σ.1 4 0).toInt.toNat (σ.1 5 0).toInt.toNat (ri (σ.1 6)) (ri (σ.1 7)) (ri (σ.1 9)) (ri (σ.1 10)) (ri (σ.1 11)) (mk (σ.1 4 0).toInt.toNat (σ.1 8)) i) := by rw [e_s_19]; exact hRC_s_4
    have hFE_s_19 : FE s_19 := by rw [e_s_19]; exact FE.st1 (by decide) hFE_s_4
    have cx4 := clamp_I (x := x1_4) (by omega)
    refine ok_ix ⟨by omega, by omega⟩ ?_
    have g_18 := gX_8 hB_s_19 (x1_4.toNatClampNeg)
    refine ok_lt fun v_20 e_v_20 => ?_
    have b_v_20 : (-1) ≤ v_20.toInt ∧ v_20.toInt ≤ 6 := by rw [e_v_20]; exact gX_8 hB_s_19 _
    have z20 : (mk (σ.1 4 0).toInt.toNat (σ.1 8)) x1_4.toNatClampNeg = v_20.toInt := by rw [mk_lt (by omega), e_v_20, hF_s_19.1 8 (by decide)]
    have hnb4 : (s_4.1 20 0).toInt.toNat = cbP (mk (σ.1 4 0).toInt.toNat (σ.1 8)) (CUTC (σ.1 4 0).toInt.toNat (σ.1 5 0).toInt.toNat (ri (σ.1 6)) (ri (σ.1 7)) (ri (σ.1 9)) (ri (σ.1 10)) (ri (σ.1 11)) (mk (σ.1 4 0).toInt.toNat (σ.1 8))) x1_4.toNatClampNeg := hbk.1
    have hle20 : (s_4.1 20 0).toInt.toNat ≤ x1_4.toNatClampNeg := by rw [hnb4]; exact fb_ct_le _ _
    have hp4 : 0 < x1_4.toNatClampNeg → 1 ≤ (s_4.1 20 0).toInt.toNat := fun h => by rw [hnb4]; exact cb_pos hd0 h
    have hq4 : x1_4.toNatClampNeg = 0 → (s_4.1 20 0).toInt.toNat = 0 := fun h => by rw [hnb4, h]; rfl
    refine ok_jnI1 (fun (s_21 : Sto) => True ∧ (BX s_21) ∧ (FR [20, 21, 22, 23, 24, 25, 26, 27, 28, 29, 30, 31, 32, 33] [0] σ s_21) ∧ (∀ i : Nat, i ≤ 40 → ((s_21.1 33 i).toInt ≠ 0 ↔ CUTC (σ.1 4 0).toInt.toNat (σ.1 5 0).toInt.toNat (ri (σ.1 6)) (ri (σ.1 7)) (ri (σ.1 9)) (ri (σ.1 10)) (ri (σ.1 11)) (mk (σ.1 4 0).toInt.toNat (σ.1 8)) i)) ∧ (FE s_21) ∧ ((s_21.1 4 0).toInt = (σ.1 4 0).toInt) ∧ (BKI (mk (σ.1 4 0).toInt.toNat (σ.1 8)) (CUTC (σ.1 4 0).toInt.toNat (σ.1 5 0).toInt.toNat (ri (σ.1 6)) (ri (σ.1 7)) (ri (σ.1 9)) (ri (σ.1 10)) (ri (σ.1 11)) (mk (σ.1 4 0).toInt.toNat (σ.1 8))) (x1_4.toNatClampNeg + 1) (ri (s_21.1 21)) (ri (s_21.1 22)) (ri (s_21.1 23)) (s_21.1 20 0).toInt.toNat)) ?_ ?_
    · intro s_21 hJ
      obtain ⟨-, hB_s_21, hF_s_21, hRC_s_21, hFE_s_21, j4, j21⟩ := hJ
      have f_s_21_4 : (s_21.1 4 0).toInt = (σ.1 4 0).toInt := by rw [hF_s_21.1 4 (by decide)]
      have f_s_21_5 : (s_21.1 5 0).toInt = (σ.1 5 0).toInt := by rw [hF_s_21.1 5 (by decide)]
      obtain ⟨t_19, ht_19, g_19⟩ : ∃ t : Int, (x1_4 + 1).toInt = t ∧ t = x1_4.toInt + (1 : Int32).toInt := ⟨_, rfl, by have h9 := fb_addI (x := x1_4) (y := (1 : Int32)) (by omega) (by omega); exact h9⟩
      refine ok_lt fun x1_22 e_x1_22 => ?_
      have q_x1_22 : x1_22.toInt = t_19 := by rw [e_x1_22]; exact ht_19
      exact ih_a_16 _ x1_22 s_21 (by rw [hn_a_16]; omega) ⟨rfl, (by omega), hB_s_21, hF_s_21, hRC_s_21, hFE_s_21, (by omega), (by rw [show x1_22.toNatClampNeg = x1_4.toNatClampNeg + 1 by rw [e_x1_22]; exact c_s (by omega) (by omega)]; exact j21)⟩
    · intro k_107 hk_k_107
      refine ok_ite (fun c_20 => ?_) (fun c_20 => ?_)
      · rw [fa_eq] at c_20
        exact hk_k_107 s_19 ⟨trivial, hB_s_19, hF_s_19, hRC_s_19, hFE_s_19, (by omega), (BKI.st_no hbk (by omega) rfl e_s_19 (by omega))⟩
      · rw [fa_eq] at c_20
        refine ok_jn ?_
        refine ok_jn ?_
        have g_22 := gX_20 hB_s_19 0
        refine ok_ite (fun c_21 => ?_) (fun c_21 => ?_)
        · rw [fa_eq] at c_21
          refine ok_ix ⟨by omega, by omega⟩ ?_
          refine ok_lt fun s_28 e_s_28 => ?_
          have hB_s_28 : BX s_28 := by rw [e_s_28]; exact pX_21 hB_s_19 (by omega)
          have hF_s_28 : FR [20, 21, 22, 23, 24, 25, 26, 27, 28, 29, 30, 31, 32, 33] [0] σ s_28 := by rw [e_s_28]; exact FR.st hF_s_19 (by decide)
          have w_s_28_20 : (s_28.1 20 0).toInt = (s_19.1 20 0).toInt := by rw [e_s_28]; rfl
          have w_s_28_27 : (s_28.1 27 0).toInt = (s_19.1 27 0).toInt := by rw [e_s_28]; rfl
          have w_s_28_32 : (s_28.1 32 0).toInt = (s_19.1 32 0).toInt := by rw [e_s_28]; rfl
          have f_s_28_4 : (s_28.1 4 0).toInt = (σ.1 4 0).toInt := by rw [hF_s_28.1 4 (by decide)]
          have f_s_28_5 : (s_28.1 5 0).toInt = (σ.1 5 0).toInt := by rw [hF_s_28.1 5 (by decide)]
          have hRC_s_28 : ∀ i : Nat, i ≤ 40 → ((s_28.1 33 i).toInt ≠ 0 ↔ CUTC (σ.1 4 0).toInt.toNat (σ.1 5 0).toInt.toNat (ri (σ.1 6)) (ri (σ.1 7)) (ri (σ.1 9)) (ri (σ.1 10)) (ri (σ.1 11)) (mk (σ.1 4 0).toInt.toNat (σ.1 8)) i) := by rw [e_s_28]; exact hRC_s_19
          have hFE_s_28 : FE s_28 := by rw [e_s_28]; exact FE.st1 (by decide) hFE_s_19
          have hct : CUTC (σ.1 4 0).toInt.toNat (σ.1 5 0).toInt.toNat (ri (σ.1 6)) (ri (σ.1 7)) (ri (σ.1 9)) (ri (σ.1 10)) (ri (σ.1 11)) (mk (σ.1 4 0).toInt.toNat (σ.1 8)) x1_4.toNatClampNeg ∨ x1_4.toNatClampNeg = 0 := by first | exact Or.inr (by omega) | exact Or.inl ((hRC_s_19 _ (by omega)).mp (by rw [← e_v_31]; omega))
          have g_23 := gX_20 hB_s_28 0
          obtain ⟨t_24, ht_24, g_24⟩ : ∃ t : Int, ((s_28.1 20 0) + 1).toInt = t ∧ t = (s_28.1 20 0).toInt + (1 : Int32).toInt := ⟨_, rfl, by have h9 := fb_addI (x := (s_28.1 20 0)) (y := (1 : Int32)) (by omega) (by omega); exact h9⟩
          refine ok_lt fun s_29 e_s_29 => ?_
          have hB_s_29 : BX s_29 := by rw [e_s_29]; exact pX_20 hB_s_28 (by rw [ht_24]; omega)
          have hF_s_29 : FR [20, 21, 22, 23, 24, 25, 26, 27, 28, 29, 30, 31, 32, 33] [0] σ s_29 := by rw [e_s_29]; exact FR.st hF_s_28 (by decide)
          have w_s_29_20 : (s_29.1 20 0).toInt = t_24 := by rw [e_s_29, sti_s, ht_24]
          have w_s_29_27 : (s_29.1 27 0).toInt = (s_28.1 27 0).toInt := by rw [e_s_29]; rfl
          have w_s_29_32 : (s_29.1 32 0).toInt = (s_28.1 32 0).toInt := by rw [e_s_29]; rfl
          have f_s_29_4 : (s_29.1 4 0).toInt = (σ.1 4 0).toInt := by rw [hF_s_29.1 4 (by decide)]
          have f_s_29_5 : (s_29.1 5 0).toInt = (σ.1 5 0).toInt := by rw [hF_s_29.1 5 (by decide)]
          have hRC_s_29 : ∀ i : Nat, i ≤ 40 → ((s_29.1 33 i).toInt ≠ 0 ↔ CUTC (σ.1 4 0).toInt.toNat (σ.1 5 0).toInt.toNat (ri (σ.1 6)) (ri (σ.1 7)) (ri (σ.1 9)) (ri (σ.1 10)) (ri (σ.1 11)) (mk (σ.1 4 0).toInt.toNat (σ.1 8)) i) := by rw [e_s_29]; exact hRC_s_28
          have hFE_s_29 : FE s_29 := by rw [e_s_29]; exact FE.st1 (by decide) hFE_s_28
          refine ok_ix ⟨by omega, by omega⟩ ?_
          have g_25 := gX_20 hB_s_29 0
          obtain ⟨t_26, ht_26, g_26⟩ : ∃ t : Int, ((s_29.1 20 0) - 1).toInt = t ∧ t = (s_29.1 20 0).toInt - (1 : Int32).toInt := ⟨_, rfl, by have h9 := fb_subI (x := (s_29.1 20 0)) (y := (1 : Int32)) (by omega) (by omega); exact h9⟩
          refine ok_lt fun s_25 e_s_25 => ?_
          have hB_s_25 : BX s_25 := by rw [e_s_25]; exact pX_23 hB_s_29 (by rw [ht_26]; omega)
          have hF_s_25 : FR [20, 21, 22, 23, 24, 25, 26, 27, 28, 29, 30, 31, 32, 33] [0] σ s_25 := by rw [e_s_25]; exact FR.st hF_s_29 (by decide)
          have w_s_25_20 : (s_25.1 20 0).toInt = (s_29.1 20 0).toInt := by rw [e_s_25]; rfl
          have w_s_25_27 : (s_25.1 27 0).toInt = (s_29.1 27 0).toInt := by rw [e_s_25]; rfl
          have w_s_25_32 : (s_25.1 32 0).toInt = (s_29.1 32 0).toInt := by rw [e_s_25]; rfl
          have f_s_25_4 : (s_25.1 4 0).toInt = (σ.1 4 0).toInt := by rw [hF_s_25.1 4 (by decide)]
          have f_s_25_5 : (s_25.1 5 0).toInt = (σ.1 5 0).toInt := by rw [hF_s_25.1 5 (by decide)]
          have hRC_s_25 : ∀ i : Nat, i ≤ 40 → ((s_25.1 33 i).toInt ≠ 0 ↔ CUTC (σ.1 4 0).toInt.toNat (σ.1 5 0).toInt.toNat (ri (σ.1 6)) (ri (σ.1 7)) (ri (σ.1 9)) (ri (σ.1 10)) (ri (σ.1 11)) (mk (σ.1 4 0).toInt.toNat (σ.1 8)) i) := by rw [e_s_25]; exact hRC_s_29
          have hFE_s_25 : FE s_25 := by rw [e_s_25]; exact FE.st1 (by decide) hFE_s_29
          have g_27 := gX_20 hB_s_25 0
          obtain ⟨t_28, ht_28, g_28⟩ : ∃ t : Int, ((s_25.1 20 0) - 1).toInt = t ∧ t = (s_25.1 20 0).toInt - (1 : Int32).toInt := ⟨_, rfl, by have h9 := fb_subI (x := (s_25.1 20 0)) (y := (1 : Int32)) (by omega) (by omega); exact h9⟩
          refine ok_ix ⟨by rw [ht_28]; omega, by rw [ht_28]; omega⟩ ?_
          refine ok_lt fun s_26 e_s_26 => ?_
          have hB_s_26 : BX s_26 := by rw [e_s_26]; exact pX_22 hB_s_25 (by omega)
          have hF_s_26 : FR [20, 21, 22, 23, 24, 25, 26, 27, 28, 29, 30, 31, 32, 33] [0] σ s_26 := by rw [e_s_26]; exact FR.st hF_s_25 (by decide)
          have w_s_26_20 : (s_26.1 20 0).toInt = (s_25.1 20 0).toInt := by rw [e_s_26]; rfl
          have w_s_26_27 : (s_26.1 27 0).toInt = (s_25.1 27 0).toInt := by rw [e_s_26]; rfl
          have w_s_26_32 : (s_26.1 32 0).toInt = (s_25.1 32 0).toInt := by rw [e_s_26]; rfl
          have f_s_26_4 : (s_26.1 4 0).toInt = (σ.1 4 0).toInt := by rw [hF_s_26.1 4 (by decide)]
          have f_s_26_5 : (s_26.1 5 0).toInt = (σ.1 5 0).toInt := by rw [hF_s_26.1 5 (by decide)]
          have hRC_s_26 : ∀ i : Nat, i ≤ 40 → ((s_26.1 33 i).toInt ≠ 0 ↔ CUTC (σ.1 4 0).toInt.toNat (σ.1 5 0).toInt.toNat (ri (σ.1 6)) (ri (σ.1 7)) (ri (σ.1 9)) (ri (σ.1 10)) (ri (σ.1 11)) (mk (σ.1 4 0).toInt.toNat (σ.1 8)) i) := by rw [e_s_26]; exact hRC_s_25
          have hFE_s_26 : FE s_26 := by rw [e_s_26]; exact FE.st1 (by decide) hFE_s_25
          exact hk_k_107 s_26 ⟨trivial, hB_s_26, hF_s_26, hRC_s_26, hFE_s_26, (by omega), (by first | exact BKI.st_bg hbk (bgP_t.mpr ⟨by omega, hct⟩) rfl (by omega) e_s_19 e_s_28 e_s_29 e_s_25 (by omega) e_s_26 (by omega) (by omega) | exact BKI.st_on hbk (by omega) (bgP_f.mpr (fun z => z.2.elim (fun y => absurd ((hRC_s_19 _ (by omega)).mpr y) (by rw [← e_v_31]; omega)) (fun y => by omega))) rfl (by omega) e_s_19 e_s_25 (by omega) e_s_26 (by omega) (by omega))⟩
        · rw [fa_eq] at c_21
          refine ok_ix ⟨by omega, by omega⟩ ?_
          have g_29 := gX_33 hB_s_19 (x1_4.toNatClampNeg)
          refine ok_lt fun v_31 e_v_31 => ?_
          have b_v_31 : 0 ≤ v_31.toInt ∧ v_31.toInt ≤ 1 := by rw [e_v_31]; exact gX_33 hB_s_19 _
          refine ok_ite (fun c_30 => ?_) (fun c_30 => ?_)
          · rw [fa_eq] at c_30
            refine ok_ix ⟨by omega, by omega⟩ ?_
            obtain ⟨t_31, ht_31, g_31⟩ : ∃ t : Int, ((s_19.1 20 0) - 1).toInt = t ∧ t = (s_19.1 20 0).toInt - (1 : Int32).toInt := ⟨_, rfl, by have h9 := fb_subI (x := (s_19.1 20 0)) (y := (1 : Int32)) (by omega) (by omega); exact h9⟩
            refine ok_lt fun s_25 e_s_25 => ?_
            have hB_s_25 : BX s_25 := by rw [e_s_25]; exact pX_23 hB_s_19 (by rw [ht_31]; omega)
            have hF_s_25 : FR [20, 21, 22, 23, 24, 25, 26, 27, 28, 29, 30, 31, 32, 33] [0] σ s_25 := by rw [e_s_25]; exact FR.st hF_s_19 (by decide)
            have w_s_25_20 : (s_25.1 20 0).toInt = (s_19.1 20 0).toInt := by rw [e_s_25]; rfl
            have w_s_25_27 : (s_25.1 27 0).toInt = (s_19.1 27 0).toInt := by rw [e_s_25]; rfl
            have w_s_25_32 : (s_25.1 32 0).toInt = (s_19.1 32 0).toInt := by rw [e_s_25]; rfl
            have f_s_25_4 : (s_25.1 4 0).toInt = (σ.1 4 0).toInt := by rw [hF_s_25.1 4 (by decide)]
            have f_s_25_5 : (s_25.1 5 0).toInt = (σ.1 5 0).toInt := by rw [hF_s_25.1 5 (by decide)]
            have hRC_s_25 : ∀ i : Nat, i ≤ 40 → ((s_25.1 33 i).toInt ≠ 0 ↔ CUTC (σ.1 4 0).toInt.toNat (σ.1 5 0).toInt.toNat (ri (σ.1 6)) (ri (σ.1 7)) (ri (σ.1 9)) (ri (σ.1 10)) (ri (σ.1 11)) (mk (σ.1 4 0).toInt.toNat (σ.1 8)) i) := by rw [e_s_25]; exact hRC_s_19
            have hFE_s_25 : FE s_25 := by rw [e_s_25]; exact FE.st1 (by decide) hFE_s_19
            have g_32 := gX_20 hB_s_25 0
            obtain ⟨t_33, ht_33, g_33⟩ : ∃ t : Int, ((s_25.1 20 0) - 1).toInt = t ∧ t = (s_25.1 20 0).toInt - (1 : Int32).toInt := ⟨_, rfl, by have h9 := fb_subI (x := (s_25.1 20 0)) (y := (1 : Int32)) (by omega) (by omega); exact h9⟩
            refine ok_ix ⟨by rw [ht_33]; omega, by rw [ht_33]; omega⟩ ?_
            refine ok_lt fun s_26 e_s_26 => ?_
            have hB_s_26 : BX s_26 := by rw [e_s_26]; exact pX_22 hB_s_25 (by omega)
            have hF_s_26 : FR [20, 21, 22, 23, 24, 25, 26, 27, 28, 29, 30, 31, 32, 33] [0] σ s_26 := by rw [e_s_26]; exact FR.st hF_s_25 (by decide)
            have w_s_26_20 : (s_26.1 20 0).toInt = (s_25.1 20 0).toInt := by rw [e_s_26]; rfl
            have w_s_26_27 : (s_26.1 27 0).toInt = (s_25.1 27 0).toInt := by rw [e_s_26]; rfl
            have w_s_26_32 : (s_26.1 32 0).toInt = (s_25.1 32 0).toInt := by rw [e_s_26]; rfl
            have f_s_26_4 : (s_26.1 4 0).toInt = (σ.1 4 0).toInt := by rw [hF_s_26.1 4 (by decide)]
            have f_s_26_5 : (s_26.1 5 0).toInt = (σ.1 5 0).toInt := by rw [hF_s_26.1 5 (by decide)]
            have hRC_s_26 : ∀ i : Nat, i ≤ 40 → ((s_26.1 33 i).toInt ≠ 0 ↔ CUTC (σ.1 4 0).toInt.toNat (σ.1 5 0).toInt.toNat (ri (σ.1 6)) (ri (σ.1 7)) (ri (σ.1 9)) (ri (σ.1 10)) (ri (σ.1 11)) (mk (σ.1 4 0).toInt.toNat (σ.1 8)) i) := by rw [e_s_26]; exact hRC_s_25
            have hFE_s_26 : FE s_26 := by rw [e_s_26]; exact FE.st1 (by decide) hFE_s_25
            exact hk_k_107 s_26 ⟨trivial, hB_s_26, hF_s_26, hRC_s_26, hFE_s_26, (by omega), (by first | exact BKI.st_bg hbk (bgP_t.mpr ⟨by omega, hct⟩) rfl (by omega) e_s_19 e_s_28 e_s_29 e_s_25 (by omega) e_s_26 (by omega) (by omega) | exact BKI.st_on hbk (by omega) (bgP_f.mpr (fun z => z.2.elim (fun y => absurd ((hRC_s_19 _ (by omega)).mpr y) (by rw [← e_v_31]; omega)) (fun y => by omega))) rfl (by omega) e_s_19 e_s_25 (by omega) e_s_26 (by omega) (by omega))⟩
          · rw [fa_eq] at c_30
            refine ok_ix ⟨by omega, by omega⟩ ?_
            refine ok_lt fun s_28 e_s_28 => ?_
            have hB_s_28 : BX s_28 := by rw [e_s_28]; exact pX_21 hB_s_19 (by omega)
            have hF_s_28 : FR [20, 21, 22, 23, 24, 25, 26, 27, 28, 29, 30, 31, 32, 33] [0] σ s_28 := by rw [e_s_28]; exact FR.st hF_s_19 (by decide)
            have w_s_28_20 : (s_28.1 20 0).toInt = (s_19.1 20 0).toInt := by rw [e_s_28]; rfl
            have w_s_28_27 : (s_28.1 27 0).toInt = (s_19.1 27 0).toInt := by rw [e_s_28]; rfl
            have w_s_28_32 : (s_28.1 32 0).toInt = (s_19.1 32 0).toInt := by rw [e_s_28]; rfl
            have f_s_28_4 : (s_28.1 4 0).toInt = (σ.1 4 0).toInt := by rw [hF_s_28.1 4 (by decide)]
            have f_s_28_5 : (s_28.1 5 0).toInt = (σ.1 5 0).toInt := by rw [hF_s_28.1 5 (by decide)]
            have hRC_s_28 : ∀ i : Nat, i ≤ 40 → ((s_28.1 33 i).toInt ≠ 0 ↔ CUTC (σ.1 4 0).toInt.toNat (σ.1 5 0).toInt.toNat (ri (σ.1 6)) (ri (σ.1 7)) (ri (σ.1 9)) (ri (σ.1 10)) (ri (σ.1 11)) (mk (σ.1 4 0).toInt.toNat (σ.1 8)) i) := by rw [e_s_28]; exact hRC_s_19
            have hFE_s_28 : FE s_28 := by rw [e_s_28]; exact FE.st1 (by decide) hFE_s_19
            have hct : CUTC (σ.1 4 0).toInt.toNat (σ.1 5 0).toInt.toNat (ri (σ.1 6)) (ri (σ.1 7)) (ri (σ.1 9)) (ri (σ.1 10)) (ri (σ.1 11)) (mk (σ.1 4 0).toInt.toNat (σ.1 8)) x1_4.toNatClampNeg ∨ x1_4.toNatClampNeg = 0 := by first | exact Or.inr (by omega) | exact Or.inl ((hRC_s_19 _ (by omega)).mp (by rw [← e_v_31]; omega))
            have g_34 := gX_20 hB_s_28 0
            obtain ⟨t_35, ht_35, g_35⟩ : ∃ t : Int, ((s_28.1 20 0) + 1).toInt = t ∧ t = (s_28.1 20 0).toInt + (1 : Int32).toInt := ⟨_, rfl, by have h9 := fb_addI (x := (s_28.1 20 0)) (y := (1 : Int32)) (by omega) (by omega); exact h9⟩
            refine ok_lt fun s_29 e_s_29 => ?_
            have hB_s_29 : BX s_29 := by rw [e_s_29]; exact pX_20 hB_s_28 (by rw [ht_35]; omega)
            have hF_s_29 : FR [20, 21, 22, 23, 24, 25, 26, 27, 28, 29, 30, 31, 32, 33] [0] σ s_29 := by rw [e_s_29]; exact FR.st hF_s_28 (by decide)
            have w_s_29_20 : (s_29.1 20 0).toInt = t_35 := by rw [e_s_29, sti_s, ht_35]
            have w_s_29_27 : (s_29.1 27 0).toInt = (s_28.1 27 0).toInt := by rw [e_s_29]; rfl
            have w_s_29_32 : (s_29.1 32 0).toInt = (s_28.1 32 0).toInt := by rw [e_s_29]; rfl
            have f_s_29_4 : (s_29.1 4 0).toInt = (σ.1 4 0).toInt := by rw [hF_s_29.1 4 (by decide)]
            have f_s_29_5 : (s_29.1 5 0).toInt = (σ.1 5 0).toInt := by rw [hF_s_29.1 5 (by decide)]
            have hRC_s_29 : ∀ i : Nat, i ≤ 40 → ((s_29.1 33 i).toInt ≠ 0 ↔ CUTC (σ.1 4 0).toInt.toNat (σ.1 5 0).toInt.toNat (ri (σ.1 6)) (ri (σ.1 7)) (ri (σ.1 9)) (ri (σ.1 10)) (ri (σ.1 11)) (mk (σ.1 4 0).toInt.toNat (σ.1 8)) i) := by rw [e_s_29]; exact hRC_s_28
            have hFE_s_29 : FE s_29 := by rw [e_s_29]; exact FE.st1 (by decide) hFE_s_28
            refine ok_ix ⟨by omega, by omega⟩ ?_
            have g_36 := gX_20 hB_s_29 0
            obtain ⟨t_37, ht_37, g_37⟩ : ∃ t : Int, ((s_29.1 20 0) - 1).toInt = t ∧ t = (s_29.1 20 0).toInt - (1 : Int32).toInt := ⟨_, rfl, by have h9 := fb_subI (x := (s_29.1 20 0)) (y := (1 : Int32)) (by omega) (by omega); exact h9⟩
            refine ok_lt fun s_25 e_s_25 => ?_
            have hB_s_25 : BX s_25 := by rw [e_s_25]; exact pX_23 hB_s_29 (by rw [ht_37]; omega)
            have hF_s_25 : FR [20, 21, 22, 23, 24, 25, 26, 27, 28, 29, 30, 31, 32, 33] [0] σ s_25 := by rw [e_s_25]; exact FR.st hF_s_29 (by decide)
            have w_s_25_20 : (s_25.1 20 0).toInt = (s_29.1 20 0).toInt := by rw [e_s_25]; rfl
            have w_s_25_27 : (s_25.1 27 0).toInt = (s_29.1 27 0).toInt := by rw [e_s_25]; rfl
            have w_s_25_32 : (s_25.1 32 0).toInt = (s_29.1 32 0).toInt := by rw [e_s_25]; rfl
            have f_s_25_4 : (s_25.1 4 0).toInt = (σ.1 4 0).toInt := by rw [hF_s_25.1 4 (by decide)]
            have f_s_25_5 : (s_25.1 5 0).toInt = (σ.1 5 0).toInt := by rw [hF_s_25.1 5 (by decide)]
            have hRC_s_25 : ∀ i : Nat, i ≤ 40 → ((s_25.1 33 i).toInt ≠ 0 ↔ CUTC (σ.1 4 0).toInt.toNat (σ.1 5 0).toInt.toNat (ri (σ.1 6)) (ri (σ.1 7)) (ri (σ.1 9)) (ri (σ.1 10)) (ri (σ.1 11)) (mk (σ.1 4 0).toInt.toNat (σ.1 8)) i) := by rw [e_s_25]; exact hRC_s_29
            have hFE_s_25 : FE s_25 := by rw [e_s_25]; exact FE.st1 (by decide) hFE_s_29
            have g_38 := gX_20 hB_s_25 0
            obtain ⟨t_39, ht_39, g_39⟩ : ∃ t : Int, ((s_25.1 20 0) - 1).toInt = t ∧ t = (s_25.1 20 0).toInt - (1 : Int32).toInt := ⟨_, rfl, by have h9 := fb_subI (x := (s_25.1 20 0)) (y := (1 : Int32)) (by omega) (by omega); exact h9⟩
            refine ok_ix ⟨by rw [ht_39]; omega, by rw [ht_39]; omega⟩ ?_
            refine ok_lt fun s_26 e_s_26 => ?_
            have hB_s_26 : BX s_26 := by rw [e_s_26]; exact pX_22 hB_s_25 (by omega)
            have hF_s_26 : FR [20, 21, 22, 23, 24, 25, 26, 27, 28, 29, 30, 31, 32, 33] [0] σ s_26 := by rw [e_s_26]; exact FR.st hF_s_25 (by decide)
            have w_s_26_20 : (s_26.1 20 0).toInt = (s_25.1 20 0).toInt := by rw [e_s_26]; rfl
            have w_s_26_27 : (s_26.1 27 0).toInt = (s_25.1 27 0).toInt := by rw [e_s_26]; rfl
            have w_s_26_32 : (s_26.1 32 0).toInt = (s_25.1 32 0).toInt := by rw [e_s_26]; rfl
            have f_s_26_4 : (s_26.1 4 0).toInt = (σ.1 4 0).toInt := by rw [hF_s_26.1 4 (by decide)]
            have f_s_26_5 : (s_26.1 5 0).toInt = (σ.1 5 0).toInt := by rw [hF_s_26.1 5 (by decide)]
            have hRC_s_26 : ∀ i : Nat, i ≤ 40 → ((s_26.1 33 i).toInt ≠ 0 ↔ CUTC (σ.1 4 0).toInt.toNat (σ.1 5 0).toInt.toNat (ri (σ.1 6)) (ri (σ.1 7)) (ri (σ.1 9)) (ri (σ.1 10)) (ri (σ.1 11)) (mk (σ.1 4 0).toInt.toNat (σ.1 8)) i) := by rw [e_s_26]; exact hRC_s_25
            have hFE_s_26 : FE s_26 := by rw [e_s_26]; exact FE.st1 (by decide) hFE_s_25
            exact hk_k_107 s_26 ⟨trivial, hB_s_26, hF_s_26, hRC_s_26, hFE_s_26, (by omega), (by first | exact BKI.st_bg hbk (bgP_t.mpr ⟨by omega, hct⟩) rfl (by omega) e_s_19 e_s_28 e_s_29 e_s_25 (by omega) e_s_26 (by omega) (by omega) | exact BKI.st_on hbk (by omega) (bgP_f.mpr (fun z => z.2.elim (fun y => absurd ((hRC_s_19 _ (by omega)).mpr y) (by rw [← e_v_31]; omega)) (fun y => by omega))) rfl (by omega) e_s_19 e_s_25 (by omega) e_s_26 (by omega) (by omega))⟩

