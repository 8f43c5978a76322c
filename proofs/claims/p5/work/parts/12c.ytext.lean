set_option maxHeartbeats 4000000 in
theorem s_X12_isText {σ : Sto} (hB : BM σ) : OK (f_X12_isText σ) (fun r => (0 ≤ r.1.toInt ∧ r.1.toInt ≤ 1) ∧ BM r.2 ∧ FR [3, 4, 5, 6, 7, 8] [] σ r.2 ∧ DR r.2 ∧ ((r.1.toInt, (r.2.1 3 0).toInt.toNat) = paT (σ.1 2 0).toInt.toNat (cb (σ.1 1)) ∧ (r.1.toInt = 1 → 1 ≤ (r.2.1 7 0).toInt ∧ (EqQ (σ.1 2 0).toInt.toNat (cb (σ.1 1)) (r.2.1 7 0).toInt.toNat (mk0 (r.2.1 7 0).toInt.toNat (r.2.1 4)) (mk0 (r.2.1 7 0).toInt.toNat (r.2.1 5))) ∧ (EqR (σ.1 2 0).toInt.toNat (cb (σ.1 1)) (r.2.1 8 0).toInt.toNat (mk0 (r.2.1 8 0).toInt.toNat (h3 (r.2.1 6) 0)) (mk0 (r.2.1 8 0).toInt.toNat (h3 (r.2.1 6) 1)) (mk0 (r.2.1 8 0).toInt.toNat (h3 (r.2.1 6) 2)))) ∧ (r.2.1 3 0).toInt ≤ (σ.1 2 0).toInt)) := by
  unfold f_X12_isText
  have hF : FR [3, 4, 5, 6, 7, 8] [] σ σ := FR.rf
  have k_m1 : ((-1) : Int32).toInt = -1 := by decide +kernel
  have k_0 : (0 : Int32).toInt = 0 := by decide +kernel
  have k_1 : (1 : Int32).toInt = 1 := by decide +kernel
  have k_104 : (104 : Int32).toInt = 104 := by decide +kernel
  have g2 := gM_2 hB 0
  have g3 := gM_3 hB 0
  refine ok_lt fun s_1 e_s_1 => ?_
  have hB_s_1 : BM s_1 := by rw [e_s_1]; exact pM_3 hB (by omega)
  have hF_s_1 : FR [3, 4, 5, 6, 7, 8] [] σ s_1 := by rw [e_s_1]; exact FR.st hF (by decide)
  have w_s_1_3 : (s_1.1 3 0).toInt = (0 : Int32).toInt := by rw [e_s_1, sti_s]
  have w_s_1_7 : (s_1.1 7 0).toInt = (σ.1 7 0).toInt := by rw [e_s_1]; rfl
  have w_s_1_8 : (s_1.1 8 0).toInt = (σ.1 8 0).toInt := by rw [e_s_1]; rfl
  have f_s_1_2 : (s_1.1 2 0).toInt = (σ.1 2 0).toInt := by rw [hF_s_1.1 2 (by decide)]
  refine ok_lt fun s_2 e_s_2 => ?_
  have hB_s_2 : BM s_2 := by rw [e_s_2]; exact pM_7 hB_s_1 (by omega)
  have hF_s_2 : FR [3, 4, 5, 6, 7, 8] [] σ s_2 := by rw [e_s_2]; exact FR.st hF_s_1 (by decide)
  have w_s_2_3 : (s_2.1 3 0).toInt = (s_1.1 3 0).toInt := by rw [e_s_2]; rfl
  have w_s_2_7 : (s_2.1 7 0).toInt = (0 : Int32).toInt := by rw [e_s_2, sti_s]
  have w_s_2_8 : (s_2.1 8 0).toInt = (s_1.1 8 0).toInt := by rw [e_s_2]; rfl
  have f_s_2_2 : (s_2.1 2 0).toInt = (σ.1 2 0).toInt := by rw [hF_s_2.1 2 (by decide)]
  refine ok_lt fun s_3 e_s_3 => ?_
  have hB_s_3 : BM s_3 := by rw [e_s_3]; exact pM_8 hB_s_2 (by omega)
  have hF_s_3 : FR [3, 4, 5, 6, 7, 8] [] σ s_3 := by rw [e_s_3]; exact FR.st hF_s_2 (by decide)
  have w_s_3_3 : (s_3.1 3 0).toInt = (s_2.1 3 0).toInt := by rw [e_s_3]; rfl
  have w_s_3_7 : (s_3.1 7 0).toInt = (s_2.1 7 0).toInt := by rw [e_s_3]; rfl
  have w_s_3_8 : (s_3.1 8 0).toInt = (0 : Int32).toInt := by rw [e_s_3, sti_s]
  have f_s_3_2 : (s_3.1 2 0).toInt = (σ.1 2 0).toInt := by rw [hF_s_3.1 2 (by decide)]
  have hDR_s_3 : DR s_3 := fun i hi => by exfalso; omega
  refine ok_calv (s_X12_look  (σ := s_3) hB_s_3 (by omega)) (fun v_4 s_4 h_1 => ?_)
  obtain ⟨b_v_4, hB_s_4, hG_s_4, x_s_4⟩ := h_1
  (try dsimp only at b_v_4 hB_s_4 hG_s_4 x_s_4)
  have hF_s_4 : FR [3, 4, 5, 6, 7, 8] [] σ s_4 := FR.cal hF_s_3 hG_s_4 rfl rfl
  have w_s_4_7 : (s_4.1 7 0).toInt = (s_3.1 7 0).toInt := by rw [hG_s_4.1 7 (by decide)]
  have w_s_4_8 : (s_4.1 8 0).toInt = (s_3.1 8 0).toInt := by rw [hG_s_4.1 8 (by decide)]
  have f_s_4_2 : (s_4.1 2 0).toInt = (σ.1 2 0).toInt := by rw [hF_s_4.1 2 (by decide)]
  have hDR_s_4 : DR s_4 := DR.fr hG_s_4 (by decide) hDR_s_3
  have g3b := gM_3 hB_s_4 0
  rw [hF_s_3.1 2 (by decide), hF_s_3.1 1 (by decide), show (s_3.1 3 0).toInt.toNat = 0 by omega] at x_s_4
  obtain ⟨x4a, x4b, x4c, x4d⟩ := x_s_4
  refine ok_itr2 (fun (n : Nat) (x1_5 : Int32) (s_5 : Sto) => n = (41 - (s_5.1 7 0).toInt).toNat ∧ ((-1) ≤ x1_5.toInt ∧ x1_5.toInt ≤ 255) ∧ (BM s_5) ∧ (FR [3, 4, 5, 6, 7, 8] [] σ s_5) ∧ (DR s_5) ∧ ((s_5.1 8 0).toInt = 0) ∧ ((s_5.1 3 0).toInt ≤ (σ.1 2 0).toInt) ∧ (((s_5.1 3 0).toInt < (σ.1 2 0).toInt → x1_5.toInt = cb (σ.1 1) (s_5.1 3 0).toInt.toNat ∧ 0 ≤ x1_5.toInt) ∧ ((σ.1 2 0).toInt ≤ (s_5.1 3 0).toInt → x1_5.toInt = -1)) ∧ (paI (σ.1 2 0).toInt.toNat (cb (σ.1 1)) (41 - (s_5.1 7 0).toInt.toNat) (s_5.1 3 0).toInt.toNat (s_5.1 7 0).toInt.toNat (mk0 (s_5.1 7 0).toInt.toNat (s_5.1 4)) (mk0 (s_5.1 7 0).toInt.toNat (s_5.1 5)) = (paQ (σ.1 2 0).toInt.toNat (cb (σ.1 1))))) ?_ (n := _) ⟨rfl, (by omega), hB_s_4, hF_s_4, hDR_s_4, (by omega), (by omega), x4d, (by rw [x4a, show (s_4.1 7 0).toInt.toNat = 0 by omega]; rfl)⟩ (show _ < 10000000 by omega)
  intro a_20 n x1_5 s_5 hI ih_a_20
  obtain ⟨hn_a_20, b_x1_5, hB_s_5, hF_s_5, hDR_s_5, h13, hal, hL, jT⟩ := hI
  have f_s_5_2 : (s_5.1 2 0).toInt = (σ.1 2 0).toInt := by rw [hF_s_5.1 2 (by decide)]
  clear x4a
  have g3s := gM_3 hB_s_5 0
  refine ok_jnI0 (True ∧ (x1_5.toInt = -1 ∨ x1_5.toInt = 104)) ?_ ?_
  · intro  hJ
    obtain ⟨-, jx⟩ := hJ
    have g_3 := gM_7 hB_s_5 0
    refine ok_ite (fun c_2 => ?_) (fun c_2 => ?_)
    · rw [fa_eq] at c_2
      exact ok_ret ⟨(by (try dsimp only); omega), hB_s_5, hF_s_5, hDR_s_5, (by (try dsimp only); rw [k_0]; exact ⟨paT_q (paI_end jT (fun z => by have := hL.1; have := hL.2; omega)) (Or.inr (by omega)), fun h => absurd h (by omega), by omega⟩)⟩
    · rw [fa_eq] at c_2
      have T0 := paI_end jT (fun z => by have := hL.1; have := hL.2; omega)
      have hRQ_s_5 : EqQ (σ.1 2 0).toInt.toNat (cb (σ.1 1)) (s_5.1 7 0).toInt.toNat (mk0 (s_5.1 7 0).toInt.toNat (s_5.1 4)) (mk0 (s_5.1 7 0).toInt.toNat (s_5.1 5)) := EqQ.of T0
      have hz5 : 1 ≤ (s_5.1 7 0).toInt := by have := gM_7 hB_s_5 0; omega
      refine ok_itr2 (fun (n : Nat) (x1_8 : Int32) (s_8 : Sto) => n = (4 - (s_8.1 8 0).toInt).toNat ∧ ((-1) ≤ x1_8.toInt ∧ x1_8.toInt ≤ 255) ∧ (BM s_8) ∧ (FR [3, 4, 5, 6, 7, 8] [] σ s_8) ∧ (DR s_8) ∧ (EqQ (σ.1 2 0).toInt.toNat (cb (σ.1 1)) (s_8.1 7 0).toInt.toNat (mk0 (s_8.1 7 0).toInt.toNat (s_8.1 4)) (mk0 (s_8.1 7 0).toInt.toNat (s_8.1 5))) ∧ (1 ≤ (s_8.1 7 0).toInt) ∧ ((s_8.1 3 0).toInt ≤ (σ.1 2 0).toInt) ∧ (((s_8.1 3 0).toInt < (σ.1 2 0).toInt → x1_8.toInt = cb (σ.1 1) (s_8.1 3 0).toInt.toNat ∧ 0 ≤ x1_8.toInt) ∧ ((σ.1 2 0).toInt ≤ (s_8.1 3 0).toInt → x1_8.toInt = -1)) ∧ (paH (σ.1 2 0).toInt.toNat (cb (σ.1 1)) (4 - (s_8.1 8 0).toInt.toNat) (s_8.1 3 0).toInt.toNat (s_8.1 8 0).toInt.toNat (mk0 (s_8.1 8 0).toInt.toNat (h3 (s_8.1 6) 0)) (mk0 (s_8.1 8 0).toInt.toNat (h3 (s_8.1 6) 1)) (mk0 (s_8.1 8 0).toInt.toNat (h3 (s_8.1 6) 2)) = (paR (σ.1 2 0).toInt.toNat (cb (σ.1 1))))) ?_ (n := _) ⟨rfl, (by omega), hB_s_5, hF_s_5, hDR_s_5, hRQ_s_5, (by omega), (by omega), hL, (by have q := paR_i T0; rw [show (s_5.1 8 0).toInt.toNat = 0 by omega]; exact q)⟩ (show _ < 10000000 by omega)
      intro a_58 n x1_8 s_8 hI ih_a_58
      obtain ⟨hn_a_58, b_x1_8, hB_s_8, hF_s_8, hDR_s_8, hRQ_s_8, h12e, hal8, hM, jH⟩ := hI
      have f_s_8_2 : (s_8.1 2 0).toInt = (σ.1 2 0).toInt := by rw [hF_s_8.1 2 (by decide)]
      have g3e := gM_3 hB_s_8 0
      have g8e := gM_8 hB_s_8 0
      refine ok_ite (fun c_4 => ?_) (fun c_4 => ?_)
      · rw [fa_eq] at c_4
        refine ok_calv (s_X12_handler  (σ := s_8) hB_s_8 (by have := hM.1; have := hM.2; omega)) (fun v_10 s_10 h_5 => ?_)
        obtain ⟨b_v_10, hB_s_10, hG_s_10, x_s_10⟩ := h_5
        (try dsimp only at b_v_10 hB_s_10 hG_s_10 x_s_10)
        have hF_s_10 : FR [3, 4, 5, 6, 7, 8] [] σ s_10 := FR.cal hF_s_8 hG_s_10 rfl rfl
        have w_s_10_7 : (s_10.1 7 0).toInt = (s_8.1 7 0).toInt := by rw [hG_s_10.1 7 (by decide)]
        have f_s_10_2 : (s_10.1 2 0).toInt = (σ.1 2 0).toInt := by rw [hF_s_10.1 2 (by decide)]
        have hDR_s_10 : DR s_10 := DR.fr hG_s_10 (by decide) hDR_s_8
        have hRQ_s_10 : EqQ (σ.1 2 0).toInt.toNat (cb (σ.1 1)) (s_10.1 7 0).toInt.toNat (mk0 (s_10.1 7 0).toInt.toNat (s_10.1 4)) (mk0 (s_10.1 7 0).toInt.toNat (s_10.1 5)) := by rw [hG_s_10.1 7 (by decide), hG_s_10.1 4 (by decide), hG_s_10.1 5 (by decide)]; exact hRQ_s_8
        rw [hF_s_8.1 2 (by decide), hF_s_8.1 1 (by decide)] at x_s_10
        have xH := Hid.i x_s_10.1
        have xE := Hid.i x_s_10.2.1
        have xL := x_s_10.2.2
        clear x_s_10
        have hc10 := (hM.1 (by omega)).1
        have g8b := gM_8 hB_s_8 0
        have g3d := gM_3 hB_s_8 0
        refine ok_ite (fun c_6 => ?_) (fun c_6 => ?_)
        · rw [fa_eq] at c_6
          exact ok_ret ⟨(by (try dsimp only); omega), hB_s_10, hF_s_10, hDR_s_10, (by (try dsimp only); rw [k_0]; refine ⟨?_, fun h => absurd h (by omega), by omega⟩; by_cases q : (s_8.1 8 0).toInt = 3; (rw [(xH.o q).2]; exact paT_r T0 (by omega) (paH_no jH (by omega) (by omega) (Or.inr (by omega)))); (obtain ⟨b, x, y, w, i1, i2, i3⟩ := xE.o q; rw [show v_10.toInt = 0 by omega] at i1; rw [i2]; exact paT_r T0 (by omega) (paH_bad jH (by omega) (by omega) (fun z => q (by omega)) i1)))⟩
        · rw [fa_eq] at c_6
          refine ok_calv (s_X12_look  (σ := s_10) hB_s_10 (by omega)) (fun v_12 s_12 h_7 => ?_)
          obtain ⟨b_v_12, hB_s_12, hG_s_12, x_s_12⟩ := h_7
          (try dsimp only at b_v_12 hB_s_12 hG_s_12 x_s_12)
          have hF_s_12 : FR [3, 4, 5, 6, 7, 8] [] σ s_12 := FR.cal hF_s_10 hG_s_12 rfl rfl
          have w_s_12_7 : (s_12.1 7 0).toInt = (s_10.1 7 0).toInt := by rw [hG_s_12.1 7 (by decide)]
          have w_s_12_8 : (s_12.1 8 0).toInt = (s_10.1 8 0).toInt := by rw [hG_s_12.1 8 (by decide)]
          have f_s_12_2 : (s_12.1 2 0).toInt = (σ.1 2 0).toInt := by rw [hF_s_12.1 2 (by decide)]
          have hDR_s_12 : DR s_12 := DR.fr hG_s_12 (by decide) hDR_s_10
          have hRQ_s_12 : EqQ (σ.1 2 0).toInt.toNat (cb (σ.1 1)) (s_12.1 7 0).toInt.toNat (mk0 (s_12.1 7 0).toInt.toNat (s_12.1 4)) (mk0 (s_12.1 7 0).toInt.toNat (s_12.1 5)) := by rw [hG_s_12.1 7 (by decide), hG_s_12.1 4 (by decide), hG_s_12.1 5 (by decide)]; exact hRQ_s_10
          rw [hF_s_10.1 2 (by decide), hF_s_10.1 1 (by decide)] at x_s_12
          have n3 : ¬ (s_8.1 8 0).toInt = 3 := fun z => by have := (xH.o z).1; omega
          obtain ⟨b, x, y, w, i1, i2, i3⟩ := xE.o n3
          obtain ⟨j1, j2, j3, j4⟩ := i3 (by omega)
          rw [show v_10.toInt = 1 by omega] at i1
          have T2 := paH_on (g := 4 - ((s_8.1 8 0).toInt.toNat + 1)) jH (by omega) (by omega) (fun z => n3 (by omega)) i1
          have e13 : (s_12.1 8 0).toInt.toNat = (s_8.1 8 0).toInt.toNat + 1 := by omega
          obtain ⟨x12a, x12b, x12c, x12d⟩ := x_s_12
          rw [← i2, ← x12a, ← j2, ← j3, ← j4] at T2
          clear x12a i1 i2 j2 j3 j4 i3
          rw [← hG_s_12.1 6 (by decide), ← e13] at T2
          exact ih_a_58 _ v_12 s_12 (by rw [hn_a_58]; omega) ⟨rfl, (by omega), hB_s_12, hF_s_12, hDR_s_12, hRQ_s_12, (by omega), (by omega), x12d, T2⟩
      · rw [fa_eq] at c_4
        refine ok_ite (fun c_8 => ?_) (fun c_8 => ?_)
        · rw [fa_eq] at c_8
          exact ok_ret ⟨(by (try dsimp only); omega), hB_s_8, hF_s_8, hDR_s_8, (by (try dsimp only); first | (rw [k_1]; have T3 := paH_end jH (fun z => by have := (hM.1 (by omega)); omega); exact ⟨paT_r T0 (by omega) T3, fun _ => ⟨by omega, hRQ_s_8, EqR.of T3⟩, by omega⟩) | (rw [k_0]; have lt8 : (s_8.1 3 0).toInt < (σ.1 2 0).toInt := (by have := hM.2; omega); have hc8 := (hM.1 lt8).1; exact ⟨paT_r T0 (by omega) (paH_no jH (by have := gM_8 hB_s_8 0; omega) (by omega) (Or.inl (by omega))), fun h => absurd h (by omega), by omega⟩))⟩
        · rw [fa_eq] at c_8
          exact ok_ret ⟨(by (try dsimp only); omega), hB_s_8, hF_s_8, hDR_s_8, (by (try dsimp only); first | (rw [k_1]; have T3 := paH_end jH (fun z => by have := (hM.1 (by omega)); omega); exact ⟨paT_r T0 (by omega) T3, fun _ => ⟨by omega, hRQ_s_8, EqR.of T3⟩, by omega⟩) | (rw [k_0]; have lt8 : (s_8.1 3 0).toInt < (σ.1 2 0).toInt := (by have := hM.2; omega); have hc8 := (hM.1 lt8).1; exact ⟨paT_r T0 (by omega) (paH_no jH (by have := gM_8 hB_s_8 0; omega) (by omega) (Or.inl (by omega))), fun h => absurd h (by omega), by omega⟩))⟩
  · intro k_49 hk_k_49
    refine ok_ite (fun c_9 => ?_) (fun c_9 => ?_)
    · rw [fa_eq] at c_9
      exact hk_k_49 ⟨trivial, (by omega)⟩
    · rw [fa_eq] at c_9
      refine ok_ite (fun c_10 => ?_) (fun c_10 => ?_)
      · rw [fa_eq] at c_10
        exact hk_k_49 ⟨trivial, (by omega)⟩
      · rw [fa_eq] at c_10
        refine ok_calv (s_X12_instruction (x1 := x1_5) (σ := s_5) hB_s_5 hDR_s_5 (by omega) (by have := hL.1; have := hL.2; omega) (by rw [hF_s_5.1 1 (by decide)]; exact (hL.1 (by have := hL.2; omega)).1)) (fun v_16 s_16 h_11 => ?_)
        obtain ⟨b_v_16, hB_s_16, hG_s_16, hDR_s_16, x_s_16⟩ := h_11
        (try dsimp only at b_v_16 hB_s_16 hG_s_16 hDR_s_16 x_s_16)
        have hF_s_16 : FR [3, 4, 5, 6, 7, 8] [] σ s_16 := FR.cal hF_s_5 hG_s_16 rfl rfl
        have w_s_16_8 : (s_16.1 8 0).toInt = (s_5.1 8 0).toInt := by rw [hG_s_16.1 8 (by decide)]
        have f_s_16_2 : (s_16.1 2 0).toInt = (σ.1 2 0).toInt := by rw [hF_s_16.1 2 (by decide)]
        rw [hF_s_5.1 2 (by decide), hF_s_5.1 1 (by decide)] at x_s_16
        have xS := Hid.i x_s_16.1
        have xT := Hid.i x_s_16.2.1
        have xU := x_s_16.2.2
        clear x_s_16
        have hc16 := (hL.1 (by omega)).1
        have g7b := gM_7 hB_s_5 0
        have g3c := gM_3 hB_s_5 0
        refine ok_ite (fun c_12 => ?_) (fun c_12 => ?_)
        · rw [fa_eq] at c_12
          exact ok_ret ⟨(by (try dsimp only); omega), hB_s_16, hF_s_16, hDR_s_16, (by (try dsimp only); rw [k_0]; refine ⟨?_, fun h => absurd h (by omega), by omega⟩; by_cases q : (s_5.1 7 0).toInt = 40; (rw [(xS.o q).2]; exact paT_q (paI_40 jT (by omega) ⟨by omega, by omega⟩ (by omega)) (Or.inl rfl)); (obtain ⟨w, b, i1, i2, i3, i4⟩ := xT.o q; have w1 := i3 (by omega); rw [w1] at i1; rw [i2]; exact paT_q (paI_bad jT (by omega) ⟨by omega, by omega⟩ (by omega) i1) (Or.inl rfl)))⟩
        · rw [fa_eq] at c_12
          refine ok_calv (s_X12_look  (σ := s_16) hB_s_16 (by omega)) (fun v_18 s_18 h_13 => ?_)
          obtain ⟨b_v_18, hB_s_18, hG_s_18, x_s_18⟩ := h_13
          (try dsimp only at b_v_18 hB_s_18 hG_s_18 x_s_18)
          have hF_s_18 : FR [3, 4, 5, 6, 7, 8] [] σ s_18 := FR.cal hF_s_16 hG_s_18 rfl rfl
          have w_s_18_7 : (s_18.1 7 0).toInt = (s_16.1 7 0).toInt := by rw [hG_s_18.1 7 (by decide)]
          have w_s_18_8 : (s_18.1 8 0).toInt = (s_16.1 8 0).toInt := by rw [hG_s_18.1 8 (by decide)]
          have f_s_18_2 : (s_18.1 2 0).toInt = (σ.1 2 0).toInt := by rw [hF_s_18.1 2 (by decide)]
          have hDR_s_18 : DR s_18 := DR.fr hG_s_18 (by decide) hDR_s_16
          rw [hF_s_16.1 2 (by decide), hF_s_16.1 1 (by decide)] at x_s_18
          have n40 : ¬ (s_5.1 7 0).toInt = 40 := fun z => by have := (xS.o z).1; omega
          obtain ⟨w, b, i1, i2, i3, i4⟩ := xT.o n40
          obtain ⟨j1, j2, j3, j4⟩ := i4 (by omega)
          have T1 := paI_on (g := 41 - ((s_5.1 7 0).toInt.toNat + 1)) jT (by omega) ⟨by omega, by omega⟩ (by omega) i1 j1
          have e12 : (s_18.1 7 0).toInt.toNat = (s_5.1 7 0).toInt.toNat + 1 := by omega
          obtain ⟨x18a, x18b, x18c, x18d⟩ := x_s_18
          rw [← i2, ← x18a, ← hc16, ← j3, ← j4] at T1
          clear x18a i1 i2 j3 j4 i3 i4
          rw [← hG_s_18.1 4 (by decide), ← hG_s_18.1 5 (by decide), ← e12] at T1
          exact ih_a_20 _ v_18 s_18 (by rw [hn_a_20]; omega) ⟨rfl, (by omega), hB_s_18, hF_s_18, hDR_s_18, (by omega), (by omega), x18d, T1⟩

set_option maxHeartbeats 4000000 in
theorem s_X12_fault {σ : Sto} (hB : BM σ) : OK (f_X12_fault σ) (fun r => ((-1) ≤ r.1.toInt ∧ r.1.toInt ≤ 240) ∧ BM r.2 ∧ FR [0, 3, 4, 5, 6, 7, 8] [] σ r.2) := by
  unfold f_X12_fault
  have hF : FR [0, 3, 4, 5, 6, 7, 8] [] σ σ := FR.rf
  have k_m1 : ((-1) : Int32).toInt = -1 := by decide +kernel
  have k_0 : (0 : Int32).toInt = 0 := by decide +kernel
  refine ok_lt fun s_1 e_s_1 => ?_
  have hB_s_1 : BM s_1 := by rw [e_s_1]; exact pM_0 hB (by omega)
  have hF_s_1 : FR [0, 3, 4, 5, 6, 7, 8] [] σ s_1 := by rw [e_s_1]; exact FR.st hF (by decide)
  have w_s_1_3 : (s_1.1 3 0).toInt = (σ.1 3 0).toInt := by rw [e_s_1]; rfl
  refine ok_calv (s_X12_isText  (σ := s_1) hB_s_1) (fun v_2 s_2 h_1 => ?_)
  obtain ⟨b_v_2, hB_s_2, hG_s_2, hDR_s_2, x_s_2⟩ := h_1
  (try dsimp only at b_v_2 hB_s_2 hG_s_2 hDR_s_2 x_s_2)
  have hF_s_2 : FR [0, 3, 4, 5, 6, 7, 8] [] σ s_2 := FR.cal hF_s_1 hG_s_2 rfl rfl
  refine ok_ite (fun c_2 => ?_) (fun c_2 => ?_)
  · rw [fa_eq] at c_2
    have g_3 := gM_3 hB_s_2 0
    exact ok_ret ⟨(by (try dsimp only); omega), hB_s_2, hF_s_2⟩
  · rw [fa_eq] at c_2
    exact ok_ret ⟨(by (try dsimp only); omega), hB_s_2, hF_s_2⟩

