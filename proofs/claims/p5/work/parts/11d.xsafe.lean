set_option maxHeartbeats 4000000 in
theorem s_X7_hasEffects {x1 : Int32} {σ : Sto} (hB : BX σ) (p_x1 : 0 ≤ x1.toInt ∧ x1.toInt ≤ 511) : OK (f_X7_hasEffects x1 σ) (fun v => (0 ≤ v.toInt ∧ v.toInt ≤ 1)) := by
  unfold f_X7_hasEffects
  have hF : FR [] [] σ σ := FR.rf
  have k_0 : (0 : Int32).toInt = 0 := by decide +kernel
  have k_1 : (1 : Int32).toInt = 1 := by decide +kernel
  refine ok_ix ⟨by omega, by omega⟩ ?_
  refine ok_lt fun v_1 e_v_1 => ?_
  obtain ⟨t_2, ht_2, g_2⟩ : ∃ t : Int, (v_1 &&& 4096).toInt = t ∧ 0 ≤ t ∧ t ≤ 4096 := ⟨_, rfl, and_rng (x := v_1) 4096 rfl (by decide)⟩
  refine ok_ite (fun c_1 => ?_) (fun c_1 => ?_)
  · rw [fa_eq, ht_2] at c_1
    exact ok_ret (by (try dsimp only); omega)
  · rw [fa_eq, ht_2] at c_1
    exact ok_ret (by (try dsimp only); omega)

set_option maxHeartbeats 4000000 in
theorem s_X1_add {x1 : Int32} {x2 : Int32} {x3 : Int32} {σ : Sto} (hB : BX σ) (hSI : SI σ) (hES : ES σ) (p_x1 : 0 ≤ x1.toInt ∧ x1.toInt ≤ 6) (p_x2 : (-1) ≤ x2.toInt ∧ x2.toInt ≤ 160) (p_x3 : (-1) ≤ x3.toInt ∧ x3.toInt ≤ 511) (hT : T2 x1 x2 x3) (hxE : x3.toInt < (σ.1 46 0).toInt) : OK (f_X1_add x1 x2 x3 σ) (fun s => BX s ∧ FR [52, 53, 54, 55] [] σ s ∧ SI s ∧ ES s ∧ (σ.1 52 0).toInt ≤ (s.1 52 0).toInt) := by
  unfold f_X1_add
  have hF : FR [52, 53, 54, 55] [] σ σ := FR.rf
  have k_1 : (1 : Int32).toInt = 1 := by decide +kernel
  have k_320 : (320 : Int32).toInt = 320 := by decide +kernel
  have g_2 := gX_52 hB 0
  refine ok_ite (fun c_1 => ?_) (fun c_1 => ?_)
  · rw [fa_le] at c_1
    exact ok_ret ⟨hB, hF, hSI, hES, (by (try dsimp only); omega)⟩
  · rw [fa_le] at c_1
    refine ok_ix ⟨by omega, by omega⟩ ?_
    refine ok_lt fun s_2 e_s_2 => ?_
    have hB_s_2 : BX s_2 := by rw [e_s_2]; exact pX_53 hB (by omega)
    have hF_s_2 : FR [52, 53, 54, 55] [] σ s_2 := by rw [e_s_2]; exact FR.st hF (by decide)
    have w_s_2_52 : (s_2.1 52 0).toInt = (σ.1 52 0).toInt := by rw [e_s_2]; rfl
    have hES_s_2 : ES s_2 := by rw [e_s_2]; exact ES.st1 (by decide) hES
    have g_3 := gX_52 hB_s_2 0
    refine ok_ix ⟨by omega, by omega⟩ ?_
    refine ok_lt fun s_3 e_s_3 => ?_
    have hB_s_3 : BX s_3 := by rw [e_s_3]; exact pX_54 hB_s_2 (by omega)
    have hF_s_3 : FR [52, 53, 54, 55] [] σ s_3 := by rw [e_s_3]; exact FR.st hF_s_2 (by decide)
    have w_s_3_52 : (s_3.1 52 0).toInt = (s_2.1 52 0).toInt := by rw [e_s_3]; rfl
    have hES_s_3 : ES s_3 := by rw [e_s_3]; exact ES.st1 (by decide) hES_s_2
    have g_4 := gX_52 hB_s_3 0
    refine ok_ix ⟨by omega, by omega⟩ ?_
    refine ok_lt fun s_4 e_s_4 => ?_
    have hB_s_4 : BX s_4 := by rw [e_s_4]; exact pX_55 hB_s_3 (by omega)
    have hF_s_4 : FR [52, 53, 54, 55] [] σ s_4 := by rw [e_s_4]; exact FR.st hF_s_3 (by decide)
    have w_s_4_52 : (s_4.1 52 0).toInt = (s_3.1 52 0).toInt := by rw [e_s_4]; rfl
    have hSI_s_4 : SI s_4 := SI.three hSI e_s_2 e_s_3 e_s_4 (by rw [show s_2.1 52 = σ.1 52 by rw [e_s_2]; rfl]) (by rw [show s_3.1 52 = σ.1 52 by rw [e_s_3, e_s_2]; rfl]) hT
    have g_5 := gX_52 hB_s_4 0
    obtain ⟨t_6, ht_6, g_6⟩ : ∃ t : Int, ((s_4.1 52 0) + 1).toInt = t ∧ t = (s_4.1 52 0).toInt + (1 : Int32).toInt := ⟨_, rfl, by have h9 := fb_addI (x := (s_4.1 52 0)) (y := (1 : Int32)) (by omega) (by omega); exact h9⟩
    refine ok_lt fun s_5 e_s_5 => ?_
    have hB_s_5 : BX s_5 := by rw [e_s_5]; exact pX_52 hB_s_4 (by rw [ht_6]; omega)
    have hF_s_5 : FR [52, 53, 54, 55] [] σ s_5 := by rw [e_s_5]; exact FR.st hF_s_4 (by decide)
    have w_s_5_52 : (s_5.1 52 0).toInt = t_6 := by rw [e_s_5, sti_s, ht_6]
    have hSI_s_5 : SI s_5 := by rw [e_s_5]; exact SI.st1 (by decide) hSI_s_4
    have hES_s_5 : ES s_5 := ES.add hES (n := (s_3.1 52 0).toNatClampNeg) (v := x3) (by rw [e_s_5, show (sti s_4 52 0 ((s_4.1 52 0) + 1)).1 55 = s_4.1 55 from rfl, e_s_4]; funext i; rw [sti_if, sti_if, show s_3.1 55 = σ.1 55 by rw [e_s_3, e_s_2]; rfl]) (by omega) (by rw [e_s_5, e_s_4, e_s_3, e_s_2]; rfl) (by have := clamp_I (x := s_3.1 52 0) (by omega); omega) hxE
    exact ok_ret ⟨hB_s_5, hF_s_5, hSI_s_5, hES_s_5, (by (try dsimp only); omega)⟩

set_option maxHeartbeats 4000000 in
theorem s_X7_make {x1 : Int32} {x2 : Int32} {x3 : Int32} {σ : Sto} (hB : BX σ) (hPI : PI σ) (hPA : PA σ) (p_x1 : 0 ≤ x1.toInt ∧ x1.toInt ≤ 255) (p_x2 : 0 ≤ x2.toInt ∧ x2.toInt ≤ 999) (p_x3 : 0 ≤ x3.toInt ∧ x3.toInt ≤ 511) (hT : T1 (σ.1 46 0).toInt x1 x2 x3) (hP : pex x1.toInt (σ.1 50 x2.toNatClampNeg).toInt (σ.1 50 x3.toNatClampNeg).toInt ≤ 60) (hSg : SGN x1) : OK (f_X7_make x1 x2 x3 σ) (fun r => (0 ≤ r.1.toInt ∧ r.1.toInt ≤ 511) ∧ BX r.2 ∧ FR [46, 47, 48, 49, 50, 51] [] σ r.2 ∧ PI r.2 ∧ PA r.2 ∧ ((σ.1 46 0).toInt ≤ (r.2.1 46 0).toInt ∧ r.1.toInt < (r.2.1 46 0).toInt ∧ (∀ i : Nat, (i : Int) < (σ.1 46 0).toInt → r.2.1 47 i = σ.1 47 i) ∧ F50 σ r.2 ∧ (r.2.1 50 r.1.toNatClampNeg).toInt ≤ pex x1.toInt (σ.1 50 x2.toNatClampNeg).toInt (σ.1 50 x3.toNatClampNeg).toInt)) := by
  unfold f_X7_make
  have hF : FR [46, 47, 48, 49, 50, 51] [] σ σ := FR.rf
  have k_0 : (0 : Int32).toInt = 0 := by decide +kernel
  have k_1 : (1 : Int32).toInt = 1 := by decide +kernel
  have k_37 : (37 : Int32).toInt = 37 := by decide +kernel
  have k_47 : (47 : Int32).toInt = 47 := by decide +kernel
  have k_84 : (84 : Int32).toInt = 84 := by decide +kernel
  have k_105 : (105 : Int32).toInt = 105 := by decide +kernel
  have k_108 : (108 : Int32).toInt = 108 := by decide +kernel
  have k_512 : (512 : Int32).toInt = 512 := by decide +kernel
  have k_4096 : (4096 : Int32).toInt = 4096 := by decide +kernel
  have hT1 := hT.1
  refine ok_itr1 (fun (n : Nat) (x4_1 : Int32) => n = (513 - x4_1.toInt).toNat ∧ (0 ≤ x4_1.toInt ∧ x4_1.toInt ≤ 512)) ?_ (n := _) ⟨rfl, (by omega)⟩ (show _ < 10000000 by omega)
  intro a_3 n x4_1 hI ih_a_3
  obtain ⟨hn_a_3, b_x4_1⟩ := hI
  have g_2 := gX_46 hB 0
  refine ok_ite (fun c_1 => ?_) (fun c_1 => ?_)
  · rw [fa_le] at c_1
    refine ok_ite (fun c_3 => ?_) (fun c_3 => ?_)
    · rw [fa_eq] at c_3
      exact ok_ret ⟨(by (try dsimp only); omega), hB, hF, hPI, hPA, (by (try dsimp only); first | exact ⟨by omega, by omega, fun _ _ => rfl, F50.rf, hPA.fd (by have := clamp_I (x := x4_1) (by omega); omega) (by rw [← e_v_35]; omega) (by rw [← e_v_39]; omega) (by rw [← e_v_41]; omega)⟩ | exact ⟨by omega, by omega, fun _ _ => rfl, F50.rf, hPA.full (by omega) hT (by omega) (by omega)⟩)⟩
    · rw [fa_eq] at c_3
      refine ok_ix ⟨by omega, by omega⟩ ?_
      refine ok_lt fun s_4 e_s_4 => ?_
      have hB_s_4 : BX s_4 := by rw [e_s_4]; exact pX_47 hB (by omega)
      have hF_s_4 : FR [46, 47, 48, 49, 50, 51] [] σ s_4 := by rw [e_s_4]; exact FR.st hF (by decide)
      have w_s_4_46 : (s_4.1 46 0).toInt = (σ.1 46 0).toInt := by rw [e_s_4]; rfl
      have r48_s_4 : s_4.1 48 = σ.1 48 := by rw [e_s_4]; exact rfl
      have r49_s_4 : s_4.1 49 = σ.1 49 := by rw [e_s_4]; exact rfl
      have r50_s_4 : s_4.1 50 = σ.1 50 := by rw [e_s_4]; exact rfl
      have hk_s_4 : ∀ i : Nat, (i : Int) < (σ.1 46 0).toInt → s_4.1 47 i = σ.1 47 i := fun i hi => by rw [e_s_4]; exact sti_j (by have := clamp_I (x := (σ.1 46 0)) (by omega); omega)
      have f47 : s_4.1 47 = (sti σ 47 (σ.1 46 0).toNatClampNeg x1).1 47 := by rw [e_s_4]
      have g_4 := gX_46 hB_s_4 0
      refine ok_ix ⟨by omega, by omega⟩ ?_
      refine ok_lt fun s_5 e_s_5 => ?_
      have hB_s_5 : BX s_5 := by rw [e_s_5]; exact pX_48 hB_s_4 (by omega)
      have hF_s_5 : FR [46, 47, 48, 49, 50, 51] [] σ s_5 := by rw [e_s_5]; exact FR.st hF_s_4 (by decide)
      have w_s_5_46 : (s_5.1 46 0).toInt = (s_4.1 46 0).toInt := by rw [e_s_5]; rfl
      have r47_s_5 : s_5.1 47 = s_4.1 47 := by rw [e_s_5]; exact rfl
      have r49_s_5 : s_5.1 49 = σ.1 49 := by rw [e_s_5]; exact r49_s_4
      have r50_s_5 : s_5.1 50 = σ.1 50 := by rw [e_s_5]; exact r50_s_4
      have f48 : s_5.1 48 = (sti σ 48 (σ.1 46 0).toNatClampNeg x2).1 48 := by rw [e_s_5, e_s_4]; rfl
      have g_5 := gX_46 hB_s_5 0
      refine ok_ix ⟨by omega, by omega⟩ ?_
      refine ok_lt fun s_6 e_s_6 => ?_
      have hB_s_6 : BX s_6 := by rw [e_s_6]; exact pX_49 hB_s_5 (by omega)
      have hF_s_6 : FR [46, 47, 48, 49, 50, 51] [] σ s_6 := by rw [e_s_6]; exact FR.st hF_s_5 (by decide)
      have w_s_6_46 : (s_6.1 46 0).toInt = (s_5.1 46 0).toInt := by rw [e_s_6]; rfl
      have r47_s_6 : s_6.1 47 = s_4.1 47 := by rw [e_s_6]; exact r47_s_5
      have r48_s_6 : s_6.1 48 = s_5.1 48 := by rw [e_s_6]; exact rfl
      have r50_s_6 : s_6.1 50 = σ.1 50 := by rw [e_s_6]; exact r50_s_5
      have hPI_s_6 : PI s_6 := PI.three hPI e_s_4 e_s_5 e_s_6 (by rw [show s_4.1 46 = σ.1 46 by rw [e_s_4]; rfl]) (by rw [show s_5.1 46 = σ.1 46 by rw [e_s_5, e_s_4]; rfl]) (by rw [clamp_I (x := (σ.1 46 0)) (by omega)]; exact hT)
      have f49 : s_6.1 49 = (sti σ 49 (σ.1 46 0).toNatClampNeg x3).1 49 := by rw [e_s_6, e_s_5, e_s_4]; rfl
      have g_6 := gX_46 hB_s_6 0
      refine ok_ix ⟨by omega, by omega⟩ ?_
      refine ok_lt fun s_7 e_s_7 => ?_
      have hB_s_7 : BX s_7 := by rw [e_s_7]; exact pX_50 hB_s_6 (tI_rng _)
      have hF_s_7 : FR [46, 47, 48, 49, 50, 51] [] σ s_7 := by rw [e_s_7]; exact FR.st hF_s_6 (by decide)
      have w_s_7_46 : (s_7.1 46 0).toInt = (s_6.1 46 0).toInt := by rw [e_s_7]; rfl
      have r47_s_7 : s_7.1 47 = s_4.1 47 := by rw [e_s_7]; exact r47_s_6
      have r48_s_7 : s_7.1 48 = s_5.1 48 := by rw [e_s_7]; exact r48_s_6
      have r49_s_7 : s_7.1 49 = s_6.1 49 := by rw [e_s_7]; exact rfl
      have hPI_s_7 : PI s_7 := by rw [e_s_7]; exact PI.st1 (by decide) hPI_s_6
      have f50 : s_7.1 50 = (sti σ 50 (σ.1 46 0).toNatClampNeg 1).1 50 := by rw [e_s_7, e_s_6, e_s_5, e_s_4]; rfl
      have cn := clamp_I (x := σ.1 46 0) (by omega)
      have c2 := clamp_I (x := x2) (by omega)
      have c3 := clamp_I (x := x3) (by omega)
      refine ok_jn ?_
      refine ok_jn ?_
      refine ok_ite (fun c_7 => ?_) (fun c_7 => ?_)
      · rw [fa_eq] at c_7
        have g_8 := gX_46 hB_s_7 0
        refine ok_ix ⟨by omega, by omega⟩ ?_
        refine ok_lt fun s_9 e_s_9 => ?_
        have hB_s_9 : BX s_9 := by rw [e_s_9]; exact pX_51 hB_s_7 (tI_rng _)
        have hF_s_9 : FR [46, 47, 48, 49, 50, 51] [] σ s_9 := by rw [e_s_9]; exact FR.st hF_s_7 (by decide)
        have w_s_9_46 : (s_9.1 46 0).toInt = (s_7.1 46 0).toInt := by rw [e_s_9]; rfl
        have r47_s_9 : s_9.1 47 = s_4.1 47 := by rw [e_s_9]; exact r47_s_7
        have r48_s_9 : s_9.1 48 = s_5.1 48 := by rw [e_s_9]; exact r48_s_7
        have r49_s_9 : s_9.1 49 = s_6.1 49 := by rw [e_s_9]; exact r49_s_7
        have r50_s_9 : s_9.1 50 = s_7.1 50 := by rw [e_s_9]; exact rfl
        have hPI_s_9 : PI s_9 := by rw [e_s_9]; exact PI.st1 (by decide) hPI_s_7
        refine ok_jn ?_
        refine ok_ite (fun c_9 => ?_) (fun c_9 => ?_)
        · have c_9 := c_9
          exfalso; omega
        · have c_9 := c_9
          refine ok_ite (fun c_10 => ?_) (fun c_10 => ?_)
          · have c_10 := c_10
            exfalso; omega
          · have c_10 := c_10
            refine ok_ite (fun c_11 => ?_) (fun c_11 => ?_)
            · have c_11 := c_11
              have g_12 := gX_46 hB_s_9 0
              obtain ⟨t_13, ht_13, g_13⟩ : ∃ t : Int, ((s_9.1 46 0) + 1).toInt = t ∧ t = (s_9.1 46 0).toInt + (1 : Int32).toInt := ⟨_, rfl, by have h9 := fb_addI (x := (s_9.1 46 0)) (y := (1 : Int32)) (by omega) (by omega); exact h9⟩
              refine ok_lt fun s_11 e_s_11 => ?_
              have hB_s_11 : BX s_11 := by rw [e_s_11]; exact pX_46 hB_s_9 (by rw [ht_13]; omega)
              have hF_s_11 : FR [46, 47, 48, 49, 50, 51] [] σ s_11 := by rw [e_s_11]; exact FR.st hF_s_9 (by decide)
              have w_s_11_46 : (s_11.1 46 0).toInt = t_13 := by rw [e_s_11, sti_s, ht_13]
              have r47_s_11 : s_11.1 47 = s_4.1 47 := by rw [e_s_11]; exact r47_s_9
              have r48_s_11 : s_11.1 48 = s_5.1 48 := by rw [e_s_11]; exact r48_s_9
              have r49_s_11 : s_11.1 49 = s_6.1 49 := by rw [e_s_11]; exact r49_s_9
              have r50_s_11 : s_11.1 50 = s_7.1 50 := by rw [e_s_11]; exact r50_s_9
              have hPI_s_11 : PI s_11 := by rw [e_s_11]; exact PI.st1 (by decide) hPI_s_9
              have a47 := r47_s_11.trans f47
              have a48 := r48_s_11.trans f48
              have a49 := r49_s_11.trans f49
              have w46 : (s_11.1 46 0).toInt = (σ.1 46 0).toInt + 1 := by omega
              obtain ⟨pv, a50, ap⟩ : ∃ pv : Int32, s_11.1 50 = (sti σ 50 (σ.1 46 0).toNatClampNeg pv).1 50 ∧ pv.toInt = pex x1.toInt (σ.1 50 x2.toNatClampNeg).toInt (σ.1 50 x3.toNatClampNeg).toInt := by first | exact ⟨_, r50_s_11.trans f50u, pu⟩ | exact ⟨1, r50_s_11.trans f50, by rw [k_1]; exact (pex_L (by omega)).symm⟩
              have hPA_s_11 : PA s_11 := PA.new hPA hPI hB a47 a48 a49 a50 w46 cn ap (by omega) hT (by omega) (by omega) hSg
              have g_14 := gX_46 hB_s_11 0
              obtain ⟨t_15, ht_15, g_15⟩ : ∃ t : Int, ((s_11.1 46 0) - 1).toInt = t ∧ t = (s_11.1 46 0).toInt - (1 : Int32).toInt := ⟨_, rfl, by have h9 := fb_subI (x := (s_11.1 46 0)) (y := (1 : Int32)) (by omega) (by omega); exact h9⟩
              exact ok_ret ⟨(by (try dsimp only); rw [ht_15]; omega), hB_s_11, hF_s_11, hPI_s_11, hPA_s_11, (by (try dsimp only); exact ⟨by omega, by omega, fun i hi => (congrFun r47_s_11 i).trans (hk_s_4 i hi), fun i hi => ⟨by rw [a50]; exact sti_j (by omega), by rw [a48]; exact sti_j (by omega), by rw [a49]; exact sti_j (by omega)⟩, by have n11 : ((s_11.1 46 0) - 1).toNatClampNeg = (σ.1 46 0).toNatClampNeg := (by have := clamp_I (x := ((s_11.1 46 0) - 1)) (by omega); omega); rw [n11, a50, sti_s]; exact Int.le_of_eq ap⟩)⟩
            · have c_11 := c_11
              exfalso; omega
      · rw [fa_eq] at c_7
        refine ok_ite (fun c_16 => ?_) (fun c_16 => ?_)
        · rw [fa_eq] at c_16
          have g_17 := gX_46 hB_s_7 0
          refine ok_ix ⟨by omega, by omega⟩ ?_
          refine ok_lt fun s_9 e_s_9 => ?_
          have hB_s_9 : BX s_9 := by rw [e_s_9]; exact pX_51 hB_s_7 (tI_rng _)
          have hF_s_9 : FR [46, 47, 48, 49, 50, 51] [] σ s_9 := by rw [e_s_9]; exact FR.st hF_s_7 (by decide)
          have w_s_9_46 : (s_9.1 46 0).toInt = (s_7.1 46 0).toInt := by rw [e_s_9]; rfl
          have r47_s_9 : s_9.1 47 = s_4.1 47 := by rw [e_s_9]; exact r47_s_7
          have r48_s_9 : s_9.1 48 = s_5.1 48 := by rw [e_s_9]; exact r48_s_7
          have r49_s_9 : s_9.1 49 = s_6.1 49 := by rw [e_s_9]; exact r49_s_7
          have r50_s_9 : s_9.1 50 = s_7.1 50 := by rw [e_s_9]; exact rfl
          have hPI_s_9 : PI s_9 := by rw [e_s_9]; exact PI.st1 (by decide) hPI_s_7
          refine ok_jn ?_
          refine ok_ite (fun c_18 => ?_) (fun c_18 => ?_)
          · have c_18 := c_18
            exfalso; omega
          · have c_18 := c_18
            refine ok_ite (fun c_19 => ?_) (fun c_19 => ?_)
            · have c_19 := c_19
              exfalso; omega
            · have c_19 := c_19
              refine ok_ite (fun c_20 => ?_) (fun c_20 => ?_)
              · have c_20 := c_20
                exfalso; omega
              · have c_20 := c_20
                refine ok_ite (fun c_21 => ?_) (fun c_21 => ?_)
                · have c_21 := c_21
                  exfalso; omega
                · have c_21 := c_21
                  have g_22 := gX_46 hB_s_9 0
                  refine ok_lt fun v_21 e_v_21 => ?_
                  have b_v_21 : 0 ≤ v_21.toInt ∧ v_21.toInt ≤ 512 := by rw [e_v_21]; exact gX_46 hB_s_9 _
                  have q_v_21 : v_21.toInt = (s_9.1 46 0).toInt := by rw [e_v_21]
                  have hBo : opB x1 := by rcases hSg with q | q | q; omega; (unfold opU at q; omega); exact q
                  have hl1 := hT.2.2.2.2.1 (Or.inr hBo)
                  have hl2 := hT.2.2.2.2.2 hBo
                  have n21 : v_21 = σ.1 46 0 := by rw [e_v_21, e_s_9, e_s_7, e_s_6, e_s_5, e_s_4]; rfl
                  refine ok_ix ⟨by omega, by omega⟩ ?_
                  refine ok_lt fun v_22 e_v_22 => ?_
                  have z22 : v_22.toInt = 1 := by rw [e_v_22, n21, show s_9.1 50 = s_7.1 50 by rw [e_s_9]; rfl, f50, sti_s]; exact k_1
                  refine ok_ix ⟨by omega, by omega⟩ ?_
                  refine ok_lt fun v_23 e_v_23 => ?_
                  have q_v_23 : v_23.toInt = (s_9.1 50 x2.toNatClampNeg).toInt := by rw [e_v_23]
                  have z23 : v_23.toInt = (σ.1 50 x2.toNatClampNeg).toInt := by rw [e_v_23, show s_9.1 50 = s_7.1 50 by rw [e_s_9]; rfl, f50, sti_j (by omega)]
                  have b23 := hPA.1 x2.toNatClampNeg (by omega)
                  refine ok_ix ⟨by omega, by omega⟩ ?_
                  refine ok_lt fun v_24 e_v_24 => ?_
                  have z24 : v_24.toInt = (σ.1 50 x3.toNatClampNeg).toInt := by rw [e_v_24, show s_9.1 50 = s_7.1 50 by rw [e_s_9]; rfl, f50, sti_j (by omega)]
                  have b24 := hPA.1 x3.toNatClampNeg (by omega)
                  have px : pex x1.toInt (σ.1 50 x2.toNatClampNeg).toInt (σ.1 50 x3.toNatClampNeg).toInt = 1 + (σ.1 50 x2.toNatClampNeg).toInt + (σ.1 50 x3.toNatClampNeg).toInt := pex_B hBo
                  refine ok_ix ⟨by omega, by omega⟩ ?_
                  obtain ⟨t_23, ht_23, g_23⟩ : ∃ t : Int, (v_23 + v_24).toInt = t ∧ -2147483648 ≤ t ∧ t ≤ 2147483647 := ⟨_, rfl, tI_rng _⟩
                  obtain ⟨t_24, ht_24, g_24⟩ : ∃ t : Int, (v_22 + (v_23 + v_24)).toInt = t ∧ -2147483648 ≤ t ∧ t ≤ 2147483647 := ⟨_, rfl, tI_rng _⟩
                  refine ok_lt fun s_25 e_s_25 => ?_
                  have hB_s_25 : BX s_25 := by rw [e_s_25]; exact pX_50 hB_s_9 (tI_rng _)
                  have hF_s_25 : FR [46, 47, 48, 49, 50, 51] [] σ s_25 := by rw [e_s_25]; exact FR.st hF_s_9 (by decide)
                  have w_s_25_46 : (s_25.1 46 0).toInt = (s_9.1 46 0).toInt := by rw [e_s_25]; rfl
                  have r47_s_25 : s_25.1 47 = s_4.1 47 := by rw [e_s_25]; exact r47_s_9
                  have r48_s_25 : s_25.1 48 = s_5.1 48 := by rw [e_s_25]; exact r48_s_9
                  have r49_s_25 : s_25.1 49 = s_6.1 49 := by rw [e_s_25]; exact r49_s_9
                  have hPI_s_25 : PI s_25 := by rw [e_s_25]; exact PI.st1 (by decide) hPI_s_9
                  have f50u : s_25.1 50 = (sti σ 50 (σ.1 46 0).toNatClampNeg (v_22 + (v_23 + v_24))).1 50 := up_up f50 (by rw [e_s_25, n21]) (by rw [e_s_9]; rfl)
                  have pu : (v_22 + (v_23 + v_24)).toInt = pex x1.toInt (σ.1 50 x2.toNatClampNeg).toInt (σ.1 50 x3.toNatClampNeg).toInt := by rw [px]; have h8 := fb_addI (x := v_23) (y := v_24) (by omega) (by omega); have h9 := fb_addI (x := v_22) (y := v_23 + v_24) (by omega) (by omega); omega
                  have g_25 := gX_46 hB_s_25 0
                  refine ok_lt fun v_26 e_v_26 => ?_
                  have b_v_26 : 0 ≤ v_26.toInt ∧ v_26.toInt ≤ 512 := by rw [e_v_26]; exact gX_46 hB_s_25 _
                  have q_v_26 : v_26.toInt = (s_25.1 46 0).toInt := by rw [e_v_26]
                  refine ok_ix ⟨by omega, by omega⟩ ?_
                  refine ok_lt fun v_27 e_v_27 => ?_
                  refine ok_ix ⟨by omega, by omega⟩ ?_
                  refine ok_lt fun v_28 e_v_28 => ?_
                  refine ok_ix ⟨by omega, by omega⟩ ?_
                  refine ok_lt fun v_29 e_v_29 => ?_
                  refine ok_ix ⟨by omega, by omega⟩ ?_
                  obtain ⟨t_26, ht_26, g_26⟩ : ∃ t : Int, (v_27 ||| (v_28 ||| v_29)).toInt = t ∧ -2147483648 ≤ t ∧ t ≤ 2147483647 := ⟨_, rfl, tI_rng _⟩
                  refine ok_lt fun s_30 e_s_30 => ?_
                  have hB_s_30 : BX s_30 := by rw [e_s_30]; exact pX_51 hB_s_25 (tI_rng _)
                  have hF_s_30 : FR [46, 47, 48, 49, 50, 51] [] σ s_30 := by rw [e_s_30]; exact FR.st hF_s_25 (by decide)
                  have w_s_30_46 : (s_30.1 46 0).toInt = (s_25.1 46 0).toInt := by rw [e_s_30]; rfl
                  have r47_s_30 : s_30.1 47 = s_4.1 47 := by rw [e_s_30]; exact r47_s_25
                  have r48_s_30 : s_30.1 48 = s_5.1 48 := by rw [e_s_30]; exact r48_s_25
                  have r49_s_30 : s_30.1 49 = s_6.1 49 := by rw [e_s_30]; exact r49_s_25
                  have r50_s_30 : s_30.1 50 = s_25.1 50 := by rw [e_s_30]; exact rfl
                  have hPI_s_30 : PI s_30 := by rw [e_s_30]; exact PI.st1 (by decide) hPI_s_25
                  have g_27 := gX_46 hB_s_30 0
                  obtain ⟨t_28, ht_28, g_28⟩ : ∃ t : Int, ((s_30.1 46 0) + 1).toInt = t ∧ t = (s_30.1 46 0).toInt + (1 : Int32).toInt := ⟨_, rfl, by have h9 := fb_addI (x := (s_30.1 46 0)) (y := (1 : Int32)) (by omega) (by omega); exact h9⟩
                  refine ok_lt fun s_11 e_s_11 => ?_
                  have hB_s_11 : BX s_11 := by rw [e_s_11]; exact pX_46 hB_s_30 (by rw [ht_28]; omega)
                  have hF_s_11 : FR [46, 47, 48, 49, 50, 51] [] σ s_11 := by rw [e_s_11]; exact FR.st hF_s_30 (by decide)
                  have w_s_11_46 : (s_11.1 46 0).toInt = t_28 := by rw [e_s_11, sti_s, ht_28]
                  have r47_s_11 : s_11.1 47 = s_4.1 47 := by rw [e_s_11]; exact r47_s_30
                  have r48_s_11 : s_11.1 48 = s_5.1 48 := by rw [e_s_11]; exact r48_s_30
                  have r49_s_11 : s_11.1 49 = s_6.1 49 := by rw [e_s_11]; exact r49_s_30
                  have r50_s_11 : s_11.1 50 = s_25.1 50 := by rw [e_s_11]; exact r50_s_30
                  have hPI_s_11 : PI s_11 := by rw [e_s_11]; exact PI.st1 (by decide) hPI_s_30
                  have a47 := r47_s_11.trans f47
                  have a48 := r48_s_11.trans f48
                  have a49 := r49_s_11.trans f49
                  have w46 : (s_11.1 46 0).toInt = (σ.1 46 0).toInt + 1 := by omega
                  obtain ⟨pv, a50, ap⟩ : ∃ pv : Int32, s_11.1 50 = (sti σ 50 (σ.1 46 0).toNatClampNeg pv).1 50 ∧ pv.toInt = pex x1.toInt (σ.1 50 x2.toNatClampNeg).toInt (σ.1 50 x3.toNatClampNeg).toInt := by first | exact ⟨_, r50_s_11.trans f50u, pu⟩ | exact ⟨1, r50_s_11.trans f50, by rw [k_1]; exact (pex_L (by omega)).symm⟩
                  have hPA_s_11 : PA s_11 := PA.new hPA hPI hB a47 a48 a49 a50 w46 cn ap (by omega) hT (by omega) (by omega) hSg
                  have g_29 := gX_46 hB_s_11 0
                  obtain ⟨t_30, ht_30, g_30⟩ : ∃ t : Int, ((s_11.1 46 0) - 1).toInt = t ∧ t = (s_11.1 46 0).toInt - (1 : Int32).toInt := ⟨_, rfl, by have h9 := fb_subI (x := (s_11.1 46 0)) (y := (1 : Int32)) (by omega) (by omega); exact h9⟩
                  exact ok_ret ⟨(by (try dsimp only); rw [ht_30]; omega), hB_s_11, hF_s_11, hPI_s_11, hPA_s_11, (by (try dsimp only); exact ⟨by omega, by omega, fun i hi => (congrFun r47_s_11 i).trans (hk_s_4 i hi), fun i hi => ⟨by rw [a50]; exact sti_j (by omega), by rw [a48]; exact sti_j (by omega), by rw [a49]; exact sti_j (by omega)⟩, by have n11 : ((s_11.1 46 0) - 1).toNatClampNeg = (σ.1 46 0).toNatClampNeg := (by have := clamp_I (x := ((s_11.1 46 0) - 1)) (by omega); omega); rw [n11, a50, sti_s]; exact Int.le_of_eq ap⟩)⟩
        · rw [fa_eq] at c_16
          refine ok_ite (fun c_31 => ?_) (fun c_31 => ?_)
          · rw [fa_eq] at c_31
            have g_32 := gX_46 hB_s_7 0
            refine ok_ix ⟨by omega, by omega⟩ ?_
            refine ok_lt fun s_9 e_s_9 => ?_
            have hB_s_9 : BX s_9 := by rw [e_s_9]; exact pX_51 hB_s_7 (tI_rng _)
            have hF_s_9 : FR [46, 47, 48, 49, 50, 51] [] σ s_9 := by rw [e_s_9]; exact FR.st hF_s_7 (by decide)
            have w_s_9_46 : (s_9.1 46 0).toInt = (s_7.1 46 0).toInt := by rw [e_s_9]; rfl
            have r47_s_9 : s_9.1 47 = s_4.1 47 := by rw [e_s_9]; exact r47_s_7
            have r48_s_9 : s_9.1 48 = s_5.1 48 := by rw [e_s_9]; exact r48_s_7
            have r49_s_9 : s_9.1 49 = s_6.1 49 := by rw [e_s_9]; exact r49_s_7
            have r50_s_9 : s_9.1 50 = s_7.1 50 := by rw [e_s_9]; exact rfl
            have hPI_s_9 : PI s_9 := by rw [e_s_9]; exact PI.st1 (by decide) hPI_s_7
            refine ok_jn ?_
            refine ok_ite (fun c_33 => ?_) (fun c_33 => ?_)
            · have c_33 := c_33
              exfalso; omega
            · have c_33 := c_33
              refine ok_ite (fun c_34 => ?_) (fun c_34 => ?_)
              · have c_34 := c_34
                exfalso; omega
              · have c_34 := c_34
                refine ok_ite (fun c_35 => ?_) (fun c_35 => ?_)
                · have c_35 := c_35
                  exfalso; omega
                · have c_35 := c_35
                  refine ok_ite (fun c_36 => ?_) (fun c_36 => ?_)
                  · have c_36 := c_36
                    exfalso; omega
                  · have c_36 := c_36
                    have g_37 := gX_46 hB_s_9 0
                    refine ok_lt fun v_21 e_v_21 => ?_
                    have b_v_21 : 0 ≤ v_21.toInt ∧ v_21.toInt ≤ 512 := by rw [e_v_21]; exact gX_46 hB_s_9 _
                    have q_v_21 : v_21.toInt = (s_9.1 46 0).toInt := by rw [e_v_21]
                    have hBo : opB x1 := by rcases hSg with q | q | q; omega; (unfold opU at q; omega); exact q
                    have hl1 := hT.2.2.2.2.1 (Or.inr hBo)
                    have hl2 := hT.2.2.2.2.2 hBo
                    have n21 : v_21 = σ.1 46 0 := by rw [e_v_21, e_s_9, e_s_7, e_s_6, e_s_5, e_s_4]; rfl
                    refine ok_ix ⟨by omega, by omega⟩ ?_
                    refine ok_lt fun v_22 e_v_22 => ?_
                    have z22 : v_22.toInt = 1 := by rw [e_v_22, n21, show s_9.1 50 = s_7.1 50 by rw [e_s_9]; rfl, f50, sti_s]; exact k_1
                    refine ok_ix ⟨by omega, by omega⟩ ?_
                    refine ok_lt fun v_23 e_v_23 => ?_
                    have q_v_23 : v_23.toInt = (s_9.1 50 x2.toNatClampNeg).toInt := by rw [e_v_23]
                    have z23 : v_23.toInt = (σ.1 50 x2.toNatClampNeg).toInt := by rw [e_v_23, show s_9.1 50 = s_7.1 50 by rw [e_s_9]; rfl, f50, sti_j (by omega)]
                    have b23 := hPA.1 x2.toNatClampNeg (by omega)
                    refine ok_ix ⟨by omega, by omega⟩ ?_
                    refine ok_lt fun v_24 e_v_24 => ?_
                    have z24 : v_24.toInt = (σ.1 50 x3.toNatClampNeg).toInt := by rw [e_v_24, show s_9.1 50 = s_7.1 50 by rw [e_s_9]; rfl, f50, sti_j (by omega)]
                    have b24 := hPA.1 x3.toNatClampNeg (by omega)
                    have px : pex x1.toInt (σ.1 50 x2.toNatClampNeg).toInt (σ.1 50 x3.toNatClampNeg).toInt = 1 + (σ.1 50 x2.toNatClampNeg).toInt + (σ.1 50 x3.toNatClampNeg).toInt := pex_B hBo
                    refine ok_ix ⟨by omega, by omega⟩ ?_
                    obtain ⟨t_38, ht_38, g_38⟩ : ∃ t : Int, (v_23 + v_24).toInt = t ∧ -2147483648 ≤ t ∧ t ≤ 2147483647 := ⟨_, rfl, tI_rng _⟩
                    obtain ⟨t_39, ht_39, g_39⟩ : ∃ t : Int, (v_22 + (v_23 + v_24)).toInt = t ∧ -2147483648 ≤ t ∧ t ≤ 2147483647 := ⟨_, rfl, tI_rng _⟩
                    refine ok_lt fun s_25 e_s_25 => ?_
                    have hB_s_25 : BX s_25 := by rw [e_s_25]; exact pX_50 hB_s_9 (tI_rng _)
                    have hF_s_25 : FR [46, 47, 48, 49, 50, 51] [] σ s_25 := by rw [e_s_25]; exact FR.st hF_s_9 (by decide)
                    have w_s_25_46 : (s_25.1 46 0).toInt = (s_9.1 46 0).toInt := by rw [e_s_25]; rfl
                    have r47_s_25 : s_25.1 47 = s_4.1 47 := by rw [e_s_25]; exact r47_s_9
                    have r48_s_25 : s_25.1 48 = s_5.1 48 := by rw [e_s_25]; exact r48_s_9
                    have r49_s_25 : s_25.1 49 = s_6.1 49 := by rw [e_s_25]; exact r49_s_9
                    have hPI_s_25 : PI s_25 := by rw [e_s_25]; exact PI.st1 (by decide) hPI_s_9
                    have f50u : s_25.1 50 = (sti σ 50 (σ.1 46 0).toNatClampNeg (v_22 + (v_23 + v_24))).1 50 := up_up f50 (by rw [e_s_25, n21]) (by rw [e_s_9]; rfl)
                    have pu : (v_22 + (v_23 + v_24)).toInt = pex x1.toInt (σ.1 50 x2.toNatClampNeg).toInt (σ.1 50 x3.toNatClampNeg).toInt := by rw [px]; have h8 := fb_addI (x := v_23) (y := v_24) (by omega) (by omega); have h9 := fb_addI (x := v_22) (y := v_23 + v_24) (by omega) (by omega); omega
                    have g_40 := gX_46 hB_s_25 0
                    refine ok_lt fun v_26 e_v_26 => ?_
                    have b_v_26 : 0 ≤ v_26.toInt ∧ v_26.toInt ≤ 512 := by rw [e_v_26]; exact gX_46 hB_s_25 _
                    have q_v_26 : v_26.toInt = (s_25.1 46 0).toInt := by rw [e_v_26]
                    refine ok_ix ⟨by omega, by omega⟩ ?_
                    refine ok_lt fun v_27 e_v_27 => ?_
                    refine ok_ix ⟨by omega, by omega⟩ ?_
                    refine ok_lt fun v_28 e_v_28 => ?_
                    refine ok_ix ⟨by omega, by omega⟩ ?_
                    refine ok_lt fun v_29 e_v_29 => ?_
                    refine ok_ix ⟨by omega, by omega⟩ ?_
                    obtain ⟨t_41, ht_41, g_41⟩ : ∃ t : Int, (v_27 ||| (v_28 ||| v_29)).toInt = t ∧ -2147483648 ≤ t ∧ t ≤ 2147483647 := ⟨_, rfl, tI_rng _⟩
                    refine ok_lt fun s_30 e_s_30 => ?_
                    have hB_s_30 : BX s_30 := by rw [e_s_30]; exact pX_51 hB_s_25 (tI_rng _)
                    have hF_s_30 : FR [46, 47, 48, 49, 50, 51] [] σ s_30 := by rw [e_s_30]; exact FR.st hF_s_25 (by decide)
                    have w_s_30_46 : (s_30.1 46 0).toInt = (s_25.1 46 0).toInt := by rw [e_s_30]; rfl
                    have r47_s_30 : s_30.1 47 = s_4.1 47 := by rw [e_s_30]; exact r47_s_25
                    have r48_s_30 : s_30.1 48 = s_5.1 48 := by rw [e_s_30]; exact r48_s_25
                    have r49_s_30 : s_30.1 49 = s_6.1 49 := by rw [e_s_30]; exact r49_s_25
                    have r50_s_30 : s_30.1 50 = s_25.1 50 := by rw [e_s_30]; exact rfl
                    have hPI_s_30 : PI s_30 := by rw [e_s_30]; exact PI.st1 (by decide) hPI_s_25
                    have g_42 := gX_46 hB_s_30 0
                    obtain ⟨t_43, ht_43, g_43⟩ : ∃ t : Int, ((s_30.1 46 0) + 1).toInt = t ∧ t = (s_30.1 46 0).toInt + (1 : Int32).toInt := ⟨_, rfl, by have h9 := fb_addI (x := (s_30.1 46 0)) (y := (1 : Int32)) (by omega) (by omega); exact h9⟩
                    refine ok_lt fun s_11 e_s_11 => ?_
                    have hB_s_11 : BX s_11 := by rw [e_s_11]; exact pX_46 hB_s_30 (by rw [ht_43]; omega)
                    have hF_s_11 : FR [46, 47, 48, 49, 50, 51] [] σ s_11 := by rw [e_s_11]; exact FR.st hF_s_30 (by decide)
                    have w_s_11_46 : (s_11.1 46 0).toInt = t_43 := by rw [e_s_11, sti_s, ht_43]
                    have r47_s_11 : s_11.1 47 = s_4.1 47 := by rw [e_s_11]; exact r47_s_30
                    have r48_s_11 : s_11.1 48 = s_5.1 48 := by rw [e_s_11]; exact r48_s_30
                    have r49_s_11 : s_11.1 49 = s_6.1 49 := by rw [e_s_11]; exact r49_s_30
                    have r50_s_11 : s_11.1 50 = s_25.1 50 := by rw [e_s_11]; exact r50_s_30
                    have hPI_s_11 : PI s_11 := by rw [e_s_11]; exact PI.st1 (by decide) hPI_s_30
                    have a47 := r47_s_11.trans f47
                    have a48 := r48_s_11.trans f48
                    have a49 := r49_s_11.trans f49
                    have w46 : (s_11.1 46 0).toInt = (σ.1 46 0).toInt + 1 := by omega
                    obtain ⟨pv, a50, ap⟩ : ∃ pv : Int32, s_11.1 50 = (sti σ 50 (σ.1 46 0).toNatClampNeg pv).1 50 ∧ pv.toInt = pex x1.toInt (σ.1 50 x2.toNatClampNeg).toInt (σ.1 50 x3.toNatClampNeg).toInt := by first | exact ⟨_, r50_s_11.trans f50u, pu⟩ | exact ⟨1, r50_s_11.trans f50, by rw [k_1]; exact (pex_L (by omega)).symm⟩
                    have hPA_s_11 : PA s_11 := PA.new hPA hPI hB a47 a48 a49 a50 w46 cn ap (by omega) hT (by omega) (by omega) hSg
                    have g_44 := gX_46 hB_s_11 0
                    obtain ⟨t_45, ht_45, g_45⟩ : ∃ t : Int, ((s_11.1 46 0) - 1).toInt = t ∧ t = (s_11.1 46 0).toInt - (1 : Int32).toInt := ⟨_, rfl, by have h9 := fb_subI (x := (s_11.1 46 0)) (y := (1 : Int32)) (by omega) (by omega); exact h9⟩
                    exact ok_ret ⟨(by (try dsimp only); rw [ht_45]; omega), hB_s_11, hF_s_11, hPI_s_11, hPA_s_11, (by (try dsimp only); exact ⟨by omega, by omega, fun i hi => (congrFun r47_s_11 i).trans (hk_s_4 i hi), fun i hi => ⟨by rw [a50]; exact sti_j (by omega), by rw [a48]; exact sti_j (by omega), by rw [a49]; exact sti_j (by omega)⟩, by have n11 : ((s_11.1 46 0) - 1).toNatClampNeg = (σ.1 46 0).toNatClampNeg := (by have := clamp_I (x := ((s_11.1 46 0) - 1)) (by omega); omega); rw [n11, a50, sti_s]; exact Int.le_of_eq ap⟩)⟩
          · rw [fa_eq] at c_31
            have g_46 := gX_46 hB_s_7 0
            refine ok_ix ⟨by omega, by omega⟩ ?_
            refine ok_lt fun s_9 e_s_9 => ?_
            have hB_s_9 : BX s_9 := by rw [e_s_9]; exact pX_51 hB_s_7 (tI_rng _)
            have hF_s_9 : FR [46, 47, 48, 49, 50, 51] [] σ s_9 := by rw [e_s_9]; exact FR.st hF_s_7 (by decide)
            have w_s_9_46 : (s_9.1 46 0).toInt = (s_7.1 46 0).toInt := by rw [e_s_9]; rfl
            have r47_s_9 : s_9.1 47 = s_4.1 47 := by rw [e_s_9]; exact r47_s_7
            have r48_s_9 : s_9.1 48 = s_5.1 48 := by rw [e_s_9]; exact r48_s_7
            have r49_s_9 : s_9.1 49 = s_6.1 49 := by rw [e_s_9]; exact r49_s_7
            have r50_s_9 : s_9.1 50 = s_7.1 50 := by rw [e_s_9]; exact rfl
            have hPI_s_9 : PI s_9 := by rw [e_s_9]; exact PI.st1 (by decide) hPI_s_7
            refine ok_jn ?_
            refine ok_ite (fun c_47 => ?_) (fun c_47 => ?_)
            · have c_47 := c_47
              have g_48 := gX_46 hB_s_9 0
              refine ok_lt fun v_13 e_v_13 => ?_
              have b_v_13 : 0 ≤ v_13.toInt ∧ v_13.toInt ≤ 512 := by rw [e_v_13]; exact gX_46 hB_s_9 _
              have q_v_13 : v_13.toInt = (s_9.1 46 0).toInt := by rw [e_v_13]
              have hU : opU x1 := by unfold opU; omega
              have hl1 := hT.2.2.2.2.1 (Or.inl hU)
              have n13 : v_13 = σ.1 46 0 := by rw [e_v_13, e_s_9, e_s_7, e_s_6, e_s_5, e_s_4]; rfl
              refine ok_ix ⟨by omega, by omega⟩ ?_
              refine ok_lt fun v_14 e_v_14 => ?_
              have z14 : v_14.toInt = 1 := by rw [e_v_14, n13, show s_9.1 50 = s_7.1 50 by rw [e_s_9]; rfl, f50, sti_s]; exact k_1
              refine ok_ix ⟨by omega, by omega⟩ ?_
              refine ok_lt fun v_15 e_v_15 => ?_
              have q_v_15 : v_15.toInt = (s_9.1 50 x2.toNatClampNeg).toInt := by rw [e_v_15]
              have z15 : v_15.toInt = (σ.1 50 x2.toNatClampNeg).toInt := by rw [e_v_15, show s_9.1 50 = s_7.1 50 by rw [e_s_9]; rfl, f50, sti_j (by omega)]
              have b15 := hPA.1 x2.toNatClampNeg (by omega)
              have px : pex x1.toInt (σ.1 50 x2.toNatClampNeg).toInt (σ.1 50 x3.toNatClampNeg).toInt = 1 + (σ.1 50 x2.toNatClampNeg).toInt := pex_U hU
              refine ok_ix ⟨by omega, by omega⟩ ?_
              obtain ⟨t_49, ht_49, g_49⟩ : ∃ t : Int, (v_14 + v_15).toInt = t ∧ -2147483648 ≤ t ∧ t ≤ 2147483647 := ⟨_, rfl, tI_rng _⟩
              refine ok_lt fun s_16 e_s_16 => ?_
              have hB_s_16 : BX s_16 := by rw [e_s_16]; exact pX_50 hB_s_9 (tI_rng _)
              have hF_s_16 : FR [46, 47, 48, 49, 50, 51] [] σ s_16 := by rw [e_s_16]; exact FR.st hF_s_9 (by decide)
              have w_s_16_46 : (s_16.1 46 0).toInt = (s_9.1 46 0).toInt := by rw [e_s_16]; rfl
              have r47_s_16 : s_16.1 47 = s_4.1 47 := by rw [e_s_16]; exact r47_s_9
              have r48_s_16 : s_16.1 48 = s_5.1 48 := by rw [e_s_16]; exact r48_s_9
              have r49_s_16 : s_16.1 49 = s_6.1 49 := by rw [e_s_16]; exact r49_s_9
              have hPI_s_16 : PI s_16 := by rw [e_s_16]; exact PI.st1 (by decide) hPI_s_9
              have f50u : s_16.1 50 = (sti σ 50 (σ.1 46 0).toNatClampNeg (v_14 + v_15)).1 50 := up_up f50 (by rw [e_s_16, n13]) (by rw [e_s_9]; rfl)
              have pu : (v_14 + v_15).toInt = pex x1.toInt (σ.1 50 x2.toNatClampNeg).toInt (σ.1 50 x3.toNatClampNeg).toInt := by rw [px]; have h9 := fb_addI (x := v_14) (y := v_15) (by omega) (by omega); omega
              refine ok_ix ⟨by omega, by omega⟩ ?_
              refine ok_lt fun v_17 e_v_17 => ?_
              have g_50 := gX_46 hB_s_16 0
              refine ok_ix ⟨by omega, by omega⟩ ?_
              refine ok_lt fun s_18 e_s_18 => ?_
              have hB_s_18 : BX s_18 := by rw [e_s_18]; exact pX_51 hB_s_16 (tI_rng _)
              have hF_s_18 : FR [46, 47, 48, 49, 50, 51] [] σ s_18 := by rw [e_s_18]; exact FR.st hF_s_16 (by decide)
              have w_s_18_46 : (s_18.1 46 0).toInt = (s_16.1 46 0).toInt := by rw [e_s_18]; rfl
              have r47_s_18 : s_18.1 47 = s_4.1 47 := by rw [e_s_18]; exact r47_s_16
              have r48_s_18 : s_18.1 48 = s_5.1 48 := by rw [e_s_18]; exact r48_s_16
              have r49_s_18 : s_18.1 49 = s_6.1 49 := by rw [e_s_18]; exact r49_s_16
              have r50_s_18 : s_18.1 50 = s_16.1 50 := by rw [e_s_18]; exact rfl
              have hPI_s_18 : PI s_18 := by rw [e_s_18]; exact PI.st1 (by decide) hPI_s_16
              have g_51 := gX_46 hB_s_18 0
              obtain ⟨t_52, ht_52, g_52⟩ : ∃ t : Int, ((s_18.1 46 0) + 1).toInt = t ∧ t = (s_18.1 46 0).toInt + (1 : Int32).toInt := ⟨_, rfl, by have h9 := fb_addI (x := (s_18.1 46 0)) (y := (1 : Int32)) (by omega) (by omega); exact h9⟩
              refine ok_lt fun s_11 e_s_11 => ?_
              have hB_s_11 : BX s_11 := by rw [e_s_11]; exact pX_46 hB_s_18 (by rw [ht_52]; omega)
              have hF_s_11 : FR [46, 47, 48, 49, 50, 51] [] σ s_11 := by rw [e_s_11]; exact FR.st hF_s_18 (by decide)
              have w_s_11_46 : (s_11.1 46 0).toInt = t_52 := by rw [e_s_11, sti_s, ht_52]
              have r47_s_11 : s_11.1 47 = s_4.1 47 := by rw [e_s_11]; exact r47_s_18
              have r48_s_11 : s_11.1 48 = s_5.1 48 := by rw [e_s_11]; exact r48_s_18
              have r49_s_11 : s_11.1 49 = s_6.1 49 := by rw [e_s_11]; exact r49_s_18
              have r50_s_11 : s_11.1 50 = s_16.1 50 := by rw [e_s_11]; exact r50_s_18
              have hPI_s_11 : PI s_11 := by rw [e_s_11]; exact PI.st1 (by decide) hPI_s_18
              have a47 := r47_s_11.trans f47
              have a48 := r48_s_11.trans f48
              have a49 := r49_s_11.trans f49
              have w46 : (s_11.1 46 0).toInt = (σ.1 46 0).toInt + 1 := by omega
              obtain ⟨pv, a50, ap⟩ : ∃ pv : Int32, s_11.1 50 = (sti σ 50 (σ.1 46 0).toNatClampNeg pv).1 50 ∧ pv.toInt = pex x1.toInt (σ.1 50 x2.toNatClampNeg).toInt (σ.1 50 x3.toNatClampNeg).toInt := by first | exact ⟨_, r50_s_11.trans f50u, pu⟩ | exact ⟨1, r50_s_11.trans f50, by rw [k_1]; exact (pex_L (by omega)).symm⟩
              have hPA_s_11 : PA s_11 := PA.new hPA hPI hB a47 a48 a49 a50 w46 cn ap (by omega) hT (by omega) (by omega) hSg
              have g_53 := gX_46 hB_s_11 0
              obtain ⟨t_54, ht_54, g_54⟩ : ∃ t : Int, ((s_11.1 46 0) - 1).toInt = t ∧ t = (s_11.1 46 0).toInt - (1 : Int32).toInt := ⟨_, rfl, by have h9 := fb_subI (x := (s_11.1 46 0)) (y := (1 : Int32)) (by omega) (by omega); exact h9⟩
              exact ok_ret ⟨(by (try dsimp only); rw [ht_54]; omega), hB_s_11, hF_s_11, hPI_s_11, hPA_s_11, (by (try dsimp only); exact ⟨by omega, by omega, fun i hi => (congrFun r47_s_11 i).trans (hk_s_4 i hi), fun i hi => ⟨by rw [a50]; exact sti_j (by omega), by rw [a48]; exact sti_j (by omega), by rw [a49]; exact sti_j (by omega)⟩, by have n11 : ((s_11.1 46 0) - 1).toNatClampNeg = (σ.1 46 0).toNatClampNeg := (by have := clamp_I (x := ((s_11.1 46 0) - 1)) (by omega); omega); rw [n11, a50, sti_s]; exact Int.le_of_eq ap⟩)⟩
            · have c_47 := c_47
              refine ok_ite (fun c_55 => ?_) (fun c_55 => ?_)
              · have c_55 := c_55
                have g_56 := gX_46 hB_s_9 0
                refine ok_ix ⟨by omega, by omega⟩ ?_
                obtain ⟨t_57, ht_57, g_57⟩ : ∃ t : Int, ((1 : Int32) <<< (((6 : Int32) + x2) &&& 31)).toInt = t ∧ -2147483648 ≤ t ∧ t ≤ 2147483647 := ⟨_, rfl, tI_rng _⟩
                refine ok_lt fun s_19 e_s_19 => ?_
                have hB_s_19 : BX s_19 := by rw [e_s_19]; exact pX_51 hB_s_9 (tI_rng _)
                have hF_s_19 : FR [46, 47, 48, 49, 50, 51] [] σ s_19 := by rw [e_s_19]; exact FR.st hF_s_9 (by decide)
                have w_s_19_46 : (s_19.1 46 0).toInt = (s_9.1 46 0).toInt := by rw [e_s_19]; rfl
                have r47_s_19 : s_19.1 47 = s_4.1 47 := by rw [e_s_19]; exact r47_s_9
                have r48_s_19 : s_19.1 48 = s_5.1 48 := by rw [e_s_19]; exact r48_s_9
                have r49_s_19 : s_19.1 49 = s_6.1 49 := by rw [e_s_19]; exact r49_s_9
                have r50_s_19 : s_19.1 50 = s_7.1 50 := by rw [e_s_19]; exact r50_s_9
                have hPI_s_19 : PI s_19 := by rw [e_s_19]; exact PI.st1 (by decide) hPI_s_9
                have g_58 := gX_46 hB_s_19 0
                obtain ⟨t_59, ht_59, g_59⟩ : ∃ t : Int, ((s_19.1 46 0) + 1).toInt = t ∧ t = (s_19.1 46 0).toInt + (1 : Int32).toInt := ⟨_, rfl, by have h9 := fb_addI (x := (s_19.1 46 0)) (y := (1 : Int32)) (by omega) (by omega); exact h9⟩
                refine ok_lt fun s_11 e_s_11 => ?_
                have hB_s_11 : BX s_11 := by rw [e_s_11]; exact pX_46 hB_s_19 (by rw [ht_59]; omega)
                have hF_s_11 : FR [46, 47, 48, 49, 50, 51] [] σ s_11 := by rw [e_s_11]; exact FR.st hF_s_19 (by decide)
                have w_s_11_46 : (s_11.1 46 0).toInt = t_59 := by rw [e_s_11, sti_s, ht_59]
                have r47_s_11 : s_11.1 47 = s_4.1 47 := by rw [e_s_11]; exact r47_s_19
                have r48_s_11 : s_11.1 48 = s_5.1 48 := by rw [e_s_11]; exact r48_s_19
                have r49_s_11 : s_11.1 49 = s_6.1 49 := by rw [e_s_11]; exact r49_s_19
                have r50_s_11 : s_11.1 50 = s_7.1 50 := by rw [e_s_11]; exact r50_s_19
                have hPI_s_11 : PI s_11 := by rw [e_s_11]; exact PI.st1 (by decide) hPI_s_19
                have a47 := r47_s_11.trans f47
                have a48 := r48_s_11.trans f48
                have a49 := r49_s_11.trans f49
                have w46 : (s_11.1 46 0).toInt = (σ.1 46 0).toInt + 1 := by omega
                obtain ⟨pv, a50, ap⟩ : ∃ pv : Int32, s_11.1 50 = (sti σ 50 (σ.1 46 0).toNatClampNeg pv).1 50 ∧ pv.toInt = pex x1.toInt (σ.1 50 x2.toNatClampNeg).toInt (σ.1 50 x3.toNatClampNeg).toInt := by first | exact ⟨_, r50_s_11.trans f50u, pu⟩ | exact ⟨1, r50_s_11.trans f50, by rw [k_1]; exact (pex_L (by omega)).symm⟩
                have hPA_s_11 : PA s_11 := PA.new hPA hPI hB a47 a48 a49 a50 w46 cn ap (by omega) hT (by omega) (by omega) hSg
                have g_60 := gX_46 hB_s_11 0
                obtain ⟨t_61, ht_61, g_61⟩ : ∃ t : Int, ((s_11.1 46 0) - 1).toInt = t ∧ t = (s_11.1 46 0).toInt - (1 : Int32).toInt := ⟨_, rfl, by have h9 := fb_subI (x := (s_11.1 46 0)) (y := (1 : Int32)) (by omega) (by omega); exact h9⟩
                exact ok_ret ⟨(by (try dsimp only); rw [ht_61]; omega), hB_s_11, hF_s_11, hPI_s_11, hPA_s_11, (by (try dsimp only); exact ⟨by omega, by omega, fun i hi => (congrFun r47_s_11 i).trans (hk_s_4 i hi), fun i hi => ⟨by rw [a50]; exact sti_j (by omega), by rw [a48]; exact sti_j (by omega), by rw [a49]; exact sti_j (by omega)⟩, by have n11 : ((s_11.1 46 0) - 1).toNatClampNeg = (σ.1 46 0).toNatClampNeg := (by have := clamp_I (x := ((s_11.1 46 0) - 1)) (by omega); omega); rw [n11, a50, sti_s]; exact Int.le_of_eq ap⟩)⟩
              · have c_55 := c_55
                refine ok_ite (fun c_62 => ?_) (fun c_62 => ?_)
                · have c_62 := c_62
                  have g_63 := gX_46 hB_s_9 0
                  obtain ⟨t_64, ht_64, g_64⟩ : ∃ t : Int, ((s_9.1 46 0) + 1).toInt = t ∧ t = (s_9.1 46 0).toInt + (1 : Int32).toInt := ⟨_, rfl, by have h9 := fb_addI (x := (s_9.1 46 0)) (y := (1 : Int32)) (by omega) (by omega); exact h9⟩
                  refine ok_lt fun s_11 e_s_11 => ?_
                  have hB_s_11 : BX s_11 := by rw [e_s_11]; exact pX_46 hB_s_9 (by rw [ht_64]; omega)
                  have hF_s_11 : FR [46, 47, 48, 49, 50, 51] [] σ s_11 := by rw [e_s_11]; exact FR.st hF_s_9 (by decide)
                  have w_s_11_46 : (s_11.1 46 0).toInt = t_64 := by rw [e_s_11, sti_s, ht_64]
                  have r47_s_11 : s_11.1 47 = s_4.1 47 := by rw [e_s_11]; exact r47_s_9
                  have r48_s_11 : s_11.1 48 = s_5.1 48 := by rw [e_s_11]; exact r48_s_9
                  have r49_s_11 : s_11.1 49 = s_6.1 49 := by rw [e_s_11]; exact r49_s_9
                  have r50_s_11 : s_11.1 50 = s_7.1 50 := by rw [e_s_11]; exact r50_s_9
                  have hPI_s_11 : PI s_11 := by rw [e_s_11]; exact PI.st1 (by decide) hPI_s_9
                  have a47 := r47_s_11.trans f47
                  have a48 := r48_s_11.trans f48
                  have a49 := r49_s_11.trans f49
                  have w46 : (s_11.1 46 0).toInt = (σ.1 46 0).toInt + 1 := by omega
                  obtain ⟨pv, a50, ap⟩ : ∃ pv : Int32, s_11.1 50 = (sti σ 50 (σ.1 46 0).toNatClampNeg pv).1 50 ∧ pv.toInt = pex x1.toInt (σ.1 50 x2.toNatClampNeg).toInt (σ.1 50 x3.toNatClampNeg).toInt := by first | exact ⟨_, r50_s_11.trans f50u, pu⟩ | exact ⟨1, r50_s_11.trans f50, by rw [k_1]; exact (pex_L (by omega)).symm⟩
                  have hPA_s_11 : PA s_11 := PA.new hPA hPI hB a47 a48 a49 a50 w46 cn ap (by omega) hT (by omega) (by omega) hSg
                  have g_65 := gX_46 hB_s_11 0
                  obtain ⟨t_66, ht_66, g_66⟩ : ∃ t : Int, ((s_11.1 46 0) - 1).toInt = t ∧ t = (s_11.1 46 0).toInt - (1 : Int32).toInt := ⟨_, rfl, by have h9 := fb_subI (x := (s_11.1 46 0)) (y := (1 : Int32)) (by omega) (by omega); exact h9⟩
                  exact ok_ret ⟨(by (try dsimp only); rw [ht_66]; omega), hB_s_11, hF_s_11, hPI_s_11, hPA_s_11, (by (try dsimp only); exact ⟨by omega, by omega, fun i hi => (congrFun r47_s_11 i).trans (hk_s_4 i hi), fun i hi => ⟨by rw [a50]; exact sti_j (by omega), by rw [a48]; exact sti_j (by omega), by rw [a49]; exact sti_j (by omega)⟩, by have n11 : ((s_11.1 46 0) - 1).toNatClampNeg = (σ.1 46 0).toNatClampNeg := (by have := clamp_I (x := ((s_11.1 46 0) - 1)) (by omega); omega); rw [n11, a50, sti_s]; exact Int.le_of_eq ap⟩)⟩
                · have c_62 := c_62
                  refine ok_ite (fun c_67 => ?_) (fun c_67 => ?_)
                  · have c_67 := c_67
                    have g_68 := gX_46 hB_s_9 0
                    refine ok_ix ⟨by omega, by omega⟩ ?_
                    obtain ⟨t_69, ht_69, g_69⟩ : ∃ t : Int, ((1 : Int32) <<< (x2 &&& 31)).toInt = t ∧ -2147483648 ≤ t ∧ t ≤ 2147483647 := ⟨_, rfl, tI_rng _⟩
                    refine ok_lt fun s_20 e_s_20 => ?_
                    have hB_s_20 : BX s_20 := by rw [e_s_20]; exact pX_51 hB_s_9 (tI_rng _)
                    have hF_s_20 : FR [46, 47, 48, 49, 50, 51] [] σ s_20 := by rw [e_s_20]; exact FR.st hF_s_9 (by decide)
                    have w_s_20_46 : (s_20.1 46 0).toInt = (s_9.1 46 0).toInt := by rw [e_s_20]; rfl
                    have r47_s_20 : s_20.1 47 = s_4.1 47 := by rw [e_s_20]; exact r47_s_9
                    have r48_s_20 : s_20.1 48 = s_5.1 48 := by rw [e_s_20]; exact r48_s_9
                    have r49_s_20 : s_20.1 49 = s_6.1 49 := by rw [e_s_20]; exact r49_s_9
                    have r50_s_20 : s_20.1 50 = s_7.1 50 := by rw [e_s_20]; exact r50_s_9
                    have hPI_s_20 : PI s_20 := by rw [e_s_20]; exact PI.st1 (by decide) hPI_s_9
                    have g_70 := gX_46 hB_s_20 0
                    obtain ⟨t_71, ht_71, g_71⟩ : ∃ t : Int, ((s_20.1 46 0) + 1).toInt = t ∧ t = (s_20.1 46 0).toInt + (1 : Int32).toInt := ⟨_, rfl, by have h9 := fb_addI (x := (s_20.1 46 0)) (y := (1 : Int32)) (by omega) (by omega); exact h9⟩
                    refine ok_lt fun s_11 e_s_11 => ?_
                    have hB_s_11 : BX s_11 := by rw [e_s_11]; exact pX_46 hB_s_20 (by rw [ht_71]; omega)
                    have hF_s_11 : FR [46, 47, 48, 49, 50, 51] [] σ s_11 := by rw [e_s_11]; exact FR.st hF_s_20 (by decide)
                    have w_s_11_46 : (s_11.1 46 0).toInt = t_71 := by rw [e_s_11, sti_s, ht_71]
                    have r47_s_11 : s_11.1 47 = s_4.1 47 := by rw [e_s_11]; exact r47_s_20
                    have r48_s_11 : s_11.1 48 = s_5.1 48 := by rw [e_s_11]; exact r48_s_20
                    have r49_s_11 : s_11.1 49 = s_6.1 49 := by rw [e_s_11]; exact r49_s_20
                    have r50_s_11 : s_11.1 50 = s_7.1 50 := by rw [e_s_11]; exact r50_s_20
                    have hPI_s_11 : PI s_11 := by rw [e_s_11]; exact PI.st1 (by decide) hPI_s_20
                    have a47 := r47_s_11.trans f47
                    have a48 := r48_s_11.trans f48
                    have a49 := r49_s_11.trans f49
                    have w46 : (s_11.1 46 0).toInt = (σ.1 46 0).toInt + 1 := by omega
                    obtain ⟨pv, a50, ap⟩ : ∃ pv : Int32, s_11.1 50 = (sti σ 50 (σ.1 46 0).toNatClampNeg pv).1 50 ∧ pv.toInt = pex x1.toInt (σ.1 50 x2.toNatClampNeg).toInt (σ.1 50 x3.toNatClampNeg).toInt := by first | exact ⟨_, r50_s_11.trans f50u, pu⟩ | exact ⟨1, r50_s_11.trans f50, by rw [k_1]; exact (pex_L (by omega)).symm⟩
                    have hPA_s_11 : PA s_11 := PA.new hPA hPI hB a47 a48 a49 a50 w46 cn ap (by omega) hT (by omega) (by omega) hSg
                    have g_72 := gX_46 hB_s_11 0
                    obtain ⟨t_73, ht_73, g_73⟩ : ∃ t : Int, ((s_11.1 46 0) - 1).toInt = t ∧ t = (s_11.1 46 0).toInt - (1 : Int32).toInt := ⟨_, rfl, by have h9 := fb_subI (x := (s_11.1 46 0)) (y := (1 : Int32)) (by omega) (by omega); exact h9⟩
                    exact ok_ret ⟨(by (try dsimp only); rw [ht_73]; omega), hB_s_11, hF_s_11, hPI_s_11, hPA_s_11, (by (try dsimp only); exact ⟨by omega, by omega, fun i hi => (congrFun r47_s_11 i).trans (hk_s_4 i hi), fun i hi => ⟨by rw [a50]; exact sti_j (by omega), by rw [a48]; exact sti_j (by omega), by rw [a49]; exact sti_j (by omega)⟩, by have n11 : ((s_11.1 46 0) - 1).toNatClampNeg = (σ.1 46 0).toNatClampNeg := (by have := clamp_I (x := ((s_11.1 46 0) - 1)) (by omega); omega); rw [n11, a50, sti_s]; exact Int.le_of_eq ap⟩)⟩
                  · have c_67 := c_67
                    have g_74 := gX_46 hB_s_9 0
                    refine ok_lt fun v_21 e_v_21 => ?_
                    have b_v_21 : 0 ≤ v_21.toInt ∧ v_21.toInt ≤ 512 := by rw [e_v_21]; exact gX_46 hB_s_9 _
                    have q_v_21 : v_21.toInt = (s_9.1 46 0).toInt := by rw [e_v_21]
                    have hBo : opB x1 := by rcases hSg with q | q | q; omega; (unfold opU at q; omega); exact q
                    have hl1 := hT.2.2.2.2.1 (Or.inr hBo)
                    have hl2 := hT.2.2.2.2.2 hBo
                    have n21 : v_21 = σ.1 46 0 := by rw [e_v_21, e_s_9, e_s_7, e_s_6, e_s_5, e_s_4]; rfl
                    refine ok_ix ⟨by omega, by omega⟩ ?_
                    refine ok_lt fun v_22 e_v_22 => ?_
                    have z22 : v_22.toInt = 1 := by rw [e_v_22, n21, show s_9.1 50 = s_7.1 50 by rw [e_s_9]; rfl, f50, sti_s]; exact k_1
                    refine ok_ix ⟨by omega, by omega⟩ ?_
                    refine ok_lt fun v_23 e_v_23 => ?_
                    have q_v_23 : v_23.toInt = (s_9.1 50 x2.toNatClampNeg).toInt := by rw [e_v_23]
                    have z23 : v_23.toInt = (σ.1 50 x2.toNatClampNeg).toInt := by rw [e_v_23, show s_9.1 50 = s_7.1 50 by rw [e_s_9]; rfl, f50, sti_j (by omega)]
                    have b23 := hPA.1 x2.toNatClampNeg (by omega)
                    refine ok_ix ⟨by omega, by omega⟩ ?_
                    refine ok_lt fun v_24 e_v_24 => ?_
                    have z24 : v_24.toInt = (σ.1 50 x3.toNatClampNeg).toInt := by rw [e_v_24, show s_9.1 50 = s_7.1 50 by rw [e_s_9]; rfl, f50, sti_j (by omega)]
                    have b24 := hPA.1 x3.toNatClampNeg (by omega)
                    have px : pex x1.toInt (σ.1 50 x2.toNatClampNeg).toInt (σ.1 50 x3.toNatClampNeg).toInt = 1 + (σ.1 50 x2.toNatClampNeg).toInt + (σ.1 50 x3.toNatClampNeg).toInt := pex_B hBo
                    refine ok_ix ⟨by omega, by omega⟩ ?_
                    obtain ⟨t_75, ht_75, g_75⟩ : ∃ t : Int, (v_23 + v_24).toInt = t ∧ -2147483648 ≤ t ∧ t ≤ 2147483647 := ⟨_, rfl, tI_rng _⟩
                    obtain ⟨t_76, ht_76, g_76⟩ : ∃ t : Int, (v_22 + (v_23 + v_24)).toInt = t ∧ -2147483648 ≤ t ∧ t ≤ 2147483647 := ⟨_, rfl, tI_rng _⟩
                    refine ok_lt fun s_25 e_s_25 => ?_
                    have hB_s_25 : BX s_25 := by rw [e_s_25]; exact pX_50 hB_s_9 (tI_rng _)
                    have hF_s_25 : FR [46, 47, 48, 49, 50, 51] [] σ s_25 := by rw [e_s_25]; exact FR.st hF_s_9 (by decide)
                    have w_s_25_46 : (s_25.1 46 0).toInt = (s_9.1 46 0).toInt := by rw [e_s_25]; rfl
                    have r47_s_25 : s_25.1 47 = s_4.1 47 := by rw [e_s_25]; exact r47_s_9
                    have r48_s_25 : s_25.1 48 = s_5.1 48 := by rw [e_s_25]; exact r48_s_9
                    have r49_s_25 : s_25.1 49 = s_6.1 49 := by rw [e_s_25]; exact r49_s_9
                    have hPI_s_25 : PI s_25 := by rw [e_s_25]; exact PI.st1 (by decide) hPI_s_9
                    have f50u : s_25.1 50 = (sti σ 50 (σ.1 46 0).toNatClampNeg (v_22 + (v_23 + v_24))).1 50 := up_up f50 (by rw [e_s_25, n21]) (by rw [e_s_9]; rfl)
                    have pu : (v_22 + (v_23 + v_24)).toInt = pex x1.toInt (σ.1 50 x2.toNatClampNeg).toInt (σ.1 50 x3.toNatClampNeg).toInt := by rw [px]; have h8 := fb_addI (x := v_23) (y := v_24) (by omega) (by omega); have h9 := fb_addI (x := v_22) (y := v_23 + v_24) (by omega) (by omega); omega
                    have g_77 := gX_46 hB_s_25 0
                    refine ok_lt fun v_26 e_v_26 => ?_
                    have b_v_26 : 0 ≤ v_26.toInt ∧ v_26.toInt ≤ 512 := by rw [e_v_26]; exact gX_46 hB_s_25 _
                    have q_v_26 : v_26.toInt = (s_25.1 46 0).toInt := by rw [e_v_26]
                    refine ok_ix ⟨by omega, by omega⟩ ?_
                    refine ok_lt fun v_27 e_v_27 => ?_
                    refine ok_ix ⟨by omega, by omega⟩ ?_
                    refine ok_lt fun v_28 e_v_28 => ?_
                    refine ok_ix ⟨by omega, by omega⟩ ?_
                    refine ok_lt fun v_29 e_v_29 => ?_
                    refine ok_ix ⟨by omega, by omega⟩ ?_
                    obtain ⟨t_78, ht_78, g_78⟩ : ∃ t : Int, (v_27 ||| (v_28 ||| v_29)).toInt = t ∧ -2147483648 ≤ t ∧ t ≤ 2147483647 := ⟨_, rfl, tI_rng _⟩
                    refine ok_lt fun s_30 e_s_30 => ?_
                    have hB_s_30 : BX s_30 := by rw [e_s_30]; exact pX_51 hB_s_25 (tI_rng _)
                    have hF_s_30 : FR [46, 47, 48, 49, 50, 51] [] σ s_30 := by rw [e_s_30]; exact FR.st hF_s_25 (by decide)
                    have w_s_30_46 : (s_30.1 46 0).toInt = (s_25.1 46 0).toInt := by rw [e_s_30]; rfl
                    have r47_s_30 : s_30.1 47 = s_4.1 47 := by rw [e_s_30]; exact r47_s_25
                    have r48_s_30 : s_30.1 48 = s_5.1 48 := by rw [e_s_30]; exact r48_s_25
                    have r49_s_30 : s_30.1 49 = s_6.1 49 := by rw [e_s_30]; exact r49_s_25
                    have r50_s_30 : s_30.1 50 = s_25.1 50 := by rw [e_s_30]; exact rfl
                    have hPI_s_30 : PI s_30 := by rw [e_s_30]; exact PI.st1 (by decide) hPI_s_25
                    have g_79 := gX_46 hB_s_30 0
                    obtain ⟨t_80, ht_80, g_80⟩ : ∃ t : Int, ((s_30.1 46 0) + 1).toInt = t ∧ t = (s_30.1 46 0).toInt + (1 : Int32).toInt := ⟨_, rfl, by have h9 := fb_addI (x := (s_30.1 46 0)) (y := (1 : Int32)) (by omega) (by omega); exact h9⟩
                    refine ok_lt fun s_11 e_s_11 => ?_
                    have hB_s_11 : BX s_11 := by rw [e_s_11]; exact pX_46 hB_s_30 (by rw [ht_80]; omega)
                    have hF_s_11 : FR [46, 47, 48, 49, 50, 51] [] σ s_11 := by rw [e_s_11]; exact FR.st hF_s_30 (by decide)
                    have w_s_11_46 : (s_11.1 46 0).toInt = t_80 := by rw [e_s_11, sti_s, ht_80]
                    have r47_s_11 : s_11.1 47 = s_4.1 47 := by rw [e_s_11]; exact r47_s_30
                    have r48_s_11 : s_11.1 48 = s_5.1 48 := by rw [e_s_11]; exact r48_s_30
                    have r49_s_11 : s_11.1 49 = s_6.1 49 := by rw [e_s_11]; exact r49_s_30
                    have r50_s_11 : s_11.1 50 = s_25.1 50 := by rw [e_s_11]; exact r50_s_30
                    have hPI_s_11 : PI s_11 := by rw [e_s_11]; exact PI.st1 (by decide) hPI_s_30
                    have a47 := r47_s_11.trans f47
                    have a48 := r48_s_11.trans f48
                    have a49 := r49_s_11.trans f49
                    have w46 : (s_11.1 46 0).toInt = (σ.1 46 0).toInt + 1 := by omega
                    obtain ⟨pv, a50, ap⟩ : ∃ pv : Int32, s_11.1 50 = (sti σ 50 (σ.1 46 0).toNatClampNeg pv).1 50 ∧ pv.toInt = pex x1.toInt (σ.1 50 x2.toNatClampNeg).toInt (σ.1 50 x3.toNatClampNeg).toInt := by first | exact ⟨_, r50_s_11.trans f50u, pu⟩ | exact ⟨1, r50_s_11.trans f50, by rw [k_1]; exact (pex_L (by omega)).symm⟩
                    have hPA_s_11 : PA s_11 := PA.new hPA hPI hB a47 a48 a49 a50 w46 cn ap (by omega) hT (by omega) (by omega) hSg
                    have g_81 := gX_46 hB_s_11 0
                    obtain ⟨t_82, ht_82, g_82⟩ : ∃ t : Int, ((s_11.1 46 0) - 1).toInt = t ∧ t = (s_11.1 46 0).toInt - (1 : Int32).toInt := ⟨_, rfl, by have h9 := fb_subI (x := (s_11.1 46 0)) (y := (1 : Int32)) (by omega) (by omega); exact h9⟩
                    exact ok_ret ⟨(by (try dsimp only); rw [ht_82]; omega), hB_s_11, hF_s_11, hPI_s_11, hPA_s_11, (by (try dsimp only); exact ⟨by omega, by omega, fun i hi => (congrFun r47_s_11 i).trans (hk_s_4 i hi), fun i hi => ⟨by rw [a50]; exact sti_j (by omega), by rw [a48]; exact sti_j (by omega), by rw [a49]; exact sti_j (by omega)⟩, by have n11 : ((s_11.1 46 0) - 1).toNatClampNeg = (σ.1 46 0).toNatClampNeg := (by have := clamp_I (x := ((s_11.1 46 0) - 1)) (by omega); omega); rw [n11, a50, sti_s]; exact Int.le_of_eq ap⟩)⟩
  · rw [fa_le] at c_1
    refine ok_ix ⟨by omega, by omega⟩ ?_
    have g_83 := gX_47 hB (x4_1.toNatClampNeg)
    refine ok_lt fun v_35 e_v_35 => ?_
    have b_v_35 : 0 ≤ v_35.toInt ∧ v_35.toInt ≤ 255 := by rw [e_v_35]; exact gX_47 hB _
    refine ok_jn ?_
    refine ok_ite (fun c_84 => ?_) (fun c_84 => ?_)
    · rw [fa_eq] at c_84
      refine ok_ix ⟨by omega, by omega⟩ ?_
      have g_85 := gX_48 hB (x4_1.toNatClampNeg)
      refine ok_lt fun v_39 e_v_39 => ?_
      have b_v_39 : 0 ≤ v_39.toInt ∧ v_39.toInt ≤ 999 := by rw [e_v_39]; exact gX_48 hB _
      refine ok_ite (fun c_86 => ?_) (fun c_86 => ?_)
      · rw [fa_eq] at c_86
        refine ok_ix ⟨by omega, by omega⟩ ?_
        have g_87 := gX_49 hB (x4_1.toNatClampNeg)
        refine ok_lt fun v_41 e_v_41 => ?_
        have b_v_41 : 0 ≤ v_41.toInt ∧ v_41.toInt ≤ 511 := by rw [e_v_41]; exact gX_49 hB _
        refine ok_ite (fun c_88 => ?_) (fun c_88 => ?_)
        · rw [fa_eq] at c_88
          exact ok_ret ⟨(by (try dsimp only); omega), hB, hF, hPI, hPA, (by (try dsimp only); first | exact ⟨by omega, by omega, fun _ _ => rfl, F50.rf, hPA.fd (by have := clamp_I (x := x4_1) (by omega); omega) (by rw [← e_v_35]; omega) (by rw [← e_v_39]; omega) (by rw [← e_v_41]; omega)⟩ | exact ⟨by omega, by omega, fun _ _ => rfl, F50.rf, hPA.full (by omega) hT (by omega) (by omega)⟩)⟩
        · rw [fa_eq] at c_88
          obtain ⟨t_89, ht_89, g_89⟩ : ∃ t : Int, (x4_1 + 1).toInt = t ∧ t = x4_1.toInt + (1 : Int32).toInt := ⟨_, rfl, by have h9 := fb_addI (x := x4_1) (y := (1 : Int32)) (by omega) (by omega); exact h9⟩
          refine ok_lt fun x4_37 e_x4_37 => ?_
          have q_x4_37 : x4_37.toInt = t_89 := by rw [e_x4_37]; exact ht_89
          exact ih_a_3 _ x4_37 (by rw [hn_a_3]; omega) ⟨rfl, (by omega)⟩
      · rw [fa_eq] at c_86
        obtain ⟨t_90, ht_90, g_90⟩ : ∃ t : Int, (x4_1 + 1).toInt = t ∧ t = x4_1.toInt + (1 : Int32).toInt := ⟨_, rfl, by have h9 := fb_addI (x := x4_1) (y := (1 : Int32)) (by omega) (by omega); exact h9⟩
        refine ok_lt fun x4_37 e_x4_37 => ?_
        have q_x4_37 : x4_37.toInt = t_90 := by rw [e_x4_37]; exact ht_90
        exact ih_a_3 _ x4_37 (by rw [hn_a_3]; omega) ⟨rfl, (by omega)⟩
    · rw [fa_eq] at c_84
      obtain ⟨t_91, ht_91, g_91⟩ : ∃ t : Int, (x4_1 + 1).toInt = t ∧ t = x4_1.toInt + (1 : Int32).toInt := ⟨_, rfl, by have h9 := fb_addI (x := x4_1) (y := (1 : Int32)) (by omega) (by omega); exact h9⟩
      refine ok_lt fun x4_37 e_x4_37 => ?_
      have q_x4_37 : x4_37.toInt = t_91 := by rw [e_x4_37]; exact ht_91
      exact ih_a_3 _ x4_37 (by rw [hn_a_3]; omega) ⟨rfl, (by omega)⟩

set_option maxHeartbeats 4000000 in
theorem s_X1_putAside {x1 : Int32} {σ : Sto} (hB : BX σ) (hPI : PI σ) (hSI : SI σ) (hKI : KI σ) (hPA : PA σ) (hES : ES σ) (p_x1 : 0 ≤ x1.toInt ∧ x1.toInt ≤ 511) (hx1 : x1.toInt < (σ.1 46 0).toInt) : OK (f_X1_putAside x1 σ) (fun r => (0 ≤ r.1.toInt ∧ r.1.toInt ≤ 511) ∧ BX r.2 ∧ FR [46, 47, 48, 49, 50, 51, 52, 53, 54, 55, 58] [] σ r.2 ∧ PI r.2 ∧ SI r.2 ∧ KI r.2 ∧ PA r.2 ∧ ES r.2 ∧ (σ.1 52 0).toInt ≤ (r.2.1 52 0).toInt ∧ ((σ.1 46 0).toInt ≤ (r.2.1 46 0).toInt ∧ r.1.toInt < (r.2.1 46 0).toInt ∧ F50 σ r.2 ∧ (r.2.1 50 r.1.toNatClampNeg).toInt ≤ 1 ∧ (∀ B : Int, SB σ B → SB r.2 B))) := by
  unfold f_X1_putAside
  have hF : FR [46, 47, 48, 49, 50, 51, 52, 53, 54, 55, 58] [] σ σ := FR.rf
  have k_0 : (0 : Int32).toInt = 0 := by decide +kernel
  have k_1 : (1 : Int32).toInt = 1 := by decide +kernel
  have k_2 : (2 : Int32).toInt = 2 := by decide +kernel
  have k_88 : (88 : Int32).toInt = 88 := by decide +kernel
  have k_160 : (160 : Int32).toInt = 160 := by decide +kernel
  have g9 := gX_58 hB 0
  have g_1 := gX_58 hB 0
  refine ok_cals (s_X1_add (x1 := (2 : Int32)) (x2 := (σ.1 58 0)) (x3 := x1) (σ := σ) hB hSI hES (by omega) (by omega) (by omega) (t2_X (by omega) (by omega) (by omega)) (by omega)) (fun s_1 h_2 => ?_)
  obtain ⟨hB_s_1, hG_s_1, hSI_s_1, hES_s_1, m52_s_1⟩ := h_2
  (try dsimp only at hB_s_1 hG_s_1 hSI_s_1 hES_s_1 m52_s_1)
  have hF_s_1 : FR [46, 47, 48, 49, 50, 51, 52, 53, 54, 55, 58] [] σ s_1 := FR.cal hF hG_s_1 rfl rfl
  have w_s_1_46 : (s_1.1 46 0).toInt = (σ.1 46 0).toInt := by rw [hG_s_1.1 46 (by decide)]
  have w_s_1_58 : (s_1.1 58 0).toInt = (σ.1 58 0).toInt := by rw [hG_s_1.1 58 (by decide)]
  have f_s_1_61 : (s_1.1 61 0).toInt = (σ.1 61 0).toInt := by rw [hF_s_1.1 61 (by decide)]
  have hPI_s_1 : PI s_1 := PI.fr hG_s_1 (by decide) hPI
  have hKI_s_1 : KI s_1 := KI.fr hG_s_1 (by decide) hKI
  have hPA_s_1 : PA s_1 := PA.fr hG_s_1 (by decide) hPA
  have g8 := gX_58 hB_s_1 0
  have g_3 := gX_58 hB_s_1 0
  refine ok_calv (s_X7_make (x1 := (88 : Int32)) (x2 := (s_1.1 58 0)) (x3 := (0 : Int32)) (σ := s_1) hB_s_1 hPI_s_1 hPA_s_1 (by omega) (by omega) (by omega) (t1_X (by omega) (by omega)) (by rw [pex_L (by omega)]; decide) (Or.inl (by omega))) (fun v_2 s_2 h_4 => ?_)
  obtain ⟨b_v_2, hB_s_2, hG_s_2, hPI_s_2, hPA_s_2, x_s_2⟩ := h_4
  (try dsimp only at b_v_2 hB_s_2 hG_s_2 hPI_s_2 hPA_s_2 x_s_2)
  have hF_s_2 : FR [46, 47, 48, 49, 50, 51, 52, 53, 54, 55, 58] [] σ s_2 := FR.cal hF_s_1 hG_s_2 rfl rfl
  have w_s_2_52 : (s_2.1 52 0).toInt = (s_1.1 52 0).toInt := by rw [hG_s_2.1 52 (by decide)]
  have w_s_2_58 : (s_2.1 58 0).toInt = (s_1.1 58 0).toInt := by rw [hG_s_2.1 58 (by decide)]
  have f_s_2_61 : (s_2.1 61 0).toInt = (σ.1 61 0).toInt := by rw [hF_s_2.1 61 (by decide)]
  have hSI_s_2 : SI s_2 := SI.fr hG_s_2 (by decide) hSI_s_1
  have F2 := x_s_2.2.2.2.1
  have L2 := x_s_2.2.2.2.2
  rw [pex_L (by omega)] at L2
  have F02 : F50 σ s_2 := F50.tr (F50.of (hG_s_1.1 50 (by decide)) (hG_s_1.1 48 (by decide)) (hG_s_1.1 49 (by decide))) F2 (by rw [hG_s_1.1 46 (by decide)]; exact Int.le_refl _)
  have x_s_2 : (s_1.1 46 0).toInt ≤ (s_2.1 46 0).toInt ∧ v_2.toInt < (s_2.1 46 0).toInt := ⟨x_s_2.1, x_s_2.2.1⟩
  have hKI_s_2 : KI s_2 := KI.up hKI_s_1 (hG_s_2.1 60 (by decide)) (hG_s_2.1 61 (by decide)) x_s_2.1
  have hES_s_2 : ES s_2 := ES.up hES_s_1 (hG_s_2.1 52 (by decide)) (hG_s_2.1 55 (by decide)) x_s_2.1
  have g_6 := gX_58 hB_s_2 0
  refine ok_ite (fun c_5 => ?_) (fun c_5 => ?_)
  · rw [fa_le] at c_5
    exact ok_ret ⟨(by (try dsimp only); omega), hB_s_2, hF_s_2, hPI_s_2, hSI_s_2, hKI_s_2, hPA_s_2, hES_s_2, (by (try dsimp only); omega), (by (try dsimp only); exact ⟨by omega, by omega, F02, L2, fun B h => h.same hKI (hF_s_2.1 60 (by decide)) (hF_s_2.1 61 (by decide)) F02 hB⟩)⟩
  · rw [fa_le] at c_5
    obtain ⟨t_7, ht_7, g_7⟩ : ∃ t : Int, ((s_2.1 58 0) + 1).toInt = t ∧ t = (s_2.1 58 0).toInt + (1 : Int32).toInt := ⟨_, rfl, by have h9 := fb_addI (x := (s_2.1 58 0)) (y := (1 : Int32)) (by omega) (by omega); exact h9⟩
    refine ok_lt fun s_4 e_s_4 => ?_
    have hB_s_4 : BX s_4 := by rw [e_s_4]; exact pX_58 hB_s_2 (by rw [ht_7]; omega)
    have hF_s_4 : FR [46, 47, 48, 49, 50, 51, 52, 53, 54, 55, 58] [] σ s_4 := by rw [e_s_4]; exact FR.st hF_s_2 (by decide)
    have w_s_4_46 : (s_4.1 46 0).toInt = (s_2.1 46 0).toInt := by rw [e_s_4]; rfl
    have w_s_4_52 : (s_4.1 52 0).toInt = (s_2.1 52 0).toInt := by rw [e_s_4]; rfl
    have w_s_4_58 : (s_4.1 58 0).toInt = t_7 := by rw [e_s_4, sti_s, ht_7]
    have f_s_4_61 : (s_4.1 61 0).toInt = (σ.1 61 0).toInt := by rw [hF_s_4.1 61 (by decide)]
    have hPI_s_4 : PI s_4 := by rw [e_s_4]; exact PI.st1 (by decide) hPI_s_2
    have hPA_s_4 : PA s_4 := by rw [e_s_4]; exact PA.st1 (by decide) hPA_s_2
    have hSI_s_4 : SI s_4 := by rw [e_s_4]; exact SI.st1 (by decide) hSI_s_2
    have hKI_s_4 : KI s_4 := by rw [e_s_4]; exact KI.st1 (by decide) hKI_s_2
    have hES_s_4 : ES s_4 := by rw [e_s_4]; exact ES.st1 (by decide) hES_s_2
    exact ok_ret ⟨(by (try dsimp only); omega), hB_s_4, hF_s_4, hPI_s_4, hSI_s_4, hKI_s_4, hPA_s_4, hES_s_4, (by (try dsimp only); omega), (by (try dsimp only); have F04 : F50 σ s_4 := F02.tr (F50.of (by rw [e_s_4]; rfl) (by rw [e_s_4]; rfl) (by rw [e_s_4]; rfl)) (by omega); exact ⟨by omega, by omega, F04, by rw [show s_4.1 50 = s_2.1 50 by rw [e_s_4]; rfl]; exact L2, fun B h => h.same hKI (hF_s_4.1 60 (by decide)) (hF_s_4.1 61 (by decide)) F04 hB⟩)⟩

set_option maxHeartbeats 4000000 in
theorem s_X7_slotBit {x1 : Int32} (p_x1 : 0 ≤ x1.toInt ∧ x1.toInt ≤ 5) : OK (f_X7_slotBit x1) (fun v => True) := by
  unfold f_X7_slotBit
  obtain ⟨t_1, ht_1, g_1⟩ : ∃ t : Int, ((1 : Int32) <<< (((6 : Int32) + x1) &&& 31)).toInt = t ∧ -2147483648 ≤ t ∧ t ≤ 2147483647 := ⟨_, rfl, tI_rng _⟩
  exact ok_ret trivial

set_option maxHeartbeats 4000000 in
theorem s_X1_isNeededAbove {x1 : Int32} {x2 : Int32} {σ : Sto} (hB : BX σ) (p_x1 : 0 ≤ x1.toInt ∧ x1.toInt ≤ 39) (p_x2 : 0 ≤ x2.toInt ∧ x2.toInt ≤ 5) : OK (f_X1_isNeededAbove x1 x2 σ) (fun v => (0 ≤ v.toInt ∧ v.toInt ≤ 1)) := by
  unfold f_X1_isNeededAbove
  have hF : FR [] [] σ σ := FR.rf
  have k_m1 : ((-1) : Int32).toInt = -1 := by decide +kernel
  have k_0 : (0 : Int32).toInt = 0 := by decide +kernel
  have k_1 : (1 : Int32).toInt = 1 := by decide +kernel
  refine ok_ix ⟨by omega, by omega⟩ ?_
  have g_1 := gX_57 hB (x1.toNatClampNeg)
  refine ok_lt fun v_1 e_v_1 => ?_
  have b_v_1 : (-1) ≤ v_1.toInt ∧ v_1.toInt ≤ 511 := by rw [e_v_1]; exact gX_57 hB _
  have q_v_1 : v_1.toInt = (σ.1 57 x1.toNatClampNeg).toInt := by rw [e_v_1]
  refine ok_jn ?_
  refine ok_ite (fun c_2 => ?_) (fun c_2 => ?_)
  · rw [fa_eq] at c_2
    obtain ⟨t_3, ht_3, g_3⟩ : ∃ t : Int, (x2 + 1).toInt = t ∧ t = x2.toInt + (1 : Int32).toInt := ⟨_, rfl, by have h9 := fb_addI (x := x2) (y := (1 : Int32)) (by omega) (by omega); exact h9⟩
    refine ok_lt fun x4_3 e_x4_3 => ?_
    have q_x4_3 : x4_3.toInt = t_3 := by rw [e_x4_3]; exact ht_3
    refine ok_itr2 (fun (n : Nat) (x3_4 : Int32) (x4_4 : Int32) => n = (9 - x4_4.toInt).toNat ∧ (1 ≤ x4_4.toInt ∧ x4_4.toInt ≤ 8)) ?_ (n := _) ⟨rfl, (by omega)⟩ (show _ < 10000000 by omega)
    intro a_34 n x3_4 x4_4 hI ih_a_34
    obtain ⟨hn_a_34, b_x4_4⟩ := hI
    have g_5 := gX_61 hB 0
    refine ok_ite (fun c_4 => ?_) (fun c_4 => ?_)
    · rw [fa_le] at c_4
      refine ok_calp (s_X7_slotBit (x1 := x2) (by omega)) (fun v_6 h_6 => ?_)
      have b_v_6 := h_6
      (try dsimp only at b_v_6)
      obtain ⟨t_8, ht_8, g_8⟩ : ∃ t : Int, (x3_4 &&& v_6).toInt = t ∧ -2147483648 ≤ t ∧ t ≤ 2147483647 := ⟨_, rfl, tI_rng _⟩
      refine ok_ite (fun c_7 => ?_) (fun c_7 => ?_)
      · rw [fa_eq, ht_8] at c_7
        exact ok_ret (by (try dsimp only); omega)
      · rw [fa_eq, ht_8] at c_7
        exact ok_ret (by (try dsimp only); omega)
    · rw [fa_le] at c_4
      refine ok_ix ⟨by omega, by omega⟩ ?_
      have g_9 := gX_60 hB (x4_4.toNatClampNeg)
      refine ok_lt fun v_8 e_v_8 => ?_
      have b_v_8 : 0 ≤ v_8.toInt ∧ v_8.toInt ≤ 511 := by rw [e_v_8]; exact gX_60 hB _
      have q_v_8 : v_8.toInt = (σ.1 60 x4_4.toNatClampNeg).toInt := by rw [e_v_8]
      refine ok_ix ⟨by omega, by omega⟩ ?_
      refine ok_lt fun v_9 e_v_9 => ?_
      obtain ⟨t_10, ht_10, g_10⟩ : ∃ t : Int, (x3_4 ||| v_9).toInt = t ∧ -2147483648 ≤ t ∧ t ≤ 2147483647 := ⟨_, rfl, tI_rng _⟩
      refine ok_lt fun x3_10 e_x3_10 => ?_
      have q_x3_10 : x3_10.toInt = t_10 := by rw [e_x3_10]; exact ht_10
      obtain ⟨t_11, ht_11, g_11⟩ : ∃ t : Int, (x4_4 + 1).toInt = t ∧ t = x4_4.toInt + (1 : Int32).toInt := ⟨_, rfl, by have h9 := fb_addI (x := x4_4) (y := (1 : Int32)) (by omega) (by omega); exact h9⟩
      refine ok_lt fun x4_11 e_x4_11 => ?_
      have q_x4_11 : x4_11.toInt = t_11 := by rw [e_x4_11]; exact ht_11
      exact ih_a_34 _ x3_10 x4_11 (by rw [hn_a_34]; omega) ⟨rfl, (by omega)⟩
  · rw [fa_eq] at c_2
    refine ok_ix ⟨by omega, by omega⟩ ?_
    refine ok_lt fun v_13 e_v_13 => ?_
    have b_v_13 : (-1) ≤ v_13.toInt ∧ v_13.toInt ≤ 511 := by rw [e_v_13]; exact gX_57 hB _
    have q_v_13 : v_13.toInt = (σ.1 57 x1.toNatClampNeg).toInt := by rw [e_v_13]
    refine ok_ix ⟨by omega, by omega⟩ ?_
    refine ok_lt fun v_14 e_v_14 => ?_
    obtain ⟨t_12, ht_12, g_12⟩ : ∃ t : Int, (x2 + 1).toInt = t ∧ t = x2.toInt + (1 : Int32).toInt := ⟨_, rfl, by have h9 := fb_addI (x := x2) (y := (1 : Int32)) (by omega) (by omega); exact h9⟩
    refine ok_lt fun x4_3 e_x4_3 => ?_
    have q_x4_3 : x4_3.toInt = t_12 := by rw [e_x4_3]; exact ht_12
    refine ok_itr2 (fun (n : Nat) (x3_4 : Int32) (x4_4 : Int32) => n = (9 - x4_4.toInt).toNat ∧ (1 ≤ x4_4.toInt ∧ x4_4.toInt ≤ 8)) ?_ (n := _) ⟨rfl, (by omega)⟩ (show _ < 10000000 by omega)
    intro a_34 n x3_4 x4_4 hI ih_a_34
    obtain ⟨hn_a_34, b_x4_4⟩ := hI
    have g_14 := gX_61 hB 0
    refine ok_ite (fun c_13 => ?_) (fun c_13 => ?_)
    · rw [fa_le] at c_13
      refine ok_calp (s_X7_slotBit (x1 := x2) (by omega)) (fun v_6 h_15 => ?_)
      have b_v_6 := h_15
      (try dsimp only at b_v_6)
      obtain ⟨t_17, ht_17, g_17⟩ : ∃ t : Int, (x3_4 &&& v_6).toInt = t ∧ -2147483648 ≤ t ∧ t ≤ 2147483647 := ⟨_, rfl, tI_rng _⟩
      refine ok_ite (fun c_16 => ?_) (fun c_16 => ?_)
      · rw [fa_eq, ht_17] at c_16
        exact ok_ret (by (try dsimp only); omega)
      · rw [fa_eq, ht_17] at c_16
        exact ok_ret (by (try dsimp only); omega)
    · rw [fa_le] at c_13
      refine ok_ix ⟨by omega, by omega⟩ ?_
      have g_18 := gX_60 hB (x4_4.toNatClampNeg)
      refine ok_lt fun v_8 e_v_8 => ?_
      have b_v_8 : 0 ≤ v_8.toInt ∧ v_8.toInt ≤ 511 := by rw [e_v_8]; exact gX_60 hB _
      have q_v_8 : v_8.toInt = (σ.1 60 x4_4.toNatClampNeg).toInt := by rw [e_v_8]
      refine ok_ix ⟨by omega, by omega⟩ ?_
      refine ok_lt fun v_9 e_v_9 => ?_
      obtain ⟨t_19, ht_19, g_19⟩ : ∃ t : Int, (x3_4 ||| v_9).toInt = t ∧ -2147483648 ≤ t ∧ t ≤ 2147483647 := ⟨_, rfl, tI_rng _⟩
      refine ok_lt fun x3_10 e_x3_10 => ?_
      have q_x3_10 : x3_10.toInt = t_19 := by rw [e_x3_10]; exact ht_19
      obtain ⟨t_20, ht_20, g_20⟩ : ∃ t : Int, (x4_4 + 1).toInt = t ∧ t = x4_4.toInt + (1 : Int32).toInt := ⟨_, rfl, by have h9 := fb_addI (x := x4_4) (y := (1 : Int32)) (by omega) (by omega); exact h9⟩
      refine ok_lt fun x4_11 e_x4_11 => ?_
      have q_x4_11 : x4_11.toInt = t_20 := by rw [e_x4_11]; exact ht_20
      exact ih_a_34 _ x3_10 x4_11 (by rw [hn_a_34]; omega) ⟨rfl, (by omega)⟩

set_option maxHeartbeats 4000000 in
theorem sd_X7_replace : ∀ d : Nat, ∀ {x1 : Int32} {x2 : Int32} {x3 : Int32} {x4 : Int32} {σ : Sto} (hB : BX σ) (hPI : PI σ) (hPA : PA σ) (p_x1 : 0 ≤ x1.toInt ∧ x1.toInt ≤ 511) (p_x2 : 0 ≤ x2.toInt ∧ x2.toInt ≤ 5) (p_x3 : 0 ≤ x3.toInt ∧ x3.toInt ≤ 511) (p_x4 : 0 ≤ x4.toInt ∧ x4.toInt ≤ 61) (hx1 : x1.toInt < (σ.1 46 0).toInt) (hx3 : x3.toInt < (σ.1 46 0).toInt) (hby : (σ.1 50 x3.toNatClampNeg).toInt ≤ 1), (63 - x4.toInt).toNat ≤ d → OK (f_X7_replace d x1 x2 x3 x4 σ) (fun r => (0 ≤ r.1.toInt ∧ r.1.toInt ≤ 511) ∧ BX r.2 ∧ FR [46, 47, 48, 49, 50, 51] [] σ r.2 ∧ PI r.2 ∧ PA r.2 ∧ ((σ.1 46 0).toInt ≤ (r.2.1 46 0).toInt ∧ r.1.toInt < (r.2.1 46 0).toInt ∧ (∀ i : Nat, (i : Int) < (σ.1 46 0).toInt → r.2.1 47 i = σ.1 47 i) ∧ F50 σ r.2 ∧ (r.2.1 50 r.1.toNatClampNeg).toInt ≤ (σ.1 50 x1.toNatClampNeg).toInt)) := by
  intro d
  induction d with
  | zero => intro x1 x2 x3 x4 σ hB hPI hPA p_x1 p_x2 p_x3 p_x4 hx1 hx3 hby hmu; omega
  | succ d ih =>
  intro x1 x2 x3 x4 σ hB hPI hPA p_x1 p_x2 p_x3 p_x4 hx1 hx3 hby hmu
  show OK (b_X7_replace (f_X7_replace d) x1 x2 x3 x4 σ) _
  unfold b_X7_replace
  have hF : FR [46, 47, 48, 49, 50, 51] [] σ σ := FR.rf
  have k_0 : (0 : Int32).toInt = 0 := by decide +kernel
  have k_1 : (1 : Int32).toInt = 1 := by decide +kernel
  have k_60 : (60 : Int32).toInt = 60 := by decide +kernel
  have hc1 := clamp_I (x := x1) (by omega)
  have o1 := hPA.1 x1.toNatClampNeg (by omega)
  have hc3 := clamp_I (x := x3) (by omega)
  refine ok_ite (fun c_1 => ?_) (fun c_1 => ?_)
  · rw [fa_lt] at c_1
    exact ok_ret ⟨(by (try dsimp only); omega), hB, hF, hPI, hPA, (by (try dsimp only); first | exact ⟨by omega, by omega, fun _ _ => rfl, F50.rf, Int.le_refl _⟩ | exact ⟨by omega, by omega, fun _ _ => rfl, F50.rf, by omega⟩)⟩
  · rw [fa_lt] at c_1
    refine ok_ix ⟨by omega, by omega⟩ ?_
    refine ok_lt fun v_2 e_v_2 => ?_
    refine ok_calp (s_X7_slotBit (x1 := x2) (by omega)) (fun v_3 h_2 => ?_)
    have b_v_3 := h_2
    (try dsimp only at b_v_3)
    obtain ⟨t_4, ht_4, g_4⟩ : ∃ t : Int, (v_2 &&& v_3).toInt = t ∧ -2147483648 ≤ t ∧ t ≤ 2147483647 := ⟨_, rfl, tI_rng _⟩
    refine ok_ite (fun c_3 => ?_) (fun c_3 => ?_)
    · rw [fa_eq, ht_4] at c_3
      exact ok_ret ⟨(by (try dsimp only); omega), hB, hF, hPI, hPA, (by (try dsimp only); first | exact ⟨by omega, by omega, fun _ _ => rfl, F50.rf, Int.le_refl _⟩ | exact ⟨by omega, by omega, fun _ _ => rfl, F50.rf, by omega⟩)⟩
    · rw [fa_eq, ht_4] at c_3
      refine ok_ix ⟨by omega, by omega⟩ ?_
      have g_5 := gX_47 hB (x1.toNatClampNeg)
      refine ok_lt fun v_5 e_v_5 => ?_
      have b_v_5 : 0 ≤ v_5.toInt ∧ v_5.toInt ≤ 255 := by rw [e_v_5]; exact gX_47 hB _
      have q_v_5 : v_5.toInt = (σ.1 47 x1.toNatClampNeg).toInt := by rw [e_v_5]
      refine ok_calp (s_X11_isBinary (x1 := v_5) ) (fun v_6 h_6 => ?_)
      obtain ⟨b_v_6, x_v_6⟩ := h_6
      (try dsimp only at b_v_6 x_v_6)
      refine ok_ite (fun c_7 => ?_) (fun c_7 => ?_)
      · rw [fa_eq] at c_7
        refine ok_ix ⟨by omega, by omega⟩ ?_
        refine ok_lt fun v_8 e_v_8 => ?_
        have b_v_8 : 0 ≤ v_8.toInt ∧ v_8.toInt ≤ 255 := by rw [e_v_8]; exact gX_47 hB _
        have q_v_8 : v_8.toInt = (σ.1 47 x1.toNatClampNeg).toInt := by rw [e_v_8]
        refine ok_calp (s_X11_isUnary (x1 := v_8) (by omega)) (fun v_9 h_8 => ?_)
        obtain ⟨b_v_9, x_v_9⟩ := h_8
        (try dsimp only at b_v_9 x_v_9)
        refine ok_ite (fun c_9 => ?_) (fun c_9 => ?_)
        · rw [fa_eq] at c_9
          exact ok_ret ⟨(by (try dsimp only); omega), hB, hF, hPI, hPA, (by (try dsimp only); first | exact ⟨by omega, by omega, fun _ _ => rfl, F50.rf, Int.le_refl _⟩ | exact ⟨by omega, by omega, fun _ _ => rfl, F50.rf, by omega⟩)⟩
        · rw [fa_eq] at c_9
          refine ok_ix ⟨by omega, by omega⟩ ?_
          refine ok_lt fun v_11 e_v_11 => ?_
          have b_v_11 : 0 ≤ v_11.toInt ∧ v_11.toInt ≤ 255 := by rw [e_v_11]; exact gX_47 hB _
          have q_v_11 : v_11.toInt = (σ.1 47 x1.toNatClampNeg).toInt := by rw [e_v_11]
          refine ok_ix ⟨by omega, by omega⟩ ?_
          have g_10 := gX_48 hB (x1.toNatClampNeg)
          refine ok_lt fun v_12 e_v_12 => ?_
          have b_v_12 : 0 ≤ v_12.toInt ∧ v_12.toInt ≤ 999 := by rw [e_v_12]; exact gX_48 hB _
          have q_v_12 : v_12.toInt = (σ.1 48 x1.toNatClampNeg).toInt := by rw [e_v_12]
          have hU : opU v_8 := x_v_9.mp (by omega)
          have z12 : v_12.toInt < x1.toInt := by have h9 := (hPI x1.toNatClampNeg).2.2.2.2.1 (Or.inl (by rw [← e_v_8]; exact hU)); rw [← e_v_12] at h9; omega
          have c12 := clamp_I (x := v_12) (by omega)
          have px : (σ.1 50 x1.toNatClampNeg).toInt = 1 + (σ.1 50 v_12.toNatClampNeg).toInt := by rw [o1.2.2, ← e_v_8, pex_U hU, ← e_v_12]
          obtain ⟨t_11, ht_11, g_11⟩ : ∃ t : Int, (x4 + 1).toInt = t ∧ t = x4.toInt + (1 : Int32).toInt := ⟨_, rfl, by have h9 := fb_addI (x := x4) (y := (1 : Int32)) (by omega) (by omega); exact h9⟩
          refine ok_calv (ih (x1 := v_12) (x2 := x2) (x3 := x3) (x4 := (x4 + 1)) (σ := σ) hB hPI hPA (by omega) (by omega) (by omega) (by rw [ht_11]; omega) (by omega) (by omega) (by first | exact hby | exact by16) (by rw [ht_11]; omega)) (fun v_13 s_13 h_12 => ?_)
          obtain ⟨b_v_13, hB_s_13, hG_s_13, hPI_s_13, hPA_s_13, x_s_13⟩ := h_12
          (try dsimp only at b_v_13 hB_s_13 hG_s_13 hPI_s_13 hPA_s_13 x_s_13)
          have hF_s_13 : FR [46, 47, 48, 49, 50, 51] [] σ s_13 := FR.cal hF hG_s_13 rfl rfl
          have hT : T1 (s_13.1 46 0).toInt v_11 v_13 0 := t1_op (Or.inl (by rw [e_v_11, ← e_v_8]; exact hU)) (by omega) (gX_46 hB_s_13 0).2 (fun q => by rw [e_v_11, ← e_v_8] at q; unfold opU at hU; unfold opB at q; omega)
          have F13 := x_s_13.2.2.2.1
          have L13 := x_s_13.2.2.2.2
          have hU11 : opU v_11 := by rw [e_v_11, ← e_v_8]; exact hU
          have hS9 : SGN v_11 := Or.inr (Or.inl hU11)
          have pe : pex v_11.toInt (s_13.1 50 v_13.toNatClampNeg).toInt (s_13.1 50 (0 : Int32).toNatClampNeg).toInt = 1 + (s_13.1 50 v_13.toNatClampNeg).toInt := pex_U hU11
          have x_s_13 : (σ.1 46 0).toInt ≤ (s_13.1 46 0).toInt ∧ v_13.toInt < (s_13.1 46 0).toInt ∧ ∀ i : Nat, (i : Int) < (σ.1 46 0).toInt → s_13.1 47 i = σ.1 47 i := ⟨x_s_13.1, x_s_13.2.1, x_s_13.2.2.1⟩
          refine ok_calv (s_X7_make (x1 := v_11) (x2 := v_13) (x3 := (0 : Int32)) (σ := s_13) hB_s_13 hPI_s_13 hPA_s_13 (by omega) (by omega) (by omega) hT (by rw [pe]; omega) hS9) (fun v_14 s_14 h_13 => ?_)
          obtain ⟨b_v_14, hB_s_14, hG_s_14, hPI_s_14, hPA_s_14, x_s_14⟩ := h_13
          (try dsimp only at b_v_14 hB_s_14 hG_s_14 hPI_s_14 hPA_s_14 x_s_14)
          have hF_s_14 : FR [46, 47, 48, 49, 50, 51] [] σ s_14 := FR.cal hF_s_13 hG_s_14 rfl rfl
          have F14 := x_s_14.2.2.2.1
          have L14 := x_s_14.2.2.2.2
          rw [pe] at L14
          exact ok_ret ⟨(by (try dsimp only); omega), hB_s_14, hF_s_14, hPI_s_14, hPA_s_14, (by (try dsimp only); exact ⟨by omega, by omega, fun i hi => (x_s_14.2.2.1 i (by omega)).trans (x_s_13.2.2 i hi), F13.tr F14 (by omega), by omega⟩)⟩
      · rw [fa_eq] at c_7
        refine ok_ix ⟨by omega, by omega⟩ ?_
        have g_14 := gX_48 hB (x1.toNatClampNeg)
        refine ok_lt fun v_15 e_v_15 => ?_
        have b_v_15 : 0 ≤ v_15.toInt ∧ v_15.toInt ≤ 999 := by rw [e_v_15]; exact gX_48 hB _
        have q_v_15 : v_15.toInt = (σ.1 48 x1.toNatClampNeg).toInt := by rw [e_v_15]
        have hB2 : opB v_5 := x_v_6.mp (by omega)
        have z15 : v_15.toInt < x1.toInt := by have h9 := (hPI x1.toNatClampNeg).2.2.2.2.1 (Or.inr (by rw [← e_v_5]; exact hB2)); rw [← e_v_15] at h9; omega
        have c15 := clamp_I (x := v_15) (by omega)
        obtain ⟨t_15, ht_15, g_15⟩ : ∃ t : Int, (x4 + 1).toInt = t ∧ t = x4.toInt + (1 : Int32).toInt := ⟨_, rfl, by have h9 := fb_addI (x := x4) (y := (1 : Int32)) (by omega) (by omega); exact h9⟩
        refine ok_calv (ih (x1 := v_15) (x2 := x2) (x3 := x3) (x4 := (x4 + 1)) (σ := σ) hB hPI hPA (by omega) (by omega) (by omega) (by rw [ht_15]; omega) (by omega) (by omega) (by first | exact hby | exact by16) (by rw [ht_15]; omega)) (fun v_16 s_16 h_16 => ?_)
        obtain ⟨b_v_16, hB_s_16, hG_s_16, hPI_s_16, hPA_s_16, x_s_16⟩ := h_16
        (try dsimp only at b_v_16 hB_s_16 hG_s_16 hPI_s_16 hPA_s_16 x_s_16)
        have hF_s_16 : FR [46, 47, 48, 49, 50, 51] [] σ s_16 := FR.cal hF hG_s_16 rfl rfl
        have F16 := x_s_16.2.2.2.1
        have L16 := x_s_16.2.2.2.2
        have x_s_16 : (σ.1 46 0).toInt ≤ (s_16.1 46 0).toInt ∧ v_16.toInt < (s_16.1 46 0).toInt ∧ ∀ i : Nat, (i : Int) < (σ.1 46 0).toInt → s_16.1 47 i = σ.1 47 i := ⟨x_s_16.1, x_s_16.2.1, x_s_16.2.2.1⟩
        have by16 : (s_16.1 50 x3.toNatClampNeg).toInt ≤ 1 := by rw [(F16 _ (by omega)).1]; exact hby
        refine ok_ix ⟨by omega, by omega⟩ ?_
        have g_17 := gX_49 hB_s_16 (x1.toNatClampNeg)
        refine ok_lt fun v_17 e_v_17 => ?_
        have b_v_17 : 0 ≤ v_17.toInt ∧ v_17.toInt ≤ 511 := by rw [e_v_17]; exact gX_49 hB_s_16 _
        have z17 : v_17.toInt < x1.toInt := by have h9 := (hPI_s_16 x1.toNatClampNeg).2.2.2.2.2 (by rw [x_s_16.2.2 _ (by omega), ← e_v_5]; exact hB2); rw [← e_v_17] at h9; omega
        have c17 := clamp_I (x := v_17) (by omega)
        have q17 := hPA_s_16.1 x1.toNatClampNeg (by omega)
        have s17 : s_16.1 47 x1.toNatClampNeg = v_5 := by rw [x_s_16.2.2 _ (by omega), e_v_5]
        refine ok_calv (ih (x1 := v_17) (x2 := x2) (x3 := x3) (x4 := (x4 + 1)) (σ := s_16) hB_s_16 hPI_s_16 hPA_s_16 (by omega) (by omega) (by omega) (by rw [ht_15]; omega) (by omega) (by omega) (by first | exact hby | exact by16) (by rw [ht_15]; omega)) (fun v_18 s_18 h_18 => ?_)
        obtain ⟨b_v_18, hB_s_18, hG_s_18, hPI_s_18, hPA_s_18, x_s_18⟩ := h_18
        (try dsimp only at b_v_18 hB_s_18 hG_s_18 hPI_s_18 hPA_s_18 x_s_18)
        have hF_s_18 : FR [46, 47, 48, 49, 50, 51] [] σ s_18 := FR.cal hF_s_16 hG_s_18 rfl rfl
        have F18 := x_s_18.2.2.2.1
        have L18 := x_s_18.2.2.2.2
        have x_s_18 : (s_16.1 46 0).toInt ≤ (s_18.1 46 0).toInt ∧ v_18.toInt < (s_18.1 46 0).toInt ∧ ∀ i : Nat, (i : Int) < (s_16.1 46 0).toInt → s_18.1 47 i = s_16.1 47 i := ⟨x_s_18.1, x_s_18.2.1, x_s_18.2.2.1⟩
        have c16 := clamp_I (x := v_16) (by omega)
        have M16 : (s_18.1 50 v_16.toNatClampNeg).toInt = (s_16.1 50 v_16.toNatClampNeg).toInt := by rw [(F18 _ (by omega)).1]
        refine ok_ix ⟨by omega, by omega⟩ ?_
        have g_19 := gX_47 hB_s_18 (x1.toNatClampNeg)
        refine ok_lt fun v_19 e_v_19 => ?_
        have b_v_19 : 0 ≤ v_19.toInt ∧ v_19.toInt ≤ 255 := by rw [e_v_19]; exact gX_47 hB_s_18 _
        have e19 : v_19 = v_5 := by rw [e_v_19, x_s_18.2.2 _ (by omega), s17]
        have hB3 : opB v_19 := by rw [e_v_19, x_s_18.2.2 _ (by omega), x_s_16.2.2 _ (by omega), ← e_v_5]; exact hB2
        have hT : T1 (s_18.1 46 0).toInt v_19 v_16 v_18 := t1_op (Or.inr hB3) (by omega) (gX_46 hB_s_18 0).2 (fun _ => by omega)
        have hS9 : SGN v_19 := Or.inr (Or.inr hB3)
        have pe : pex v_19.toInt (s_18.1 50 v_16.toNatClampNeg).toInt (s_18.1 50 v_18.toNatClampNeg).toInt = 1 + (s_18.1 50 v_16.toNatClampNeg).toInt + (s_18.1 50 v_18.toNatClampNeg).toInt := pex_B hB3
        have pr : (s_16.1 50 v_17.toNatClampNeg).toInt = (s_16.1 50 (s_16.1 49 x1.toNatClampNeg).toNatClampNeg).toInt := by rw [e_v_17]
        have p48 : s_16.1 48 x1.toNatClampNeg = σ.1 48 x1.toNatClampNeg ∧ s_16.1 49 x1.toNatClampNeg = σ.1 49 x1.toNatClampNeg := (F16 _ (by omega)).2
        have px : (σ.1 50 x1.toNatClampNeg).toInt = 1 + (σ.1 50 v_15.toNatClampNeg).toInt + (s_16.1 50 v_17.toNatClampNeg).toInt := by have q := q17.2.2; rw [s17, pex_B hB2, p48.1, ← e_v_15, ← pr, (F16 _ (by omega)).1, (F16 _ (by omega)).1] at q; exact q
        refine ok_calv (s_X7_make (x1 := v_19) (x2 := v_16) (x3 := v_18) (σ := s_18) hB_s_18 hPI_s_18 hPA_s_18 (by omega) (by omega) (by omega) hT (by rw [pe]; omega) hS9) (fun v_20 s_20 h_20 => ?_)
        obtain ⟨b_v_20, hB_s_20, hG_s_20, hPI_s_20, hPA_s_20, x_s_20⟩ := h_20
        (try dsimp only at b_v_20 hB_s_20 hG_s_20 hPI_s_20 hPA_s_20 x_s_20)
        have hF_s_20 : FR [46, 47, 48, 49, 50, 51] [] σ s_20 := FR.cal hF_s_18 hG_s_20 rfl rfl
        have F20 := x_s_20.2.2.2.1
        have L20 := x_s_20.2.2.2.2
        rw [pe] at L20
        have x_s_20 : (s_18.1 46 0).toInt ≤ (s_20.1 46 0).toInt ∧ v_20.toInt < (s_20.1 46 0).toInt ∧ ∀ i : Nat, (i : Int) < (s_18.1 46 0).toInt → s_20.1 47 i = s_18.1 47 i := ⟨x_s_20.1, x_s_20.2.1, x_s_20.2.2.1⟩
        exact ok_ret ⟨(by (try dsimp only); omega), hB_s_20, hF_s_20, hPI_s_20, hPA_s_20, (by (try dsimp only); exact ⟨by omega, by omega, fun i hi => (x_s_20.2.2 i (by omega)).trans ((x_s_18.2.2 i (by omega)).trans (x_s_16.2.2 i hi)), (F16.tr F18 (by omega)).tr F20 (by omega), by omega⟩)⟩
theorem s_X7_replace {x1 : Int32} {x2 : Int32} {x3 : Int32} {x4 : Int32} {σ : Sto} (hB : BX σ) (hPI : PI σ) (hPA : PA σ) (p_x1 : 0 ≤ x1.toInt ∧ x1.toInt ≤ 511) (p_x2 : 0 ≤ x2.toInt ∧ x2.toInt ≤ 5) (p_x3 : 0 ≤ x3.toInt ∧ x3.toInt ≤ 511) (p_x4 : 0 ≤ x4.toInt ∧ x4.toInt ≤ 61) (hx1 : x1.toInt < (σ.1 46 0).toInt) (hx3 : x3.toInt < (σ.1 46 0).toInt) (hby : (σ.1 50 x3.toNatClampNeg).toInt ≤ 1) (hmu : (63 - x4.toInt).toNat ≤ 250) : OK (f_X7_replace 250 x1 x2 x3 x4 σ) (fun r => (0 ≤ r.1.toInt ∧ r.1.toInt ≤ 511) ∧ BX r.2 ∧ FR [46, 47, 48, 49, 50, 51] [] σ r.2 ∧ PI r.2 ∧ PA r.2 ∧ ((σ.1 46 0).toInt ≤ (r.2.1 46 0).toInt ∧ r.1.toInt < (r.2.1 46 0).toInt ∧ (∀ i : Nat, (i : Int) < (σ.1 46 0).toInt → r.2.1 47 i = σ.1 47 i) ∧ F50 σ r.2 ∧ (r.2.1 50 r.1.toNatClampNeg).toInt ≤ (σ.1 50 x1.toNatClampNeg).toInt)) := sd_X7_replace 250 hB hPI hPA p_x1 p_x2 p_x3 p_x4 hx1 hx3 hby hmu

set_option maxHeartbeats 4000000 in
theorem s_X1_replaceAbove {x1 : Int32} {x2 : Int32} {x3 : Int32} {σ : Sto} (hB : BX σ) (hPI : PI σ) (hSI : SI σ) (hKI : KI σ) (hPA : PA σ) (hES : ES σ) (p_x1 : 0 ≤ x1.toInt ∧ x1.toInt ≤ 39) (p_x2 : 0 ≤ x2.toInt ∧ x2.toInt ≤ 5) (p_x3 : 0 ≤ x3.toInt ∧ x3.toInt ≤ 511) (hx3 : x3.toInt < (σ.1 46 0).toInt) (ht : (σ.1 57 x1.toNatClampNeg).toInt < (σ.1 46 0).toInt) (hby : (σ.1 50 x3.toNatClampNeg).toInt ≤ 1) : OK (f_X1_replaceAbove x1 x2 x3 σ) (fun s => BX s ∧ FR [46, 47, 48, 49, 50, 51, 57, 60] [] σ s ∧ PI s ∧ SI s ∧ KI s ∧ PA s ∧ ES s ∧ ((σ.1 46 0).toInt ≤ (s.1 46 0).toInt ∧ (s.1 57 x1.toNatClampNeg).toInt < (s.1 46 0).toInt ∧ (∀ q : Nat, q ≠ x1.toNatClampNeg → s.1 57 q = σ.1 57 q))) := by
  unfold f_X1_replaceAbove
  have hF : FR [46, 47, 48, 49, 50, 51, 57, 60] [] σ σ := FR.rf
  have k_m1 : ((-1) : Int32).toInt = -1 := by decide +kernel
  have k_0 : (0 : Int32).toInt = 0 := by decide +kernel
  have k_1 : (1 : Int32).toInt = 1 := by decide +kernel
  have cx3 := clamp_I (x := x3) (by omega)
  have hW57_0 : ∀ q : Nat, q ≠ x1.toNatClampNeg → σ.1 57 q = σ.1 57 q := fun _ _ => rfl
  obtain ⟨t_1, ht_1, g_1⟩ : ∃ t : Int, (x2 + 1).toInt = t ∧ t = x2.toInt + (1 : Int32).toInt := ⟨_, rfl, by have h9 := fb_addI (x := x2) (y := (1 : Int32)) (by omega) (by omega); exact h9⟩
  refine ok_lt fun x4_1 e_x4_1 => ?_
  have q_x4_1 : x4_1.toInt = t_1 := by rw [e_x4_1]; exact ht_1
  refine ok_itr2 (fun (n : Nat) (x4_2 : Int32) (s_2 : Sto) => n = (9 - x4_2.toInt).toNat ∧ (1 ≤ x4_2.toInt ∧ x4_2.toInt ≤ 8) ∧ (BX s_2) ∧ (FR [46, 47, 48, 49, 50, 51, 57, 60] [] σ s_2) ∧ (PI s_2) ∧ (SI s_2) ∧ (KI s_2) ∧ (PA s_2) ∧ (ES s_2) ∧ (∀ q : Nat, q ≠ x1.toNatClampNeg → s_2.1 57 q = σ.1 57 q) ∧ ((σ.1 46 0).toInt ≤ (s_2.1 46 0).toInt) ∧ ((s_2.1 57 x1.toNatClampNeg).toInt = (σ.1 57 x1.toNatClampNeg).toInt) ∧ ((s_2.1 50 x3.toNatClampNeg).toInt ≤ 1)) ?_ (n := _) ⟨rfl, (by omega), hB, hF, hPI, hSI, hKI, hPA, hES, hW57_0, (by omega), rfl, hby⟩ (show _ < 10000000 by omega)
  intro a_5 n x4_2 s_2 hI ih_a_5
  obtain ⟨hn_a_5, b_x4_2, hB_s_2, hF_s_2, hPI_s_2, hSI_s_2, hKI_s_2, hPA_s_2, hES_s_2, hW57_s_2, hsz, h57, hb2⟩ := hI
  have f_s_2_61 : (s_2.1 61 0).toInt = (σ.1 61 0).toInt := by rw [hF_s_2.1 61 (by decide)]
  have g_3 := gX_61 hB_s_2 0
  have g_4 : (s_2.1 61 0).toInt = (σ.1 61 0).toInt := by rw [hF_s_2.1 61 (by decide)]
  have g_5 := gX_61 hB 0
  refine ok_ite (fun c_2 => ?_) (fun c_2 => ?_)
  · rw [fa_le] at c_2
    refine ok_ix ⟨by omega, by omega⟩ ?_
    have g_6 := gX_57 hB_s_2 (x1.toNatClampNeg)
    refine ok_lt fun v_4 e_v_4 => ?_
    have b_v_4 : (-1) ≤ v_4.toInt ∧ v_4.toInt ≤ 511 := by rw [e_v_4]; exact gX_57 hB_s_2 _
    have q_v_4 : v_4.toInt = (s_2.1 57 x1.toNatClampNeg).toInt := by rw [e_v_4]
    have z4 : v_4.toInt = (s_2.1 57 x1.toNatClampNeg).toInt := by rw [e_v_4]
    refine ok_ite (fun c_7 => ?_) (fun c_7 => ?_)
    · rw [fa_eq] at c_7
      exact ok_ret ⟨hB_s_2, hF_s_2, hPI_s_2, hSI_s_2, hKI_s_2, hPA_s_2, hES_s_2, ⟨by (try dsimp only); omega, by (try dsimp only); omega, hW57_s_2⟩⟩
    · rw [fa_eq] at c_7
      refine ok_ix ⟨by omega, by omega⟩ ?_
      refine ok_lt fun v_6 e_v_6 => ?_
      have b_v_6 : (-1) ≤ v_6.toInt ∧ v_6.toInt ≤ 511 := by rw [e_v_6]; exact gX_57 hB_s_2 _
      have q_v_6 : v_6.toInt = (s_2.1 57 x1.toNatClampNeg).toInt := by rw [e_v_6]
      have z6 : v_6.toInt = (s_2.1 57 x1.toNatClampNeg).toInt := by rw [e_v_6]
      refine ok_calv (s_X7_replace (x1 := v_6) (x2 := x2) (x3 := x3) (x4 := (0 : Int32)) (σ := s_2) hB_s_2 hPI_s_2 hPA_s_2 (by omega) (by omega) (by omega) (by omega) (by omega) (by omega) (by omega) (by omega)) (fun v_7 s_7 h_8 => ?_)
      obtain ⟨b_v_7, hB_s_7, hG_s_7, hPI_s_7, hPA_s_7, x_s_7⟩ := h_8
      (try dsimp only at b_v_7 hB_s_7 hG_s_7 hPI_s_7 hPA_s_7 x_s_7)
      have hF_s_7 : FR [46, 47, 48, 49, 50, 51, 57, 60] [] σ s_7 := FR.cal hF_s_2 hG_s_7 rfl rfl
      have f_s_7_61 : (s_7.1 61 0).toInt = (σ.1 61 0).toInt := by rw [hF_s_7.1 61 (by decide)]
      have hSI_s_7 : SI s_7 := SI.fr hG_s_7 (by decide) hSI_s_2
      have hW57_s_7 : ∀ q : Nat, q ≠ x1.toNatClampNeg → s_7.1 57 q = σ.1 57 q := by rw [hG_s_7.1 57 (by decide)]; exact hW57_s_2
      have hKI_s_7 : KI s_7 := KI.up hKI_s_2 (hG_s_7.1 60 (by decide)) (hG_s_7.1 61 (by decide)) x_s_7.1
      have hES_s_7 : ES s_7 := ES.up hES_s_2 (hG_s_7.1 52 (by decide)) (hG_s_7.1 55 (by decide)) x_s_7.1
      refine ok_ix ⟨by omega, by omega⟩ ?_
      refine ok_lt fun s_8 e_s_8 => ?_
      have hB_s_8 : BX s_8 := by rw [e_s_8]; exact pX_57 hB_s_7 (by omega)
      have hF_s_8 : FR [46, 47, 48, 49, 50, 51, 57, 60] [] σ s_8 := by rw [e_s_8]; exact FR.st hF_s_7 (by decide)
      have w_s_8_46 : (s_8.1 46 0).toInt = (s_7.1 46 0).toInt := by rw [e_s_8]; rfl
      have f_s_8_61 : (s_8.1 61 0).toInt = (σ.1 61 0).toInt := by rw [hF_s_8.1 61 (by decide)]
      have hPI_s_8 : PI s_8 := by rw [e_s_8]; exact PI.st1 (by decide) hPI_s_7
      have hPA_s_8 : PA s_8 := by rw [e_s_8]; exact PA.st1 (by decide) hPA_s_7
      have hSI_s_8 : SI s_8 := by rw [e_s_8]; exact SI.st1 (by decide) hSI_s_7
      have hKI_s_8 : KI s_8 := by rw [e_s_8]; exact KI.st1 (by decide) hKI_s_7
      have hES_s_8 : ES s_8 := by rw [e_s_8]; exact ES.st1 (by decide) hES_s_7
      have z8 : (s_8.1 57 x1.toNatClampNeg).toInt = v_7.toInt := by rw [e_s_8, sti_s]
      have hW57_s_8 : ∀ q : Nat, q ≠ x1.toNatClampNeg → s_8.1 57 q = σ.1 57 q := fun q hq => by rw [e_s_8, sti_j hq]; exact hW57_s_7 q hq
      exact ok_ret ⟨hB_s_8, hF_s_8, hPI_s_8, hSI_s_8, hKI_s_8, hPA_s_8, hES_s_8, ⟨by (try dsimp only); omega, by (try dsimp only); omega, hW57_s_8⟩⟩
  · rw [fa_le] at c_2
    refine ok_ix ⟨by omega, by omega⟩ ?_
    have g_9 := gX_60 hB_s_2 (x4_2.toNatClampNeg)
    refine ok_lt fun v_9 e_v_9 => ?_
    have b_v_9 : 0 ≤ v_9.toInt ∧ v_9.toInt ≤ 511 := by rw [e_v_9]; exact gX_60 hB_s_2 _
    have q_v_9 : v_9.toInt = (s_2.1 60 x4_2.toNatClampNeg).toInt := by rw [e_v_9]
    have z9 : v_9.toInt < (s_2.1 46 0).toInt := by rw [e_v_9]; exact hKI_s_2 _ (by have := clamp_I (x := x4_2) (by omega); omega)
    refine ok_calv (s_X7_replace (x1 := v_9) (x2 := x2) (x3 := x3) (x4 := (0 : Int32)) (σ := s_2) hB_s_2 hPI_s_2 hPA_s_2 (by omega) (by omega) (by omega) (by omega) (by omega) (by omega) (by omega) (by omega)) (fun v_10 s_10 h_10 => ?_)
    obtain ⟨b_v_10, hB_s_10, hG_s_10, hPI_s_10, hPA_s_10, x_s_10⟩ := h_10
    (try dsimp only at b_v_10 hB_s_10 hG_s_10 hPI_s_10 hPA_s_10 x_s_10)
    have hF_s_10 : FR [46, 47, 48, 49, 50, 51, 57, 60] [] σ s_10 := FR.cal hF_s_2 hG_s_10 rfl rfl
    have f_s_10_61 : (s_10.1 61 0).toInt = (σ.1 61 0).toInt := by rw [hF_s_10.1 61 (by decide)]
    have hSI_s_10 : SI s_10 := SI.fr hG_s_10 (by decide) hSI_s_2
    have hW57_s_10 : ∀ q : Nat, q ≠ x1.toNatClampNeg → s_10.1 57 q = σ.1 57 q := by rw [hG_s_10.1 57 (by decide)]; exact hW57_s_2
    have F10 := x_s_10.2.2.2.1
    have hKI_s_10 : KI s_10 := KI.up hKI_s_2 (hG_s_10.1 60 (by decide)) (hG_s_10.1 61 (by decide)) x_s_10.1
    have hES_s_10 : ES s_10 := ES.up hES_s_2 (hG_s_10.1 52 (by decide)) (hG_s_10.1 55 (by decide)) x_s_10.1
    refine ok_ix ⟨by omega, by omega⟩ ?_
    refine ok_lt fun s_11 e_s_11 => ?_
    have hB_s_11 : BX s_11 := by rw [e_s_11]; exact pX_60 hB_s_10 (by omega)
    have hF_s_11 : FR [46, 47, 48, 49, 50, 51, 57, 60] [] σ s_11 := by rw [e_s_11]; exact FR.st hF_s_10 (by decide)
    have w_s_11_46 : (s_11.1 46 0).toInt = (s_10.1 46 0).toInt := by rw [e_s_11]; rfl
    have f_s_11_61 : (s_11.1 61 0).toInt = (σ.1 61 0).toInt := by rw [hF_s_11.1 61 (by decide)]
    have hPI_s_11 : PI s_11 := by rw [e_s_11]; exact PI.st1 (by decide) hPI_s_10
    have hPA_s_11 : PA s_11 := by rw [e_s_11]; exact PA.st1 (by decide) hPA_s_10
    have hSI_s_11 : SI s_11 := by rw [e_s_11]; exact SI.st1 (by decide) hSI_s_10
    have hW57_s_11 : ∀ q : Nat, q ≠ x1.toNatClampNeg → s_11.1 57 q = σ.1 57 q := by rw [e_s_11]; exact hW57_s_10
    have hES_s_11 : ES s_11 := by rw [e_s_11]; exact ES.st1 (by decide) hES_s_10
    have hKI_s_11 : KI s_11 := KI.put hKI_s_10 e_s_11 x_s_10.2.1
    obtain ⟨t_11, ht_11, g_11⟩ : ∃ t : Int, (x4_2 + 1).toInt = t ∧ t = x4_2.toInt + (1 : Int32).toInt := ⟨_, rfl, by have h9 := fb_addI (x := x4_2) (y := (1 : Int32)) (by omega) (by omega); exact h9⟩
    refine ok_lt fun x4_12 e_x4_12 => ?_
    have q_x4_12 : x4_12.toInt = t_11 := by rw [e_x4_12]; exact ht_11
    have h57n : (s_11.1 57 x1.toNatClampNeg).toInt = (σ.1 57 x1.toNatClampNeg).toInt := by rw [e_s_11, show (sti s_10 60 x4_2.toNatClampNeg v_10).1 57 = s_10.1 57 from sti_o (by decide), hG_s_10.1 57 (by decide)]; exact h57
    exact ih_a_5 _ x4_12 s_11 (by rw [hn_a_5]; omega) ⟨rfl, (by omega), hB_s_11, hF_s_11, hPI_s_11, hSI_s_11, hKI_s_11, hPA_s_11, hES_s_11, hW57_s_11, (by omega), h57n, (by rw [show s_11.1 50 = s_10.1 50 by rw [e_s_11]; rfl, (F10 _ (by omega)).1]; exact hb2)⟩

set_option maxHeartbeats 4000000 in
theorem s_X1_handOver {x1 : Int32} {σ : Sto} (hB : BX σ) (hPI : PI σ) (hSI : SI σ) (hKI : KI σ) (hPA : PA σ) (hES : ES σ) (p_x1 : 0 ≤ x1.toInt ∧ x1.toInt ≤ 39) (ht : (σ.1 57 x1.toNatClampNeg).toInt < (σ.1 46 0).toInt) (hh : (σ.1 61 0).toInt ≤ 6) : OK (f_X1_handOver x1 σ) (fun s => BX s ∧ FR [46, 47, 48, 49, 50, 51, 52, 53, 54, 55, 57, 58, 60] [] σ s ∧ PI s ∧ SI s ∧ KI s ∧ PA s ∧ ES s ∧ (σ.1 52 0).toInt ≤ (s.1 52 0).toInt ∧ ((σ.1 46 0).toInt ≤ (s.1 46 0).toInt ∧ (s.1 57 x1.toNatClampNeg).toInt < (s.1 46 0).toInt ∧ (∀ q : Nat, q ≠ x1.toNatClampNeg → s.1 57 q = σ.1 57 q))) := by
  unfold f_X1_handOver
  have hF : FR [46, 47, 48, 49, 50, 51, 52, 53, 54, 55, 57, 58, 60] [] σ σ := FR.rf
  have k_m1 : ((-1) : Int32).toInt = -1 := by decide +kernel
  have k_0 : (0 : Int32).toInt = 0 := by decide +kernel
  have k_1 : (1 : Int32).toInt = 1 := by decide +kernel
  have k_84 : (84 : Int32).toInt = 84 := by decide +kernel
  have hW57_0 : ∀ q : Nat, q ≠ x1.toNatClampNeg → σ.1 57 q = σ.1 57 q := fun _ _ => rfl
  refine ok_itr2 (fun (n : Nat) (x2_1 : Int32) (s_1 : Sto) => n = (9 - x2_1.toInt).toNat ∧ (0 ≤ x2_1.toInt ∧ x2_1.toInt ≤ 8) ∧ (BX s_1) ∧ (FR [46, 47, 48, 49, 50, 51, 52, 53, 54, 55, 57, 58, 60] [] σ s_1) ∧ ((σ.1 52 0).toInt ≤ (s_1.1 52 0).toInt) ∧ (PI s_1) ∧ (SI s_1) ∧ (KI s_1) ∧ (PA s_1) ∧ (ES s_1) ∧ (∀ q : Nat, q ≠ x1.toNatClampNeg → s_1.1 57 q = σ.1 57 q) ∧ ((σ.1 46 0).toInt ≤ (s_1.1 46 0).toInt) ∧ ((s_1.1 57 x1.toNatClampNeg).toInt < (s_1.1 46 0).toInt)) ?_ (n := _) ⟨rfl, (by omega), hB, hF, (by omega), hPI, hSI, hKI, hPA, hES, hW57_0, (by omega), (by omega)⟩ (show _ < 10000000 by omega)
  intro a_2 n x2_1 s_1 hI ih_a_2
  obtain ⟨hn_a_2, b_x2_1, hB_s_1, hF_s_1, m52_s_1, hPI_s_1, hSI_s_1, hKI_s_1, hPA_s_1, hES_s_1, hW57_s_1, hsz, htb⟩ := hI
  have f_s_1_61 : (s_1.1 61 0).toInt = (σ.1 61 0).toInt := by rw [hF_s_1.1 61 (by decide)]
  have g_2 := gX_61 hB_s_1 0
  have g_3 : (s_1.1 61 0).toInt = (σ.1 61 0).toInt := by rw [hF_s_1.1 61 (by decide)]
  have g_4 := gX_61 hB 0
  refine ok_ite (fun c_1 => ?_) (fun c_1 => ?_)
  · rw [fa_le] at c_1
    refine ok_ix ⟨by omega, by omega⟩ ?_
    have g_5 := gX_57 hB_s_1 (x1.toNatClampNeg)
    refine ok_lt fun v_3 e_v_3 => ?_
    have b_v_3 : (-1) ≤ v_3.toInt ∧ v_3.toInt ≤ 511 := by rw [e_v_3]; exact gX_57 hB_s_1 _
    have q_v_3 : v_3.toInt = (s_1.1 57 x1.toNatClampNeg).toInt := by rw [e_v_3]
    refine ok_ite (fun c_6 => ?_) (fun c_6 => ?_)
    · rw [fa_eq] at c_6
      exact ok_ret ⟨hB_s_1, hF_s_1, hPI_s_1, hSI_s_1, hKI_s_1, hPA_s_1, hES_s_1, (by (try dsimp only); omega), ⟨by (try dsimp only); omega, by (try dsimp only); omega, hW57_s_1⟩⟩
    · rw [fa_eq] at c_6
      refine ok_ix ⟨by omega, by omega⟩ ?_
      refine ok_lt fun v_5 e_v_5 => ?_
      have b_v_5 : (-1) ≤ v_5.toInt ∧ v_5.toInt ≤ 511 := by rw [e_v_5]; exact gX_57 hB_s_1 _
      have q_v_5 : v_5.toInt = (s_1.1 57 x1.toNatClampNeg).toInt := by rw [e_v_5]
      refine ok_calp (s_X7_hasEffects (x1 := v_5) (σ := s_1) hB_s_1 (by omega)) (fun v_6 h_7 => ?_)
      have b_v_6 := h_7
      (try dsimp only at b_v_6)
      refine ok_ite (fun c_8 => ?_) (fun c_8 => ?_)
      · rw [fa_eq] at c_8
        exact ok_ret ⟨hB_s_1, hF_s_1, hPI_s_1, hSI_s_1, hKI_s_1, hPA_s_1, hES_s_1, (by (try dsimp only); omega), ⟨by (try dsimp only); omega, by (try dsimp only); omega, hW57_s_1⟩⟩
      · rw [fa_eq] at c_8
        refine ok_ix ⟨by omega, by omega⟩ ?_
        refine ok_lt fun v_8 e_v_8 => ?_
        have b_v_8 : (-1) ≤ v_8.toInt ∧ v_8.toInt ≤ 511 := by rw [e_v_8]; exact gX_57 hB_s_1 _
        have q_v_8 : v_8.toInt = (s_1.1 57 x1.toNatClampNeg).toInt := by rw [e_v_8]
        have z8b : v_8.toInt = (s_1.1 57 x1.toNatClampNeg).toInt := by rw [e_v_8]
        refine ok_calv (s_X1_putAside (x1 := v_8) (σ := s_1) hB_s_1 hPI_s_1 hSI_s_1 hKI_s_1 hPA_s_1 hES_s_1 (by omega) (by omega)) (fun v_9 s_9 h_9 => ?_)
        obtain ⟨b_v_9, hB_s_9, hG_s_9, hPI_s_9, hSI_s_9, hKI_s_9, hPA_s_9, hES_s_9, m52_s_9, x_s_9⟩ := h_9
        (try dsimp only at b_v_9 hB_s_9 hG_s_9 hPI_s_9 hSI_s_9 hKI_s_9 hPA_s_9 hES_s_9 m52_s_9 x_s_9)
        have hF_s_9 : FR [46, 47, 48, 49, 50, 51, 52, 53, 54, 55, 57, 58, 60] [] σ s_9 := FR.cal hF_s_1 hG_s_9 rfl rfl
        have f_s_9_61 : (s_9.1 61 0).toInt = (σ.1 61 0).toInt := by rw [hF_s_9.1 61 (by decide)]
        have z57_s_9 : (s_9.1 57 x1.toNatClampNeg).toInt = (s_1.1 57 x1.toNatClampNeg).toInt := by rw [hG_s_9.1 57 (by decide)]
        have hW57_s_9 : ∀ q : Nat, q ≠ x1.toNatClampNeg → s_9.1 57 q = σ.1 57 q := by rw [hG_s_9.1 57 (by decide)]; exact hW57_s_1
        refine ok_ix ⟨by omega, by omega⟩ ?_
        refine ok_lt fun s_10 e_s_10 => ?_
        have hB_s_10 : BX s_10 := by rw [e_s_10]; exact pX_57 hB_s_9 (by omega)
        have hF_s_10 : FR [46, 47, 48, 49, 50, 51, 52, 53, 54, 55, 57, 58, 60] [] σ s_10 := by rw [e_s_10]; exact FR.st hF_s_9 (by decide)
        have w_s_10_46 : (s_10.1 46 0).toInt = (s_9.1 46 0).toInt := by rw [e_s_10]; rfl
        have w_s_10_52 : (s_10.1 52 0).toInt = (s_9.1 52 0).toInt := by rw [e_s_10]; rfl
        have f_s_10_61 : (s_10.1 61 0).toInt = (σ.1 61 0).toInt := by rw [hF_s_10.1 61 (by decide)]
        have hPI_s_10 : PI s_10 := by rw [e_s_10]; exact PI.st1 (by decide) hPI_s_9
        have hSI_s_10 : SI s_10 := by rw [e_s_10]; exact SI.st1 (by decide) hSI_s_9
        have hKI_s_10 : KI s_10 := by rw [e_s_10]; exact KI.st1 (by decide) hKI_s_9
        have hPA_s_10 : PA s_10 := by rw [e_s_10]; exact PA.st1 (by decide) hPA_s_9
        have hES_s_10 : ES s_10 := by rw [e_s_10]; exact ES.st1 (by decide) hES_s_9
        have z8 : (s_10.1 57 x1.toNatClampNeg).toInt = v_9.toInt := by rw [e_s_10, sti_s]
        have hW57_s_10 : ∀ q : Nat, q ≠ x1.toNatClampNeg → s_10.1 57 q = σ.1 57 q := fun q hq => by rw [e_s_10, sti_j hq]; exact hW57_s_9 q hq
        exact ok_ret ⟨hB_s_10, hF_s_10, hPI_s_10, hSI_s_10, hKI_s_10, hPA_s_10, hES_s_10, (by (try dsimp only); omega), ⟨by (try dsimp only); omega, by (try dsimp only); omega, hW57_s_10⟩⟩
  · rw [fa_le] at c_1
    refine ok_calv (s_X7_make (x1 := (84 : Int32)) (x2 := x2_1) (x3 := (0 : Int32)) (σ := s_1) hB_s_1 hPI_s_1 hPA_s_1 (by omega) (by omega) (by omega) (t1_T (by omega) (by omega)) (by rw [pex_L (by omega)]; decide) (Or.inl (by omega))) (fun v_11 s_11 h_10 => ?_)
    obtain ⟨b_v_11, hB_s_11, hG_s_11, hPI_s_11, hPA_s_11, x_s_11⟩ := h_10
    (try dsimp only at b_v_11 hB_s_11 hG_s_11 hPI_s_11 hPA_s_11 x_s_11)
    have hF_s_11 : FR [46, 47, 48, 49, 50, 51, 52, 53, 54, 55, 57, 58, 60] [] σ s_11 := FR.cal hF_s_1 hG_s_11 rfl rfl
    have w_s_11_52 : (s_11.1 52 0).toInt = (s_1.1 52 0).toInt := by rw [hG_s_11.1 52 (by decide)]
    have f_s_11_61 : (s_11.1 61 0).toInt = (σ.1 61 0).toInt := by rw [hF_s_11.1 61 (by decide)]
    have z57_s_11 : (s_11.1 57 x1.toNatClampNeg).toInt = (s_1.1 57 x1.toNatClampNeg).toInt := by rw [hG_s_11.1 57 (by decide)]
    have hSI_s_11 : SI s_11 := SI.fr hG_s_11 (by decide) hSI_s_1
    have hW57_s_11 : ∀ q : Nat, q ≠ x1.toNatClampNeg → s_11.1 57 q = σ.1 57 q := by rw [hG_s_11.1 57 (by decide)]; exact hW57_s_1
    have hKI_s_11 : KI s_11 := KI.up hKI_s_1 (hG_s_11.1 60 (by decide)) (hG_s_11.1 61 (by decide)) x_s_11.1
    have hES_s_11 : ES s_11 := ES.up hES_s_1 (hG_s_11.1 52 (by decide)) (hG_s_11.1 55 (by decide)) x_s_11.1
    refine ok_ix ⟨by omega, by omega⟩ ?_
    have g_11 := gX_60 hB_s_11 (x2_1.toNatClampNeg)
    refine ok_lt fun v_12 e_v_12 => ?_
    have b_v_12 : 0 ≤ v_12.toInt ∧ v_12.toInt ≤ 511 := by rw [e_v_12]; exact gX_60 hB_s_11 _
    have q_v_12 : v_12.toInt = (s_11.1 60 x2_1.toNatClampNeg).toInt := by rw [e_v_12]
    refine ok_jnI1 (fun (s_13 : Sto) => True ∧ (BX s_13) ∧ (FR [46, 47, 48, 49, 50, 51, 52, 53, 54, 55, 57, 58, 60] [] σ s_13) ∧ ((σ.1 52 0).toInt ≤ (s_13.1 52 0).toInt) ∧ (PI s_13) ∧ (SI s_13) ∧ (KI s_13) ∧ (PA s_13) ∧ (ES s_13) ∧ (∀ q : Nat, q ≠ x1.toNatClampNeg → s_13.1 57 q = σ.1 57 q) ∧ ((σ.1 46 0).toInt ≤ (s_13.1 46 0).toInt ∧ (s_13.1 57 x1.toNatClampNeg).toInt < (s_13.1 46 0).toInt ∧ (s_13.1 61 0).toInt = (s_1.1 61 0).toInt)) ?_ ?_
    · intro s_13 hJ
      obtain ⟨-, hB_s_13, hF_s_13, m52_s_13, hPI_s_13, hSI_s_13, hKI_s_13, hPA_s_13, hES_s_13, hW57_s_13, jsz⟩ := hJ
      have f_s_13_61 : (s_13.1 61 0).toInt = (σ.1 61 0).toInt := by rw [hF_s_13.1 61 (by decide)]
      obtain ⟨t_12, ht_12, g_12⟩ : ∃ t : Int, (x2_1 + 1).toInt = t ∧ t = x2_1.toInt + (1 : Int32).toInt := ⟨_, rfl, by have h9 := fb_addI (x := x2_1) (y := (1 : Int32)) (by omega) (by omega); exact h9⟩
      refine ok_lt fun x2_14 e_x2_14 => ?_
      have q_x2_14 : x2_14.toInt = t_12 := by rw [e_x2_14]; exact ht_12
      exact ih_a_2 _ x2_14 s_13 (by rw [hn_a_2]; omega) ⟨rfl, (by omega), hB_s_13, hF_s_13, (by omega), hPI_s_13, hSI_s_13, hKI_s_13, hPA_s_13, hES_s_13, hW57_s_13, (by omega), (by omega)⟩
    · intro k_64 hk_k_64
      refine ok_ite (fun c_13 => ?_) (fun c_13 => ?_)
      · rw [fa_eq] at c_13
        exact hk_k_64 s_11 ⟨trivial, hB_s_11, hF_s_11, (by omega), hPI_s_11, hSI_s_11, hKI_s_11, hPA_s_11, hES_s_11, hW57_s_11, (by omega)⟩
      · rw [fa_eq] at c_13
        refine ok_calp (s_X1_isNeededAbove (x1 := x1) (x2 := x2_1) (σ := s_11) hB_s_11 (by omega) (by omega)) (fun v_16 h_14 => ?_)
        have b_v_16 := h_14
        (try dsimp only at b_v_16)
        refine ok_jnI1 (fun (s_17 : Sto) => True ∧ (BX s_17) ∧ (FR [46, 47, 48, 49, 50, 51, 52, 53, 54, 55, 57, 58, 60] [] σ s_17) ∧ ((σ.1 52 0).toInt ≤ (s_17.1 52 0).toInt) ∧ (PI s_17) ∧ (SI s_17) ∧ (KI s_17) ∧ (PA s_17) ∧ (ES s_17) ∧ (∀ q : Nat, q ≠ x1.toNatClampNeg → s_17.1 57 q = σ.1 57 q) ∧ ((σ.1 46 0).toInt ≤ (s_17.1 46 0).toInt ∧ (s_17.1 57 x1.toNatClampNeg).toInt < (s_17.1 46 0).toInt ∧ (s_17.1 61 0).toInt = (s_1.1 61 0).toInt)) ?_ ?_
        · intro s_17 hJ
          obtain ⟨-, hB_s_17, hF_s_17, m52_s_17, hPI_s_17, hSI_s_17, hKI_s_17, hPA_s_17, hES_s_17, hW57_s_17, jsz⟩ := hJ
          have f_s_17_61 : (s_17.1 61 0).toInt = (σ.1 61 0).toInt := by rw [hF_s_17.1 61 (by decide)]
          refine ok_ix ⟨by omega, by omega⟩ ?_
          have g_15 := gX_60 hB_s_17 (x2_1.toNatClampNeg)
          refine ok_lt fun v_18 e_v_18 => ?_
          have b_v_18 : 0 ≤ v_18.toInt ∧ v_18.toInt ≤ 511 := by rw [e_v_18]; exact gX_60 hB_s_17 _
          have q_v_18 : v_18.toInt = (s_17.1 60 x2_1.toNatClampNeg).toInt := by rw [e_v_18]
          have z18 : v_18.toInt < (s_17.1 46 0).toInt := by rw [e_v_18]; exact hKI_s_17 _ (by have := clamp_I (x := x2_1) (by omega); omega)
          refine ok_cals (s_X1_add (x1 := (1 : Int32)) (x2 := x2_1) (x3 := v_18) (σ := s_17) hB_s_17 hSI_s_17 hES_s_17 (by omega) (by omega) (by omega) (t2_T (by omega) (by omega) (by omega) (by omega)) (by omega)) (fun s_19 h_16 => ?_)
          obtain ⟨hB_s_19, hG_s_19, hSI_s_19, hES_s_19, m52_s_19⟩ := h_16
          (try dsimp only at hB_s_19 hG_s_19 hSI_s_19 hES_s_19 m52_s_19)
          have hF_s_19 : FR [46, 47, 48, 49, 50, 51, 52, 53, 54, 55, 57, 58, 60] [] σ s_19 := FR.cal hF_s_17 hG_s_19 rfl rfl
          have w_s_19_46 : (s_19.1 46 0).toInt = (s_17.1 46 0).toInt := by rw [hG_s_19.1 46 (by decide)]
          have f_s_19_61 : (s_19.1 61 0).toInt = (σ.1 61 0).toInt := by rw [hF_s_19.1 61 (by decide)]
          have z57_s_19 : (s_19.1 57 x1.toNatClampNeg).toInt = (s_17.1 57 x1.toNatClampNeg).toInt := by rw [hG_s_19.1 57 (by decide)]
          have hPI_s_19 : PI s_19 := PI.fr hG_s_19 (by decide) hPI_s_17
          have hKI_s_19 : KI s_19 := KI.fr hG_s_19 (by decide) hKI_s_17
          have hPA_s_19 : PA s_19 := PA.fr hG_s_19 (by decide) hPA_s_17
          have hW57_s_19 : ∀ q : Nat, q ≠ x1.toNatClampNeg → s_19.1 57 q = σ.1 57 q := by rw [hG_s_19.1 57 (by decide)]; exact hW57_s_17
          exact hk_k_64 s_19 ⟨trivial, hB_s_19, hF_s_19, (by omega), hPI_s_19, hSI_s_19, hKI_s_19, hPA_s_19, hES_s_19, hW57_s_19, (by omega)⟩
        · intro k_52 hk_k_52
          refine ok_ite (fun c_17 => ?_) (fun c_17 => ?_)
          · rw [fa_eq] at c_17
            exact hk_k_52 s_11 ⟨trivial, hB_s_11, hF_s_11, (by omega), hPI_s_11, hSI_s_11, hKI_s_11, hPA_s_11, hES_s_11, hW57_s_11, (by omega)⟩
          · rw [fa_eq] at c_17
            refine ok_calv (s_X1_putAside (x1 := v_11) (σ := s_11) hB_s_11 hPI_s_11 hSI_s_11 hKI_s_11 hPA_s_11 hES_s_11 (by omega) (by omega)) (fun v_21 s_21 h_18 => ?_)
            obtain ⟨b_v_21, hB_s_21, hG_s_21, hPI_s_21, hSI_s_21, hKI_s_21, hPA_s_21, hES_s_21, m52_s_21, x_s_21⟩ := h_18
            (try dsimp only at b_v_21 hB_s_21 hG_s_21 hPI_s_21 hSI_s_21 hKI_s_21 hPA_s_21 hES_s_21 m52_s_21 x_s_21)
            have hF_s_21 : FR [46, 47, 48, 49, 50, 51, 52, 53, 54, 55, 57, 58, 60] [] σ s_21 := FR.cal hF_s_11 hG_s_21 rfl rfl
            have f_s_21_61 : (s_21.1 61 0).toInt = (σ.1 61 0).toInt := by rw [hF_s_21.1 61 (by decide)]
            have z57_s_21 : (s_21.1 57 x1.toNatClampNeg).toInt = (s_11.1 57 x1.toNatClampNeg).toInt := by rw [hG_s_21.1 57 (by decide)]
            have hW57_s_21 : ∀ q : Nat, q ≠ x1.toNatClampNeg → s_21.1 57 q = σ.1 57 q := by rw [hG_s_21.1 57 (by decide)]; exact hW57_s_11
            refine ok_cals (s_X1_replaceAbove (x1 := x1) (x2 := x2_1) (x3 := v_21) (σ := s_21) hB_s_21 hPI_s_21 hSI_s_21 hKI_s_21 hPA_s_21 hES_s_21 (by omega) (by omega) (by omega) (by omega) (by omega) (by omega)) (fun s_22 h_19 => ?_)
            obtain ⟨hB_s_22, hG_s_22, hPI_s_22, hSI_s_22, hKI_s_22, hPA_s_22, hES_s_22, x_s_22⟩ := h_19
            (try dsimp only at hB_s_22 hG_s_22 hPI_s_22 hSI_s_22 hKI_s_22 hPA_s_22 hES_s_22 x_s_22)
            have hF_s_22 : FR [46, 47, 48, 49, 50, 51, 52, 53, 54, 55, 57, 58, 60] [] σ s_22 := FR.cal hF_s_21 hG_s_22 rfl rfl
            have w_s_22_52 : (s_22.1 52 0).toInt = (s_21.1 52 0).toInt := by rw [hG_s_22.1 52 (by decide)]
            have f_s_22_61 : (s_22.1 61 0).toInt = (σ.1 61 0).toInt := by rw [hF_s_22.1 61 (by decide)]
            have hW57_s_22 : ∀ q : Nat, q ≠ x1.toNatClampNeg → s_22.1 57 q = σ.1 57 q := fun q hq => (x_s_22.2.2 q hq).trans (hW57_s_21 q hq)
            exact hk_k_52 s_22 ⟨trivial, hB_s_22, hF_s_22, (by omega), hPI_s_22, hSI_s_22, hKI_s_22, hPA_s_22, hES_s_22, hW57_s_22, (by omega)⟩

set_option maxHeartbeats 4000000 in
theorem s_X1_pop {σ : Sto} (hB : BX σ) (hKI : KI σ) : OK (f_X1_pop σ) (fun r => (0 ≤ r.1.toInt ∧ r.1.toInt ≤ 511) ∧ BX r.2 ∧ FR [61] [] σ r.2 ∧ KI r.2 ∧ ((1 ≤ (σ.1 61 0).toInt → ((r.2.1 61 0).toInt = (σ.1 61 0).toInt - 1 ∧ r.1.toInt < (σ.1 46 0).toInt)) ∧ (1 ≤ (σ.1 61 0).toInt → ∀ B : Int, SB σ B → SB r.2 (B - (σ.1 50 r.1.toNatClampNeg).toInt)))) := by
  unfold f_X1_pop
  have hF : FR [61] [] σ σ := FR.rf
  have k_0 : (0 : Int32).toInt = 0 := by decide +kernel
  have k_1 : (1 : Int32).toInt = 1 := by decide +kernel
  refine ok_jn ?_
  have g_2 := gX_61 hB 0
  refine ok_ite (fun c_1 => ?_) (fun c_1 => ?_)
  · rw [fa_le] at c_1
    refine ok_ix ⟨by omega, by omega⟩ ?_
    have g_3 := gX_60 hB ((σ.1 61 0).toNatClampNeg)
    refine ok_lt fun v_2 e_v_2 => ?_
    have b_v_2 : 0 ≤ v_2.toInt ∧ v_2.toInt ≤ 511 := by rw [e_v_2]; exact gX_60 hB _
    have q_v_2 : v_2.toInt = (σ.1 60 (σ.1 61 0).toNatClampNeg).toInt := by rw [e_v_2]
    exact ok_ret ⟨(by (try dsimp only); omega), hB, hF, hKI, ⟨(by (try dsimp only); omega), fun h => absurd h (by omega)⟩⟩
  · rw [fa_le] at c_1
    obtain ⟨t_4, ht_4, g_4⟩ : ∃ t : Int, ((σ.1 61 0) - 1).toInt = t ∧ t = (σ.1 61 0).toInt - (1 : Int32).toInt := ⟨_, rfl, by have h9 := fb_subI (x := (σ.1 61 0)) (y := (1 : Int32)) (by omega) (by omega); exact h9⟩
    refine ok_lt fun s_4 e_s_4 => ?_
    have hB_s_4 : BX s_4 := by rw [e_s_4]; exact pX_61 hB (by rw [ht_4]; omega)
    have hF_s_4 : FR [61] [] σ s_4 := by rw [e_s_4]; exact FR.st hF (by decide)
    have w_s_4_61 : (s_4.1 61 0).toInt = t_4 := by rw [e_s_4, sti_s, ht_4]
    have f_s_4_46 : (s_4.1 46 0).toInt = (σ.1 46 0).toInt := by rw [hF_s_4.1 46 (by decide)]
    have hKI_s_4 : KI s_4 := KI.low hKI e_s_4 (by omega)
    have z4 : (s_4.1 60 (s_4.1 61 0).toNatClampNeg).toInt < (σ.1 46 0).toInt := by have h9 := hKI (s_4.1 61 0).toNatClampNeg (by have := clamp_I (x := (s_4.1 61 0)) (by omega); omega); rw [show s_4.1 60 = σ.1 60 by rw [e_s_4]; rfl]; exact h9
    have g_5 := gX_61 hB_s_4 0
    refine ok_ix ⟨by omega, by omega⟩ ?_
    have g_6 := gX_60 hB_s_4 ((s_4.1 61 0).toNatClampNeg)
    refine ok_lt fun v_2 e_v_2 => ?_
    have b_v_2 : 0 ≤ v_2.toInt ∧ v_2.toInt ≤ 511 := by rw [e_v_2]; exact gX_60 hB_s_4 _
    have q_v_2 : v_2.toInt = (s_4.1 60 (s_4.1 61 0).toNatClampNeg).toInt := by rw [e_v_2]
    exact ok_ret ⟨(by (try dsimp only); omega), hB_s_4, hF_s_4, hKI_s_4, ⟨(by (try dsimp only); omega), fun _ B h => by (try dsimp only); rw [e_v_2]; exact h.pop e_s_4 (by omega) (by omega)⟩⟩

set_option maxHeartbeats 4000000 in
theorem s_X1_push {x1 : Int32} {σ : Sto} (hB : BX σ) (hKI : KI σ) (p_x1 : 0 ≤ x1.toInt ∧ x1.toInt ≤ 511) (hx : x1.toInt < (σ.1 46 0).toInt) : OK (f_X1_push x1 σ) (fun s => BX s ∧ FR [60, 61] [] σ s ∧ KI s ∧ (((σ.1 61 0).toInt < 8 → (s.1 61 0).toInt = (σ.1 61 0).toInt + 1) ∧ ((σ.1 61 0).toInt < 8 → ∀ B : Int, SB σ B → SB s (B + (σ.1 50 x1.toNatClampNeg).toInt)))) := by
  unfold f_X1_push
  have hF : FR [60, 61] [] σ σ := FR.rf
  have k_1 : (1 : Int32).toInt = 1 := by decide +kernel
  have k_8 : (8 : Int32).toInt = 8 := by decide +kernel
  have g_2 := gX_61 hB 0
  refine ok_ite (fun c_1 => ?_) (fun c_1 => ?_)
  · rw [fa_le] at c_1
    exact ok_ret ⟨hB, hF, hKI, ⟨(by (try dsimp only); omega), fun h => absurd h (by omega)⟩⟩
  · rw [fa_le] at c_1
    refine ok_ix ⟨by omega, by omega⟩ ?_
    refine ok_lt fun s_2 e_s_2 => ?_
    have hB_s_2 : BX s_2 := by rw [e_s_2]; exact pX_60 hB (by omega)
    have hF_s_2 : FR [60, 61] [] σ s_2 := by rw [e_s_2]; exact FR.st hF (by decide)
    have w_s_2_61 : (s_2.1 61 0).toInt = (σ.1 61 0).toInt := by rw [e_s_2]; rfl
    have f_s_2_46 : (s_2.1 46 0).toInt = (σ.1 46 0).toInt := by rw [hF_s_2.1 46 (by decide)]
    have g_3 := gX_61 hB_s_2 0
    obtain ⟨t_4, ht_4, g_4⟩ : ∃ t : Int, ((s_2.1 61 0) + 1).toInt = t ∧ t = (s_2.1 61 0).toInt + (1 : Int32).toInt := ⟨_, rfl, by have h9 := fb_addI (x := (s_2.1 61 0)) (y := (1 : Int32)) (by omega) (by omega); exact h9⟩
    refine ok_lt fun s_3 e_s_3 => ?_
    have hB_s_3 : BX s_3 := by rw [e_s_3]; exact pX_61 hB_s_2 (by rw [ht_4]; omega)
    have hF_s_3 : FR [60, 61] [] σ s_3 := by rw [e_s_3]; exact FR.st hF_s_2 (by decide)
    have w_s_3_61 : (s_3.1 61 0).toInt = t_4 := by rw [e_s_3, sti_s, ht_4]
    have f_s_3_46 : (s_3.1 46 0).toInt = (σ.1 46 0).toInt := by rw [hF_s_3.1 46 (by decide)]
    have hKI_s_3 : KI s_3 := KI.push hKI e_s_2 e_s_3 (clamp_I (by omega)) (by omega) hx
    exact ok_ret ⟨hB_s_3, hF_s_3, hKI_s_3, ⟨(by (try dsimp only); omega), fun _ B h => h.push e_s_2 e_s_3 (clamp_I (by omega)) (by omega)⟩⟩

set_option maxHeartbeats 4000000 in
theorem s_X1_spill {x1 : Int32} {σ : Sto} (hB : BX σ) (hPI : PI σ) (hSI : SI σ) (hKI : KI σ) (hPA : PA σ) (hES : ES σ) : OK (f_X1_spill x1 σ) (fun s => BX s ∧ FR [46, 47, 48, 49, 50, 51, 52, 53, 54, 55, 58, 60] [] σ s ∧ PI s ∧ SI s ∧ KI s ∧ PA s ∧ ES s ∧ (σ.1 52 0).toInt ≤ (s.1 52 0).toInt ∧ ((σ.1 46 0).toInt ≤ (s.1 46 0).toInt ∧ F50 σ s ∧ (∀ B : Int, SB σ B → SB s B))) := by
  unfold f_X1_spill
  have hF : FR [46, 47, 48, 49, 50, 51, 52, 53, 54, 55, 58, 60] [] σ σ := FR.rf
  have k_0 : (0 : Int32).toInt = 0 := by decide +kernel
  have k_1 : (1 : Int32).toInt = 1 := by decide +kernel
  refine ok_itr2 (fun (n : Nat) (x2_1 : Int32) (s_1 : Sto) => n = (9 - x2_1.toInt).toNat ∧ (0 ≤ x2_1.toInt ∧ x2_1.toInt ≤ 8) ∧ (BX s_1) ∧ (FR [46, 47, 48, 49, 50, 51, 52, 53, 54, 55, 58, 60] [] σ s_1) ∧ ((σ.1 52 0).toInt ≤ (s_1.1 52 0).toInt) ∧ (PI s_1) ∧ (SI s_1) ∧ (KI s_1) ∧ (PA s_1) ∧ (ES s_1) ∧ ((σ.1 46 0).toInt ≤ (s_1.1 46 0).toInt) ∧ (F50 σ s_1) ∧ ((∀ B : Int, SB σ B → SB s_1 B))) ?_ (n := _) ⟨rfl, (by omega), hB, hF, (by omega), hPI, hSI, hKI, hPA, hES, (by omega), F50.rf, (fun _ h => h)⟩ (show _ < 10000000 by omega)
  intro a_2 n x2_1 s_1 hI ih_a_2
  obtain ⟨hn_a_2, b_x2_1, hB_s_1, hF_s_1, m52_s_1, hPI_s_1, hSI_s_1, hKI_s_1, hPA_s_1, hES_s_1, hsz, hF5, hSBB⟩ := hI
  have f_s_1_61 : (s_1.1 61 0).toInt = (σ.1 61 0).toInt := by rw [hF_s_1.1 61 (by decide)]
  have g_2 := gX_61 hB_s_1 0
  have g_3 : (s_1.1 61 0).toInt = (σ.1 61 0).toInt := by rw [hF_s_1.1 61 (by decide)]
  have g_4 := gX_61 hB 0
  refine ok_ite (fun c_1 => ?_) (fun c_1 => ?_)
  · rw [fa_le] at c_1
    exact ok_ret ⟨hB_s_1, hF_s_1, hPI_s_1, hSI_s_1, hKI_s_1, hPA_s_1, hES_s_1, (by (try dsimp only); omega), ⟨by (try dsimp only); omega, hF5, hSBB⟩⟩
  · rw [fa_le] at c_1
    refine ok_ix ⟨by omega, by omega⟩ ?_
    have g_5 := gX_60 hB_s_1 (x2_1.toNatClampNeg)
    refine ok_lt fun v_3 e_v_3 => ?_
    have b_v_3 : 0 ≤ v_3.toInt ∧ v_3.toInt ≤ 511 := by rw [e_v_3]; exact gX_60 hB_s_1 _
    have q_v_3 : v_3.toInt = (s_1.1 60 x2_1.toNatClampNeg).toInt := by rw [e_v_3]
    refine ok_ix ⟨by omega, by omega⟩ ?_
    refine ok_lt fun v_4 e_v_4 => ?_
    refine ok_jn ?_
    obtain ⟨t_7, ht_7, g_7⟩ : ∃ t : Int, (v_4 &&& x1).toInt = t ∧ -2147483648 ≤ t ∧ t ≤ 2147483647 := ⟨_, rfl, tI_rng _⟩
    refine ok_ite (fun c_6 => ?_) (fun c_6 => ?_)
    · rw [fa_eq, ht_7] at c_6
      obtain ⟨t_8, ht_8, g_8⟩ : ∃ t : Int, (x2_1 + 1).toInt = t ∧ t = x2_1.toInt + (1 : Int32).toInt := ⟨_, rfl, by have h9 := fb_addI (x := x2_1) (y := (1 : Int32)) (by omega) (by omega); exact h9⟩
      refine ok_lt fun x2_6 e_x2_6 => ?_
      have q_x2_6 : x2_6.toInt = t_8 := by rw [e_x2_6]; exact ht_8
      exact ih_a_2 _ x2_6 s_1 (by rw [hn_a_2]; omega) ⟨rfl, (by omega), hB_s_1, hF_s_1, (by omega), hPI_s_1, hSI_s_1, hKI_s_1, hPA_s_1, hES_s_1, (by omega), hF5, hSBB⟩
    · rw [fa_eq, ht_7] at c_6
      refine ok_ix ⟨by omega, by omega⟩ ?_
      refine ok_lt fun v_8 e_v_8 => ?_
      have b_v_8 : 0 ≤ v_8.toInt ∧ v_8.toInt ≤ 511 := by rw [e_v_8]; exact gX_60 hB_s_1 _
      have q_v_8 : v_8.toInt = (s_1.1 60 x2_1.toNatClampNeg).toInt := by rw [e_v_8]
      have z8 : v_8.toInt < (s_1.1 46 0).toInt := by rw [e_v_8]; exact hKI_s_1 _ (by have := clamp_I (x := x2_1) (by omega); omega)
      refine ok_calv (s_X1_putAside (x1 := v_8) (σ := s_1) hB_s_1 hPI_s_1 hSI_s_1 hKI_s_1 hPA_s_1 hES_s_1 (by omega) (by omega)) (fun v_9 s_9 h_9 => ?_)
      obtain ⟨b_v_9, hB_s_9, hG_s_9, hPI_s_9, hSI_s_9, hKI_s_9, hPA_s_9, hES_s_9, m52_s_9, x_s_9⟩ := h_9
      (try dsimp only at b_v_9 hB_s_9 hG_s_9 hPI_s_9 hSI_s_9 hKI_s_9 hPA_s_9 hES_s_9 m52_s_9 x_s_9)
      have hF_s_9 : FR [46, 47, 48, 49, 50, 51, 52, 53, 54, 55, 58, 60] [] σ s_9 := FR.cal hF_s_1 hG_s_9 rfl rfl
      have f_s_9_61 : (s_9.1 61 0).toInt = (σ.1 61 0).toInt := by rw [hF_s_9.1 61 (by decide)]
      have F9 := x_s_9.2.2.1
      have L9 := x_s_9.2.2.2.1
      have S9 := x_s_9.2.2.2.2
      have x_s_9 : (s_1.1 46 0).toInt ≤ (s_9.1 46 0).toInt ∧ v_9.toInt < (s_9.1 46 0).toInt := ⟨x_s_9.1, x_s_9.2.1⟩
      have p10 : (s_9.1 50 v_9.toNatClampNeg).toInt ≤ (s_9.1 50 (s_9.1 60 x2_1.toNatClampNeg).toNatClampNeg).toInt := by have k9 := hKI_s_9 x2_1.toNatClampNeg (by have := clamp_I (x := x2_1) (by omega); omega); have g9 := gX_60 hB_s_9 x2_1.toNatClampNeg; have o9 := (hPA_s_9.1 (s_9.1 60 x2_1.toNatClampNeg).toNatClampNeg (by have := clamp_I (x := s_9.1 60 x2_1.toNatClampNeg) (by omega); omega)).1; omega
      refine ok_ix ⟨by omega, by omega⟩ ?_
      refine ok_lt fun s_10 e_s_10 => ?_
      have hB_s_10 : BX s_10 := by rw [e_s_10]; exact pX_60 hB_s_9 (by omega)
      have hF_s_10 : FR [46, 47, 48, 49, 50, 51, 52, 53, 54, 55, 58, 60] [] σ s_10 := by rw [e_s_10]; exact FR.st hF_s_9 (by decide)
      have w_s_10_46 : (s_10.1 46 0).toInt = (s_9.1 46 0).toInt := by rw [e_s_10]; rfl
      have w_s_10_52 : (s_10.1 52 0).toInt = (s_9.1 52 0).toInt := by rw [e_s_10]; rfl
      have f_s_10_61 : (s_10.1 61 0).toInt = (σ.1 61 0).toInt := by rw [hF_s_10.1 61 (by decide)]
      have hPI_s_10 : PI s_10 := by rw [e_s_10]; exact PI.st1 (by decide) hPI_s_9
      have hSI_s_10 : SI s_10 := by rw [e_s_10]; exact SI.st1 (by decide) hSI_s_9
      have hPA_s_10 : PA s_10 := by rw [e_s_10]; exact PA.st1 (by decide) hPA_s_9
      have hES_s_10 : ES s_10 := by rw [e_s_10]; exact ES.st1 (by decide) hES_s_9
      have hKI_s_10 : KI s_10 := KI.put hKI_s_9 e_s_10 (by omega)
      obtain ⟨t_10, ht_10, g_10⟩ : ∃ t : Int, (x2_1 + 1).toInt = t ∧ t = x2_1.toInt + (1 : Int32).toInt := ⟨_, rfl, by have h9 := fb_addI (x := x2_1) (y := (1 : Int32)) (by omega) (by omega); exact h9⟩
      refine ok_lt fun x2_6 e_x2_6 => ?_
      have q_x2_6 : x2_6.toInt = t_10 := by rw [e_x2_6]; exact ht_10
      exact ih_a_2 _ x2_6 s_10 (by rw [hn_a_2]; omega) ⟨rfl, (by omega), hB_s_10, hF_s_10, (by omega), hPI_s_10, hSI_s_10, hKI_s_10, hPA_s_10, hES_s_10, (by omega), ((hF5.tr F9 (by omega)).tr (F50.of (by rw [e_s_10]; rfl) (by rw [e_s_10]; rfl) (by rw [e_s_10]; rfl)) (by omega)), (fun B h => (S9 B (hSBB B h)).put e_s_10 (by have := clamp_I (x := x2_1) (by omega); omega) p10)⟩

set_option maxHeartbeats 4000000 in
theorem s_X1_twice {σ : Sto} (hB : BX σ) (hPI : PI σ) (hSI : SI σ) (hKI : KI σ) (hPA : PA σ) (hES : ES σ) (hh1 : 1 ≤ (σ.1 61 0).toInt) (hh2 : (σ.1 61 0).toInt ≤ 6) : OK (f_X1_twice σ) (fun s => BX s ∧ FR [46, 47, 48, 49, 50, 51, 52, 53, 54, 55, 58, 60, 61] [] σ s ∧ PI s ∧ SI s ∧ KI s ∧ PA s ∧ ES s ∧ (σ.1 52 0).toInt ≤ (s.1 52 0).toInt ∧ ((σ.1 46 0).toInt ≤ (s.1 46 0).toInt ∧ (s.1 61 0).toInt = (σ.1 61 0).toInt + 1 ∧ (∀ B : Int, SB σ B → SB s (B + 1)))) := by
  unfold f_X1_twice
  have hF : FR [46, 47, 48, 49, 50, 51, 52, 53, 54, 55, 58, 60, 61] [] σ σ := FR.rf
  have k_0 : (0 : Int32).toInt = 0 := by decide +kernel
  have k_107 : (107 : Int32).toInt = 107 := by decide +kernel
  have k_4096 : (4096 : Int32).toInt = 4096 := by decide +kernel
  refine ok_calv (s_X1_pop  (σ := σ) hB hKI) (fun v_1 s_1 h_1 => ?_)
  obtain ⟨b_v_1, hB_s_1, hG_s_1, hKI_s_1, x_s_1⟩ := h_1
  (try dsimp only at b_v_1 hB_s_1 hG_s_1 hKI_s_1 x_s_1)
  have hF_s_1 : FR [46, 47, 48, 49, 50, 51, 52, 53, 54, 55, 58, 60, 61] [] σ s_1 := FR.cal hF hG_s_1 rfl rfl
  have w_s_1_46 : (s_1.1 46 0).toInt = (σ.1 46 0).toInt := by rw [hG_s_1.1 46 (by decide)]
  have w_s_1_52 : (s_1.1 52 0).toInt = (σ.1 52 0).toInt := by rw [hG_s_1.1 52 (by decide)]
  have hPI_s_1 : PI s_1 := PI.fr hG_s_1 (by decide) hPI
  have hSI_s_1 : SI s_1 := SI.fr hG_s_1 (by decide) hSI
  have hPA_s_1 : PA s_1 := PA.fr hG_s_1 (by decide) hPA
  have hES_s_1 : ES s_1 := ES.fr hG_s_1 (by decide) hES
  have S1 := x_s_1.2 (by omega)
  have y1 := x_s_1.1 (by omega)
  clear x_s_1
  have c1v := clamp_I (x := v_1) (by omega)
  have r1 : s_1.1 50 = σ.1 50 := hG_s_1.1 50 (by decide)
  have o1 := hPA_s_1.1 v_1.toNatClampNeg (by rw [hG_s_1.1 46 (by decide)]; omega)
  have p1 : (s_1.1 50 v_1.toNatClampNeg).toInt = (σ.1 50 v_1.toNatClampNeg).toInt := by rw [r1]
  refine ok_ix ⟨by omega, by omega⟩ ?_
  have g_2 := gX_47 hB_s_1 (v_1.toNatClampNeg)
  refine ok_lt fun v_2 e_v_2 => ?_
  have b_v_2 : 0 ≤ v_2.toInt ∧ v_2.toInt ≤ 255 := by rw [e_v_2]; exact gX_47 hB_s_1 _
  have s2 : v_2.toInt = (s_1.1 47 v_1.toNatClampNeg).toInt := by rw [e_v_2]
  refine ok_jnI2 (fun (x1_3 : Int32) (s_3 : Sto) => True ∧ (0 ≤ x1_3.toInt ∧ x1_3.toInt ≤ 511) ∧ (BX s_3) ∧ (FR [46, 47, 48, 49, 50, 51, 52, 53, 54, 55, 58, 60, 61] [] σ s_3) ∧ ((σ.1 52 0).toInt ≤ (s_3.1 52 0).toInt) ∧ (PI s_3) ∧ (SI s_3) ∧ (KI s_3) ∧ (PA s_3) ∧ (ES s_3) ∧ ((σ.1 46 0).toInt ≤ (s_3.1 46 0).toInt ∧ x1_3.toInt < (s_3.1 46 0).toInt ∧ (s_3.1 61 0).toInt = (σ.1 61 0).toInt - 1) ∧ ((s_3.1 50 x1_3.toNatClampNeg).toInt ≤ 1) ∧ ((∀ B : Int, SB σ B → SB s_3 (B - 1)))) ?_ ?_
  · intro x1_3 s_3 hJ
    obtain ⟨-, b_x1_3, hB_s_3, hF_s_3, m52_s_3, hPI_s_3, hSI_s_3, hKI_s_3, hPA_s_3, hES_s_3, jz, jl, jS⟩ := hJ
    refine ok_cals (s_X1_push (x1 := x1_3) (σ := s_3) hB_s_3 hKI_s_3 (by omega) (by omega)) (fun s_4 h_3 => ?_)
    obtain ⟨hB_s_4, hG_s_4, hKI_s_4, x_s_4⟩ := h_3
    (try dsimp only at hB_s_4 hG_s_4 hKI_s_4 x_s_4)
    have hF_s_4 : FR [46, 47, 48, 49, 50, 51, 52, 53, 54, 55, 58, 60, 61] [] σ s_4 := FR.cal hF_s_3 hG_s_4 rfl rfl
    have w_s_4_46 : (s_4.1 46 0).toInt = (s_3.1 46 0).toInt := by rw [hG_s_4.1 46 (by decide)]
    have w_s_4_52 : (s_4.1 52 0).toInt = (s_3.1 52 0).toInt := by rw [hG_s_4.1 52 (by decide)]
    have hPI_s_4 : PI s_4 := PI.fr hG_s_4 (by decide) hPI_s_3
    have hSI_s_4 : SI s_4 := SI.fr hG_s_4 (by decide) hSI_s_3
    have hPA_s_4 : PA s_4 := PA.fr hG_s_4 (by decide) hPA_s_3
    have hES_s_4 : ES s_4 := ES.fr hG_s_4 (by decide) hES_s_3
    have S4 := x_s_4.2 (by omega)
    have y4 := x_s_4.1 (by omega)
    clear x_s_4
    refine ok_cals (s_X1_push (x1 := x1_3) (σ := s_4) hB_s_4 hKI_s_4 (by omega) (by omega)) (fun s_5 h_4 => ?_)
    obtain ⟨hB_s_5, hG_s_5, hKI_s_5, x_s_5⟩ := h_4
    (try dsimp only at hB_s_5 hG_s_5 hKI_s_5 x_s_5)
    have hF_s_5 : FR [46, 47, 48, 49, 50, 51, 52, 53, 54, 55, 58, 60, 61] [] σ s_5 := FR.cal hF_s_4 hG_s_5 rfl rfl
    have w_s_5_46 : (s_5.1 46 0).toInt = (s_4.1 46 0).toInt := by rw [hG_s_5.1 46 (by decide)]
    have w_s_5_52 : (s_5.1 52 0).toInt = (s_4.1 52 0).toInt := by rw [hG_s_5.1 52 (by decide)]
    have hPI_s_5 : PI s_5 := PI.fr hG_s_5 (by decide) hPI_s_4
    have hSI_s_5 : SI s_5 := SI.fr hG_s_5 (by decide) hSI_s_4
    have hPA_s_5 : PA s_5 := PA.fr hG_s_5 (by decide) hPA_s_4
    have hES_s_5 : ES s_5 := ES.fr hG_s_5 (by decide) hES_s_4
    have S5 := x_s_5.2 (by omega)
    have y5 := x_s_5.1 (by omega)
    clear x_s_5
    exact ok_ret ⟨hB_s_5, hF_s_5, hPI_s_5, hSI_s_5, hKI_s_5, hPA_s_5, hES_s_5, (by (try dsimp only); omega), ⟨by (try dsimp only); omega, by (try dsimp only); omega, fun B h => (S5 _ (S4 _ (jS B h))).mono (by rw [hG_s_4.1 50 (by decide)]; omega)⟩⟩
  · intro k_43 hk_k_43
    refine ok_ite (fun c_5 => ?_) (fun c_5 => ?_)
    · rw [fa_eq] at c_5
      exact hk_k_43 v_1 s_1 ⟨trivial, (by omega), hB_s_1, hF_s_1, (by omega), hPI_s_1, hSI_s_1, hKI_s_1, hPA_s_1, hES_s_1, (by omega), (by first | exact nm_L hPA_s_1 (by omega) (by omega) (Or.inl (by omega)) | exact nm_L hPA_s_1 (by omega) (by omega) (Or.inr (by omega))), (fun B h => (S1 B h).mono (by omega))⟩
    · rw [fa_eq] at c_5
      refine ok_calp (s_X7_isName (x1 := v_1) (σ := s_1) hB_s_1 (by omega)) (fun v_7 h_6 => ?_)
      obtain ⟨b_v_7, x_v_7⟩ := h_6
      (try dsimp only at b_v_7 x_v_7)
      refine ok_ite (fun c_7 => ?_) (fun c_7 => ?_)
      · rw [fa_eq] at c_7
        refine ok_cals (s_X1_spill (x1 := (4096 : Int32)) (σ := s_1) hB_s_1 hPI_s_1 hSI_s_1 hKI_s_1 hPA_s_1 hES_s_1) (fun s_9 h_8 => ?_)
        obtain ⟨hB_s_9, hG_s_9, hPI_s_9, hSI_s_9, hKI_s_9, hPA_s_9, hES_s_9, m52_s_9, x_s_9⟩ := h_8
        (try dsimp only at hB_s_9 hG_s_9 hPI_s_9 hSI_s_9 hKI_s_9 hPA_s_9 hES_s_9 m52_s_9 x_s_9)
        have hF_s_9 : FR [46, 47, 48, 49, 50, 51, 52, 53, 54, 55, 58, 60, 61] [] σ s_9 := FR.cal hF_s_1 hG_s_9 rfl rfl
        have w_s_9_61 : (s_9.1 61 0).toInt = (s_1.1 61 0).toInt := by rw [hG_s_9.1 61 (by decide)]
        have F9 := x_s_9.2.1
        have S9 := x_s_9.2.2
        have x_s_9 := x_s_9.1
        refine ok_calv (s_X1_putAside (x1 := v_1) (σ := s_9) hB_s_9 hPI_s_9 hSI_s_9 hKI_s_9 hPA_s_9 hES_s_9 (by omega) (by omega)) (fun v_10 s_10 h_9 => ?_)
        obtain ⟨b_v_10, hB_s_10, hG_s_10, hPI_s_10, hSI_s_10, hKI_s_10, hPA_s_10, hES_s_10, m52_s_10, x_s_10⟩ := h_9
        (try dsimp only at b_v_10 hB_s_10 hG_s_10 hPI_s_10 hSI_s_10 hKI_s_10 hPA_s_10 hES_s_10 m52_s_10 x_s_10)
        have hF_s_10 : FR [46, 47, 48, 49, 50, 51, 52, 53, 54, 55, 58, 60, 61] [] σ s_10 := FR.cal hF_s_9 hG_s_10 rfl rfl
        have w_s_10_61 : (s_10.1 61 0).toInt = (s_9.1 61 0).toInt := by rw [hG_s_10.1 61 (by decide)]
        have F10 := x_s_10.2.2.1
        have L10 := x_s_10.2.2.2.1
        have S10 := x_s_10.2.2.2.2
        have x_s_10 : (s_9.1 46 0).toInt ≤ (s_10.1 46 0).toInt ∧ v_10.toInt < (s_10.1 46 0).toInt := ⟨x_s_10.1, x_s_10.2.1⟩
        exact hk_k_43 v_10 s_10 ⟨trivial, (by omega), hB_s_10, hF_s_10, (by omega), hPI_s_10, hSI_s_10, hKI_s_10, hPA_s_10, hES_s_10, (by omega), L10, (fun B h => S10 _ (S9 _ ((S1 B h).mono (by omega))))⟩
      · rw [fa_eq] at c_7
        exact hk_k_43 v_1 s_1 ⟨trivial, (by omega), hB_s_1, hF_s_1, (by omega), hPI_s_1, hSI_s_1, hKI_s_1, hPA_s_1, hES_s_1, (by omega), (by first | exact nm_L hPA_s_1 (by omega) (by omega) (Or.inl (by omega)) | exact nm_L hPA_s_1 (by omega) (by omega) (Or.inr (by omega))), (fun B h => (S1 B h).mono (by omega))⟩

set_option maxHeartbeats 4000000 in
theorem s_X1_state {x1 : Int32} {x2 : Int32} {x3 : Int32} {σ : Sto} (hB : BX σ) (hPI : PI σ) (hSI : SI σ) (hKI : KI σ) (hPA : PA σ) (hES : ES σ) (p_x1 : 0 ≤ x1.toInt ∧ x1.toInt ≤ 6) (p_x2 : (-1) ≤ x2.toInt ∧ x2.toInt ≤ 160) (p_x3 : (-1) ≤ x3.toInt ∧ x3.toInt ≤ 511) (hT : T2 x1 x2 x3) (hxE : x3.toInt < (σ.1 46 0).toInt) : OK (f_X1_state x1 x2 x3 σ) (fun s => BX s ∧ FR [46, 47, 48, 49, 50, 51, 52, 53, 54, 55, 58, 60] [] σ s ∧ PI s ∧ SI s ∧ KI s ∧ PA s ∧ ES s ∧ (σ.1 52 0).toInt ≤ (s.1 52 0).toInt ∧ ((σ.1 46 0).toInt ≤ (s.1 46 0).toInt ∧ F50 σ s ∧ (∀ B : Int, SB σ B → SB s B))) := by
  unfold f_X1_state
  have hF : FR [46, 47, 48, 49, 50, 51, 52, 53, 54, 55, 58, 60] [] σ σ := FR.rf
  have k_0 : (0 : Int32).toInt = 0 := by decide +kernel
  refine ok_jn ?_
  refine ok_ite (fun c_1 => ?_) (fun c_1 => ?_)
  · rw [fa_eq] at c_1
    obtain ⟨t_2, ht_2, g_2⟩ : ∃ t : Int, ((4096 : Int32) ||| ((1 : Int32) <<< (x2 &&& 31))).toInt = t ∧ -2147483648 ≤ t ∧ t ≤ 2147483647 := ⟨_, rfl, tI_rng _⟩
    refine ok_cals (s_X1_spill (x1 := ((4096 : Int32) ||| ((1 : Int32) <<< (x2 &&& 31)))) (σ := σ) hB hPI hSI hKI hPA hES) (fun s_2 h_3 => ?_)
    obtain ⟨hB_s_2, hG_s_2, hPI_s_2, hSI_s_2, hKI_s_2, hPA_s_2, hES_s_2, m52_s_2, x_s_2⟩ := h_3
    (try dsimp only at hB_s_2 hG_s_2 hPI_s_2 hSI_s_2 hKI_s_2 hPA_s_2 hES_s_2 m52_s_2 x_s_2)
    have hF_s_2 : FR [46, 47, 48, 49, 50, 51, 52, 53, 54, 55, 58, 60] [] σ s_2 := FR.cal hF hG_s_2 rfl rfl
    have f_s_2_61 : (s_2.1 61 0).toInt = (σ.1 61 0).toInt := by rw [hF_s_2.1 61 (by decide)]
    refine ok_cals (s_X1_add (x1 := x1) (x2 := x2) (x3 := x3) (σ := s_2) hB_s_2 hSI_s_2 hES_s_2 (by omega) (by omega) (by omega) hT (by omega)) (fun s_3 h_4 => ?_)
    obtain ⟨hB_s_3, hG_s_3, hSI_s_3, hES_s_3, m52_s_3⟩ := h_4
    (try dsimp only at hB_s_3 hG_s_3 hSI_s_3 hES_s_3 m52_s_3)
    have hF_s_3 : FR [46, 47, 48, 49, 50, 51, 52, 53, 54, 55, 58, 60] [] σ s_3 := FR.cal hF_s_2 hG_s_3 rfl rfl
    have w_s_3_46 : (s_3.1 46 0).toInt = (s_2.1 46 0).toInt := by rw [hG_s_3.1 46 (by decide)]
    have f_s_3_61 : (s_3.1 61 0).toInt = (σ.1 61 0).toInt := by rw [hF_s_3.1 61 (by decide)]
    have hPI_s_3 : PI s_3 := PI.fr hG_s_3 (by decide) hPI_s_2
    have hKI_s_3 : KI s_3 := KI.fr hG_s_3 (by decide) hKI_s_2
    have hPA_s_3 : PA s_3 := PA.fr hG_s_3 (by decide) hPA_s_2
    exact ok_ret ⟨hB_s_3, hF_s_3, hPI_s_3, hSI_s_3, hKI_s_3, hPA_s_3, hES_s_3, (by (try dsimp only); omega), (by (try dsimp only); have F3 : F50 s_2 s_3 := F50.of (hG_s_3.1 50 (by decide)) (hG_s_3.1 48 (by decide)) (hG_s_3.1 49 (by decide)); exact ⟨by omega, x_s_2.2.1.tr F3 (by omega), fun B h => (x_s_2.2.2 B h).same hKI_s_2 (hG_s_3.1 60 (by decide)) (hG_s_3.1 61 (by decide)) F3 hB_s_2⟩)⟩
  · rw [fa_eq] at c_1
    obtain ⟨t_5, ht_5, g_5⟩ : ∃ t : Int, ((4096 : Int32) ||| (0 : Int32)).toInt = t ∧ -2147483648 ≤ t ∧ t ≤ 2147483647 := ⟨_, rfl, tI_rng _⟩
    refine ok_cals (s_X1_spill (x1 := ((4096 : Int32) ||| (0 : Int32))) (σ := σ) hB hPI hSI hKI hPA hES) (fun s_2 h_6 => ?_)
    obtain ⟨hB_s_2, hG_s_2, hPI_s_2, hSI_s_2, hKI_s_2, hPA_s_2, hES_s_2, m52_s_2, x_s_2⟩ := h_6
    (try dsimp only at hB_s_2 hG_s_2 hPI_s_2 hSI_s_2 hKI_s_2 hPA_s_2 hES_s_2 m52_s_2 x_s_2)
    have hF_s_2 : FR [46, 47, 48, 49, 50, 51, 52, 53, 54, 55, 58, 60] [] σ s_2 := FR.cal hF hG_s_2 rfl rfl
    have f_s_2_61 : (s_2.1 61 0).toInt = (σ.1 61 0).toInt := by rw [hF_s_2.1 61 (by decide)]
    refine ok_cals (s_X1_add (x1 := x1) (x2 := x2) (x3 := x3) (σ := s_2) hB_s_2 hSI_s_2 hES_s_2 (by omega) (by omega) (by omega) hT (by omega)) (fun s_3 h_7 => ?_)
    obtain ⟨hB_s_3, hG_s_3, hSI_s_3, hES_s_3, m52_s_3⟩ := h_7
    (try dsimp only at hB_s_3 hG_s_3 hSI_s_3 hES_s_3 m52_s_3)
    have hF_s_3 : FR [46, 47, 48, 49, 50, 51, 52, 53, 54, 55, 58, 60] [] σ s_3 := FR.cal hF_s_2 hG_s_3 rfl rfl
    have w_s_3_46 : (s_3.1 46 0).toInt = (s_2.1 46 0).toInt := by rw [hG_s_3.1 46 (by decide)]
    have f_s_3_61 : (s_3.1 61 0).toInt = (σ.1 61 0).toInt := by rw [hF_s_3.1 61 (by decide)]
    have hPI_s_3 : PI s_3 := PI.fr hG_s_3 (by decide) hPI_s_2
    have hKI_s_3 : KI s_3 := KI.fr hG_s_3 (by decide) hKI_s_2
    have hPA_s_3 : PA s_3 := PA.fr hG_s_3 (by decide) hPA_s_2
    exact ok_ret ⟨hB_s_3, hF_s_3, hPI_s_3, hSI_s_3, hKI_s_3, hPA_s_3, hES_s_3, (by (try dsimp only); omega), (by (try dsimp only); have F3 : F50 s_2 s_3 := F50.of (hG_s_3.1 50 (by decide)) (hG_s_3.1 48 (by decide)) (hG_s_3.1 49 (by decide)); exact ⟨by omega, x_s_2.2.1.tr F3 (by omega), fun B h => (x_s_2.2.2 B h).same hKI_s_2 (hG_s_3.1 60 (by decide)) (hG_s_3.1 61 (by decide)) F3 hB_s_2⟩)⟩

set_option maxHeartbeats 4000000 in
theorem s_X1_drop {x1 : Int32} {σ : Sto} (hB : BX σ) (hPI : PI σ) (hSI : SI σ) (hKI : KI σ) (hPA : PA σ) (hES : ES σ) (p_x1 : 0 ≤ x1.toInt ∧ x1.toInt ≤ 511) (hx1 : x1.toInt < (σ.1 46 0).toInt) : OK (f_X1_drop x1 σ) (fun s => BX s ∧ FR [46, 47, 48, 49, 50, 51, 52, 53, 54, 55, 58, 60] [] σ s ∧ PI s ∧ SI s ∧ KI s ∧ PA s ∧ ES s ∧ (σ.1 52 0).toInt ≤ (s.1 52 0).toInt ∧ ((σ.1 46 0).toInt ≤ (s.1 46 0).toInt ∧ F50 σ s ∧ (∀ B : Int, SB σ B → SB s B))) := by
  unfold f_X1_drop
  have hF : FR [46, 47, 48, 49, 50, 51, 52, 53, 54, 55, 58, 60] [] σ σ := FR.rf
  have k_m1 : ((-1) : Int32).toInt = -1 := by decide +kernel
  have k_0 : (0 : Int32).toInt = 0 := by decide +kernel
  have k_4 : (4 : Int32).toInt = 4 := by decide +kernel
  have k_4096 : (4096 : Int32).toInt = 4096 := by decide +kernel
  refine ok_calp (s_X7_hasEffects (x1 := x1) (σ := σ) hB (by omega)) (fun v_1 h_1 => ?_)
  have b_v_1 := h_1
  (try dsimp only at b_v_1)
  refine ok_ite (fun c_2 => ?_) (fun c_2 => ?_)
  · rw [fa_eq] at c_2
    exact ok_ret ⟨hB, hF, hPI, hSI, hKI, hPA, hES, (by (try dsimp only); omega), ⟨by (try dsimp only); omega, F50.rf, fun _ h => h⟩⟩
  · rw [fa_eq] at c_2
    refine ok_cals (s_X1_spill (x1 := (4096 : Int32)) (σ := σ) hB hPI hSI hKI hPA hES) (fun s_3 h_3 => ?_)
    obtain ⟨hB_s_3, hG_s_3, hPI_s_3, hSI_s_3, hKI_s_3, hPA_s_3, hES_s_3, m52_s_3, x_s_3⟩ := h_3
    (try dsimp only at hB_s_3 hG_s_3 hPI_s_3 hSI_s_3 hKI_s_3 hPA_s_3 hES_s_3 m52_s_3 x_s_3)
    have hF_s_3 : FR [46, 47, 48, 49, 50, 51, 52, 53, 54, 55, 58, 60] [] σ s_3 := FR.cal hF hG_s_3 rfl rfl
    have f_s_3_61 : (s_3.1 61 0).toInt = (σ.1 61 0).toInt := by rw [hF_s_3.1 61 (by decide)]
    refine ok_cals (s_X1_add (x1 := (4 : Int32)) (x2 := ((-1) : Int32)) (x3 := x1) (σ := s_3) hB_s_3 hSI_s_3 hES_s_3 (by omega) (by omega) (by omega) (t2_o (by omega)) (by omega)) (fun s_4 h_4 => ?_)
    obtain ⟨hB_s_4, hG_s_4, hSI_s_4, hES_s_4, m52_s_4⟩ := h_4
    (try dsimp only at hB_s_4 hG_s_4 hSI_s_4 hES_s_4 m52_s_4)
    have hF_s_4 : FR [46, 47, 48, 49, 50, 51, 52, 53, 54, 55, 58, 60] [] σ s_4 := FR.cal hF_s_3 hG_s_4 rfl rfl
    have w_s_4_46 : (s_4.1 46 0).toInt = (s_3.1 46 0).toInt := by rw [hG_s_4.1 46 (by decide)]
    have f_s_4_61 : (s_4.1 61 0).toInt = (σ.1 61 0).toInt := by rw [hF_s_4.1 61 (by decide)]
    have hPI_s_4 : PI s_4 := PI.fr hG_s_4 (by decide) hPI_s_3
    have hKI_s_4 : KI s_4 := KI.fr hG_s_4 (by decide) hKI_s_3
    have hPA_s_4 : PA s_4 := PA.fr hG_s_4 (by decide) hPA_s_3
    exact ok_ret ⟨hB_s_4, hF_s_4, hPI_s_4, hSI_s_4, hKI_s_4, hPA_s_4, hES_s_4, (by (try dsimp only); omega), (by (try dsimp only); have F4 : F50 s_3 s_4 := F50.of (hG_s_4.1 50 (by decide)) (hG_s_4.1 48 (by decide)) (hG_s_4.1 49 (by decide)); exact ⟨by omega, x_s_3.2.1.tr F4 (by omega), fun B h => (x_s_3.2.2 B h).same hKI_s_3 (hG_s_4.1 60 (by decide)) (hG_s_4.1 61 (by decide)) F4 hB_s_3⟩)⟩

set_option maxHeartbeats 4000000 in
theorem s_X1_exchange {σ : Sto} (hB : BX σ) (hPI : PI σ) (hSI : SI σ) (hKI : KI σ) (hPA : PA σ) (hES : ES σ) (hh1 : 2 ≤ (σ.1 61 0).toInt) (hh2 : (σ.1 61 0).toInt ≤ 6) : OK (f_X1_exchange σ) (fun s => BX s ∧ FR [46, 47, 48, 49, 50, 51, 52, 53, 54, 55, 58, 60, 61] [] σ s ∧ PI s ∧ SI s ∧ KI s ∧ PA s ∧ ES s ∧ (σ.1 52 0).toInt ≤ (s.1 52 0).toInt ∧ ((σ.1 46 0).toInt ≤ (s.1 46 0).toInt ∧ (s.1 61 0).toInt = (σ.1 61 0).toInt ∧ F50 σ s ∧ (∀ B : Int, SB σ B → SB s B))) := by
  unfold f_X1_exchange
  have hF : FR [46, 47, 48, 49, 50, 51, 52, 53, 54, 55, 58, 60, 61] [] σ σ := FR.rf
  have k_0 : (0 : Int32).toInt = 0 := by decide +kernel
  have k_1 : (1 : Int32).toInt = 1 := by decide +kernel
  have k_4096 : (4096 : Int32).toInt = 4096 := by decide +kernel
  refine ok_calv (s_X1_pop  (σ := σ) hB hKI) (fun v_1 s_1 h_1 => ?_)
  obtain ⟨b_v_1, hB_s_1, hG_s_1, hKI_s_1, x_s_1⟩ := h_1
  (try dsimp only at b_v_1 hB_s_1 hG_s_1 hKI_s_1 x_s_1)
  have hF_s_1 : FR [46, 47, 48, 49, 50, 51, 52, 53, 54, 55, 58, 60, 61] [] σ s_1 := FR.cal hF hG_s_1 rfl rfl
  have w_s_1_46 : (s_1.1 46 0).toInt = (σ.1 46 0).toInt := by rw [hG_s_1.1 46 (by decide)]
  have w_s_1_52 : (s_1.1 52 0).toInt = (σ.1 52 0).toInt := by rw [hG_s_1.1 52 (by decide)]
  have hPI_s_1 : PI s_1 := PI.fr hG_s_1 (by decide) hPI
  have hSI_s_1 : SI s_1 := SI.fr hG_s_1 (by decide) hSI
  have hPA_s_1 : PA s_1 := PA.fr hG_s_1 (by decide) hPA
  have hES_s_1 : ES s_1 := ES.fr hG_s_1 (by decide) hES
  have S1 := x_s_1.2 (by omega)
  have y1 := x_s_1.1 (by omega)
  clear x_s_1
  have c1v := clamp_I (x := v_1) (by omega)
  have F1 : F50 σ s_1 := F50.of (hG_s_1.1 50 (by decide)) (hG_s_1.1 48 (by decide)) (hG_s_1.1 49 (by decide))
  have w1 : (s_1.1 46 0).toInt = (σ.1 46 0).toInt := by rw [hG_s_1.1 46 (by decide)]
  refine ok_jnI1 (fun (s_2 : Sto) => True ∧ (BX s_2) ∧ (FR [46, 47, 48, 49, 50, 51, 52, 53, 54, 55, 58, 60, 61] [] σ s_2) ∧ ((σ.1 52 0).toInt ≤ (s_2.1 52 0).toInt) ∧ (PI s_2) ∧ (SI s_2) ∧ (KI s_2) ∧ (PA s_2) ∧ (ES s_2) ∧ ((σ.1 46 0).toInt ≤ (s_2.1 46 0).toInt ∧ (s_2.1 61 0).toInt = (σ.1 61 0).toInt - 1) ∧ (F50 σ s_2) ∧ ((∀ B : Int, SB σ B → SB s_2 (B - (σ.1 50 v_1.toNatClampNeg).toInt)))) ?_ ?_
  · intro s_2 hJ
    obtain ⟨-, hB_s_2, hF_s_2, m52_s_2, hPI_s_2, hSI_s_2, hKI_s_2, hPA_s_2, hES_s_2, jz, jF, jS⟩ := hJ
    refine ok_calv (s_X1_pop  (σ := s_2) hB_s_2 hKI_s_2) (fun v_3 s_3 h_2 => ?_)
    obtain ⟨b_v_3, hB_s_3, hG_s_3, hKI_s_3, x_s_3⟩ := h_2
    (try dsimp only at b_v_3 hB_s_3 hG_s_3 hKI_s_3 x_s_3)
    have hF_s_3 : FR [46, 47, 48, 49, 50, 51, 52, 53, 54, 55, 58, 60, 61] [] σ s_3 := FR.cal hF_s_2 hG_s_3 rfl rfl
    have w_s_3_46 : (s_3.1 46 0).toInt = (s_2.1 46 0).toInt := by rw [hG_s_3.1 46 (by decide)]
    have w_s_3_52 : (s_3.1 52 0).toInt = (s_2.1 52 0).toInt := by rw [hG_s_3.1 52 (by decide)]
    have hPI_s_3 : PI s_3 := PI.fr hG_s_3 (by decide) hPI_s_2
    have hSI_s_3 : SI s_3 := SI.fr hG_s_3 (by decide) hSI_s_2
    have hPA_s_3 : PA s_3 := PA.fr hG_s_3 (by decide) hPA_s_2
    have hES_s_3 : ES s_3 := ES.fr hG_s_3 (by decide) hES_s_2
    have S3 := x_s_3.2 (by omega)
    have y3 := x_s_3.1 (by omega)
    clear x_s_3
    have c3v := clamp_I (x := v_3) (by omega)
    have p3 : s_3.1 50 = s_2.1 50 := hG_s_3.1 50 (by decide)
    refine ok_cals (s_X1_push (x1 := v_1) (σ := s_3) hB_s_3 hKI_s_3 (by omega) (by omega)) (fun s_4 h_3 => ?_)
    obtain ⟨hB_s_4, hG_s_4, hKI_s_4, x_s_4⟩ := h_3
    (try dsimp only at hB_s_4 hG_s_4 hKI_s_4 x_s_4)
    have hF_s_4 : FR [46, 47, 48, 49, 50, 51, 52, 53, 54, 55, 58, 60, 61] [] σ s_4 := FR.cal hF_s_3 hG_s_4 rfl rfl
    have w_s_4_46 : (s_4.1 46 0).toInt = (s_3.1 46 0).toInt := by rw [hG_s_4.1 46 (by decide)]
    have w_s_4_52 : (s_4.1 52 0).toInt = (s_3.1 52 0).toInt := by rw [hG_s_4.1 52 (by decide)]
    have hPI_s_4 : PI s_4 := PI.fr hG_s_4 (by decide) hPI_s_3
    have hSI_s_4 : SI s_4 := SI.fr hG_s_4 (by decide) hSI_s_3
    have hPA_s_4 : PA s_4 := PA.fr hG_s_4 (by decide) hPA_s_3
    have hES_s_4 : ES s_4 := ES.fr hG_s_4 (by decide) hES_s_3
    have S4 := x_s_4.2 (by omega)
    have y4 := x_s_4.1 (by omega)
    clear x_s_4
    have p4 : s_4.1 50 = s_3.1 50 := hG_s_4.1 50 (by decide)
    refine ok_cals (s_X1_push (x1 := v_3) (σ := s_4) hB_s_4 hKI_s_4 (by omega) (by omega)) (fun s_5 h_4 => ?_)
    obtain ⟨hB_s_5, hG_s_5, hKI_s_5, x_s_5⟩ := h_4
    (try dsimp only at hB_s_5 hG_s_5 hKI_s_5 x_s_5)
    have hF_s_5 : FR [46, 47, 48, 49, 50, 51, 52, 53, 54, 55, 58, 60, 61] [] σ s_5 := FR.cal hF_s_4 hG_s_5 rfl rfl
    have w_s_5_46 : (s_5.1 46 0).toInt = (s_4.1 46 0).toInt := by rw [hG_s_5.1 46 (by decide)]
    have w_s_5_52 : (s_5.1 52 0).toInt = (s_4.1 52 0).toInt := by rw [hG_s_5.1 52 (by decide)]
    have hPI_s_5 : PI s_5 := PI.fr hG_s_5 (by decide) hPI_s_4
    have hSI_s_5 : SI s_5 := SI.fr hG_s_5 (by decide) hSI_s_4
    have hPA_s_5 : PA s_5 := PA.fr hG_s_5 (by decide) hPA_s_4
    have hES_s_5 : ES s_5 := ES.fr hG_s_5 (by decide) hES_s_4
    have S5 := x_s_5.2 (by omega)
    have y5 := x_s_5.1 (by omega)
    clear x_s_5
    exact ok_ret ⟨hB_s_5, hF_s_5, hPI_s_5, hSI_s_5, hKI_s_5, hPA_s_5, hES_s_5, (by (try dsimp only); omega), ⟨by (try dsimp only); omega, by (try dsimp only); omega, (jF.tr (F50.of p3 (hG_s_3.1 48 (by decide)) (hG_s_3.1 49 (by decide))) (by omega)).tr ((F50.of p4 (hG_s_4.1 48 (by decide)) (hG_s_4.1 49 (by decide))).tr (F50.of (hG_s_5.1 50 (by decide)) (hG_s_5.1 48 (by decide)) (hG_s_5.1 49 (by decide))) (by omega)) (by omega), fun B h => (S5 _ (S4 _ (S3 _ (jS B h)))).mono (by rw [p4, p3, (jF v_1.toNatClampNeg (by omega)).1]; omega)⟩⟩
  · intro k_51 hk_k_51
    have g_6 := gX_61 hB_s_1 0
    refine ok_ite (fun c_5 => ?_) (fun c_5 => ?_)
    · rw [fa_le] at c_5
      exact hk_k_51 s_1 ⟨trivial, hB_s_1, hF_s_1, (by omega), hPI_s_1, hSI_s_1, hKI_s_1, hPA_s_1, hES_s_1, (by omega), F1, (fun B h => S1 B h)⟩
    · rw [fa_le] at c_5
      refine ok_calp (s_X7_hasEffects (x1 := v_1) (σ := s_1) hB_s_1 (by omega)) (fun v_7 h_7 => ?_)
      have b_v_7 := h_7
      (try dsimp only at b_v_7)
      refine ok_ite (fun c_8 => ?_) (fun c_8 => ?_)
      · rw [fa_eq] at c_8
        exact hk_k_51 s_1 ⟨trivial, hB_s_1, hF_s_1, (by omega), hPI_s_1, hSI_s_1, hKI_s_1, hPA_s_1, hES_s_1, (by omega), F1, (fun B h => S1 B h)⟩
      · rw [fa_eq] at c_8
        obtain ⟨t_9, ht_9, g_9⟩ : ∃ t : Int, ((s_1.1 61 0) - 1).toInt = t ∧ t = (s_1.1 61 0).toInt - (1 : Int32).toInt := ⟨_, rfl, by have h9 := fb_subI (x := (s_1.1 61 0)) (y := (1 : Int32)) (by omega) (by omega); exact h9⟩
        refine ok_ix ⟨by rw [ht_9]; omega, by rw [ht_9]; omega⟩ ?_
        have g_10 := gX_60 hB_s_1 (((s_1.1 61 0) - 1).toNatClampNeg)
        refine ok_lt fun v_9 e_v_9 => ?_
        have b_v_9 : 0 ≤ v_9.toInt ∧ v_9.toInt ≤ 511 := by rw [e_v_9]; exact gX_60 hB_s_1 _
        have q_v_9 : v_9.toInt = (s_1.1 60 ((s_1.1 61 0) - 1).toNatClampNeg).toInt := by rw [e_v_9]
        refine ok_calp (s_X7_hasEffects (x1 := v_9) (σ := s_1) hB_s_1 (by omega)) (fun v_10 h_11 => ?_)
        have b_v_10 := h_11
        (try dsimp only at b_v_10)
        refine ok_ite (fun c_12 => ?_) (fun c_12 => ?_)
        · rw [fa_eq] at c_12
          exact hk_k_51 s_1 ⟨trivial, hB_s_1, hF_s_1, (by omega), hPI_s_1, hSI_s_1, hKI_s_1, hPA_s_1, hES_s_1, (by omega), F1, (fun B h => S1 B h)⟩
        · rw [fa_eq] at c_12
          refine ok_cals (s_X1_spill (x1 := (4096 : Int32)) (σ := s_1) hB_s_1 hPI_s_1 hSI_s_1 hKI_s_1 hPA_s_1 hES_s_1) (fun s_12 h_13 => ?_)
          obtain ⟨hB_s_12, hG_s_12, hPI_s_12, hSI_s_12, hKI_s_12, hPA_s_12, hES_s_12, m52_s_12, x_s_12⟩ := h_13
          (try dsimp only at hB_s_12 hG_s_12 hPI_s_12 hSI_s_12 hKI_s_12 hPA_s_12 hES_s_12 m52_s_12 x_s_12)
          have hF_s_12 : FR [46, 47, 48, 49, 50, 51, 52, 53, 54, 55, 58, 60, 61] [] σ s_12 := FR.cal hF_s_1 hG_s_12 rfl rfl
          have w_s_12_61 : (s_12.1 61 0).toInt = (s_1.1 61 0).toInt := by rw [hG_s_12.1 61 (by decide)]
          have F12 := x_s_12.2.1
          have S12 := x_s_12.2.2
          have x_s_12 := x_s_12.1
          exact hk_k_51 s_12 ⟨trivial, hB_s_12, hF_s_12, (by omega), hPI_s_12, hSI_s_12, hKI_s_12, hPA_s_12, hES_s_12, (by omega), (F1.tr F12 (by omega)), (fun B h => S12 _ (S1 B h))⟩

set_option maxHeartbeats 4000000 in
theorem s_X3_chooses {x1 : Int32} {σ : Sto} (hB : BX σ) (p_x1 : 0 ≤ x1.toInt ∧ x1.toInt ≤ 39) : OK (f_X3_chooses x1 σ) (fun v => (0 ≤ v.toInt ∧ v.toInt ≤ 1)) := by
  unfold f_X3_chooses
  have hF : FR [] [] σ σ := FR.rf
  have k_0 : (0 : Int32).toInt = 0 := by decide +kernel
  have k_1 : (1 : Int32).toInt = 1 := by decide +kernel
  have k_122 : (122 : Int32).toInt = 122 := by decide +kernel
  refine ok_ix ⟨by omega, by omega⟩ ?_
  have g_1 := gX_6 hB (x1.toNatClampNeg)
  refine ok_lt fun v_1 e_v_1 => ?_
  have b_v_1 : 0 ≤ v_1.toInt ∧ v_1.toInt ≤ 255 := by rw [e_v_1]; exact gX_6 hB _
  refine ok_jn ?_
  refine ok_ite (fun c_2 => ?_) (fun c_2 => ?_)
  · rw [fa_eq] at c_2
    refine ok_ix ⟨by omega, by omega⟩ ?_
    have g_3 := gX_7 hB (x1.toNatClampNeg)
    refine ok_lt fun v_4 e_v_4 => ?_
    have b_v_4 : 0 ≤ v_4.toInt ∧ v_4.toInt ≤ 999 := by rw [e_v_4]; exact gX_7 hB _
    obtain ⟨t_5, ht_5, g_5⟩ : ∃ t : Int, (x1 + 1).toInt = t ∧ t = x1.toInt + (1 : Int32).toInt := ⟨_, rfl, by have h9 := fb_addI (x := x1) (y := (1 : Int32)) (by omega) (by omega); exact h9⟩
    refine ok_ite (fun c_4 => ?_) (fun c_4 => ?_)
    · rw [fa_eq, ht_5] at c_4
      exact ok_ret (by (try dsimp only); omega)
    · rw [fa_eq, ht_5] at c_4
      exact ok_ret (by (try dsimp only); omega)
  · rw [fa_eq] at c_2
    exact ok_ret (by (try dsimp only); omega)

set_option maxHeartbeats 4000000 in
theorem s_X1_operate {x1 : Int32} {σ : Sto} (hB : BX σ) (hPI : PI σ) (hSI : SI σ) (hKI : KI σ) (hPA : PA σ) (hES : ES σ) (p_x1 : 0 ≤ x1.toInt ∧ x1.toInt ≤ 255) (hop : opU x1 ∨ opB x1) (hh1 : 1 ≤ (σ.1 61 0).toInt) (hh2 : opB x1 → 2 ≤ (σ.1 61 0).toInt) (hSB : SB σ 58) : OK (f_X1_operate x1 σ) (fun s => BX s ∧ FR [46, 47, 48, 49, 50, 51, 60, 61] [] σ s ∧ PI s ∧ SI s ∧ KI s ∧ PA s ∧ ES s ∧ ((σ.1 46 0).toInt ≤ (s.1 46 0).toInt ∧ (opB x1 → (s.1 61 0).toInt = (σ.1 61 0).toInt - 1) ∧ (¬ opB x1 → (s.1 61 0).toInt = (σ.1 61 0).toInt) ∧ (∀ B : Int, SB σ B → SB s (B + 1)))) := by
  unfold f_X1_operate
  have hF : FR [46, 47, 48, 49, 50, 51, 60, 61] [] σ σ := FR.rf
  have k_0 : (0 : Int32).toInt = 0 := by decide +kernel
  have g9 := gX_61 hB 0
  refine ok_calv (s_X1_pop  (σ := σ) hB hKI) (fun v_1 s_1 h_1 => ?_)
  obtain ⟨b_v_1, hB_s_1, hG_s_1, hKI_s_1, x_s_1⟩ := h_1
  (try dsimp only at b_v_1 hB_s_1 hG_s_1 hKI_s_1 x_s_1)
  have hF_s_1 : FR [46, 47, 48, 49, 50, 51, 60, 61] [] σ s_1 := FR.cal hF hG_s_1 rfl rfl
  have w_s_1_46 : (s_1.1 46 0).toInt = (σ.1 46 0).toInt := by rw [hG_s_1.1 46 (by decide)]
  have hPI_s_1 : PI s_1 := PI.fr hG_s_1 (by decide) hPI
  have hSI_s_1 : SI s_1 := SI.fr hG_s_1 (by decide) hSI
  have hPA_s_1 : PA s_1 := PA.fr hG_s_1 (by decide) hPA
  have hES_s_1 : ES s_1 := ES.fr hG_s_1 (by decide) hES
  have S1 := x_s_1.2 (by omega)
  have y1 := x_s_1.1 (by omega)
  clear x_s_1
  have c1 := clamp_I (x := v_1) (by omega)
  have N1 := (S1 _ hSB).nn hKI_s_1 hPA_s_1 hB_s_1
  have r1 : s_1.1 50 = σ.1 50 := hG_s_1.1 50 (by decide)
  have hU1 : opU x1 → pex x1.toInt (s_1.1 50 v_1.toNatClampNeg).toInt (s_1.1 50 (0 : Int32).toNatClampNeg).toInt = 1 + (σ.1 50 v_1.toNatClampNeg).toInt := fun h => by rw [pex_U h, r1]
  refine ok_calp (s_X11_isBinary (x1 := x1) ) (fun v_2 h_2 => ?_)
  obtain ⟨b_v_2, x_v_2⟩ := h_2
  (try dsimp only at b_v_2 x_v_2)
  have hnb : v_2.toInt = 0 → ¬ opB x1 := fun h q => by have := x_v_2.mpr q; omega
  have hbb : v_2.toInt = 1 → opB x1 := x_v_2.mp
  have hb2 : v_2.toInt = 1 → 2 ≤ (σ.1 61 0).toInt := fun h => hh2 (x_v_2.mp h)
  have hT9 : v_2.toInt = 0 → T1 (s_1.1 46 0).toInt x1 v_1 0 := fun h => t1_op hop (by omega) (gX_46 hB_s_1 0).2 (fun q => absurd q (hnb h))
  have g46 := gX_46 hB_s_1 0
  have hu2 : v_2.toInt = 0 → opU x1 := fun h => hop.resolve_right (hnb h)
  refine ok_ite (fun c_3 => ?_) (fun c_3 => ?_)
  · rw [fa_eq] at c_3
    refine ok_calv (s_X7_make (x1 := x1) (x2 := v_1) (x3 := (0 : Int32)) (σ := s_1) hB_s_1 hPI_s_1 hPA_s_1 (by omega) (by omega) (by omega) (by first | exact hT9 (by omega) | exact t1_op hop (by omega) (gX_46 hB_s_6 0).2 (fun _ => by omega)) (by first | (rw [hU1 (hu2 (by omega))]; omega) | (rw [e6]; omega)) (Or.inr hop)) (fun v_4 s_4 h_4 => ?_)
    obtain ⟨b_v_4, hB_s_4, hG_s_4, hPI_s_4, hPA_s_4, x_s_4⟩ := h_4
    (try dsimp only at b_v_4 hB_s_4 hG_s_4 hPI_s_4 hPA_s_4 x_s_4)
    have hF_s_4 : FR [46, 47, 48, 49, 50, 51, 60, 61] [] σ s_4 := FR.cal hF_s_1 hG_s_4 rfl rfl
    have w_s_4_61 : (s_4.1 61 0).toInt = (s_1.1 61 0).toInt := by rw [hG_s_4.1 61 (by decide)]
    have hSI_s_4 : SI s_4 := SI.fr hG_s_4 (by decide) hSI_s_1
    have L4_ := x_s_4.2.2.2.2
    rw [hU1 (hu2 (by omega))] at L4_
    have F4 := x_s_4.2.2.2.1
    have x_s_4 : (s_1.1 46 0).toInt ≤ (s_4.1 46 0).toInt ∧ v_4.toInt < (s_4.1 46 0).toInt := ⟨x_s_4.1, x_s_4.2.1⟩
    have hKI_s_4 : KI s_4 := KI.up hKI_s_1 (hG_s_4.1 60 (by decide)) (hG_s_4.1 61 (by decide)) x_s_4.1
    have hES_s_4 : ES s_4 := ES.up hES_s_1 (hG_s_4.1 52 (by decide)) (hG_s_4.1 55 (by decide)) x_s_4.1
    have c4 : ∀ B, SB s_1 B → SB s_4 B := fun B h => h.same hKI_s_1 (hG_s_4.1 60 (by decide)) (hG_s_4.1 61 (by decide)) F4 hB_s_1
    refine ok_cals (s_X1_push (x1 := v_4) (σ := s_4) hB_s_4 hKI_s_4 (by omega) (by omega)) (fun s_5 h_5 => ?_)
    obtain ⟨hB_s_5, hG_s_5, hKI_s_5, x_s_5⟩ := h_5
    (try dsimp only at hB_s_5 hG_s_5 hKI_s_5 x_s_5)
    have hF_s_5 : FR [46, 47, 48, 49, 50, 51, 60, 61] [] σ s_5 := FR.cal hF_s_4 hG_s_5 rfl rfl
    have w_s_5_46 : (s_5.1 46 0).toInt = (s_4.1 46 0).toInt := by rw [hG_s_5.1 46 (by decide)]
    have hPI_s_5 : PI s_5 := PI.fr hG_s_5 (by decide) hPI_s_4
    have hPA_s_5 : PA s_5 := PA.fr hG_s_5 (by decide) hPA_s_4
    have hSI_s_5 : SI s_5 := SI.fr hG_s_5 (by decide) hSI_s_4
    have hES_s_5 : ES s_5 := ES.fr hG_s_5 (by decide) hES_s_4
    have S5 := x_s_5.2 (by omega)
    have y5 := x_s_5.1
    clear x_s_5
    exact ok_ret ⟨hB_s_5, hF_s_5, hPI_s_5, hSI_s_5, hKI_s_5, hPA_s_5, hES_s_5, ⟨by (try dsimp only); omega, fun h => by first | exact absurd h (hnb (by omega)) | ((try dsimp only); omega), fun h => by first | exact absurd (hbb (by omega)) h | ((try dsimp only); omega), fun B h => by first | exact (S5 _ (c4 _ (S1 _ h))).mono (by omega) | exact (S8 _ (c7 _ (S6 _ (S1 _ h)))).mono (by omega)⟩⟩
  · rw [fa_eq] at c_3
    refine ok_calv (s_X1_pop  (σ := s_1) hB_s_1 hKI_s_1) (fun v_6 s_6 h_6 => ?_)
    obtain ⟨b_v_6, hB_s_6, hG_s_6, hKI_s_6, x_s_6⟩ := h_6
    (try dsimp only at b_v_6 hB_s_6 hG_s_6 hKI_s_6 x_s_6)
    have hF_s_6 : FR [46, 47, 48, 49, 50, 51, 60, 61] [] σ s_6 := FR.cal hF_s_1 hG_s_6 rfl rfl
    have w_s_6_46 : (s_6.1 46 0).toInt = (s_1.1 46 0).toInt := by rw [hG_s_6.1 46 (by decide)]
    have hPI_s_6 : PI s_6 := PI.fr hG_s_6 (by decide) hPI_s_1
    have hSI_s_6 : SI s_6 := SI.fr hG_s_6 (by decide) hSI_s_1
    have hPA_s_6 : PA s_6 := PA.fr hG_s_6 (by decide) hPA_s_1
    have hES_s_6 : ES s_6 := ES.fr hG_s_6 (by decide) hES_s_1
    have S6 := x_s_6.2 (by omega)
    have y6 := x_s_6.1 (by omega)
    clear x_s_6
    have c6 := clamp_I (x := v_6) (by omega)
    have N6 := (S6 _ (S1 _ hSB)).nn hKI_s_6 hPA_s_6 hB_s_6
    have r6 : s_6.1 50 = σ.1 50 := (hG_s_6.1 50 (by decide)).trans r1
    have hB6 : opB x1 := hbb (by omega)
    have e6 : pex x1.toInt (s_6.1 50 v_6.toNatClampNeg).toInt (s_6.1 50 v_1.toNatClampNeg).toInt = 1 + (σ.1 50 v_6.toNatClampNeg).toInt + (σ.1 50 v_1.toNatClampNeg).toInt := by rw [pex_B hB6, r6]
    have z6 : (s_1.1 50 v_6.toNatClampNeg).toInt = (σ.1 50 v_6.toNatClampNeg).toInt := by rw [r1]
    refine ok_calv (s_X7_make (x1 := x1) (x2 := v_6) (x3 := v_1) (σ := s_6) hB_s_6 hPI_s_6 hPA_s_6 (by omega) (by omega) (by omega) (by first | exact hT9 (by omega) | exact t1_op hop (by omega) (gX_46 hB_s_6 0).2 (fun _ => by omega)) (by first | (rw [hU1 (hu2 (by omega))]; omega) | (rw [e6]; omega)) (Or.inr hop)) (fun v_7 s_7 h_7 => ?_)
    obtain ⟨b_v_7, hB_s_7, hG_s_7, hPI_s_7, hPA_s_7, x_s_7⟩ := h_7
    (try dsimp only at b_v_7 hB_s_7 hG_s_7 hPI_s_7 hPA_s_7 x_s_7)
    have hF_s_7 : FR [46, 47, 48, 49, 50, 51, 60, 61] [] σ s_7 := FR.cal hF_s_6 hG_s_7 rfl rfl
    have w_s_7_61 : (s_7.1 61 0).toInt = (s_6.1 61 0).toInt := by rw [hG_s_7.1 61 (by decide)]
    have hSI_s_7 : SI s_7 := SI.fr hG_s_7 (by decide) hSI_s_6
    have L7 := x_s_7.2.2.2.2
    rw [e6] at L7
    have F7 := x_s_7.2.2.2.1
    have x_s_7 : (s_6.1 46 0).toInt ≤ (s_7.1 46 0).toInt ∧ v_7.toInt < (s_7.1 46 0).toInt := ⟨x_s_7.1, x_s_7.2.1⟩
    have hKI_s_7 : KI s_7 := KI.up hKI_s_6 (hG_s_7.1 60 (by decide)) (hG_s_7.1 61 (by decide)) x_s_7.1
    have hES_s_7 : ES s_7 := ES.up hES_s_6 (hG_s_7.1 52 (by decide)) (hG_s_7.1 55 (by decide)) x_s_7.1
    have c7 : ∀ B, SB s_6 B → SB s_7 B := fun B h => h.same hKI_s_6 (hG_s_7.1 60 (by decide)) (hG_s_7.1 61 (by decide)) F7 hB_s_6
    refine ok_cals (s_X1_push (x1 := v_7) (σ := s_7) hB_s_7 hKI_s_7 (by omega) (by omega)) (fun s_8 h_8 => ?_)
    obtain ⟨hB_s_8, hG_s_8, hKI_s_8, x_s_8⟩ := h_8
    (try dsimp only at hB_s_8 hG_s_8 hKI_s_8 x_s_8)
    have hF_s_8 : FR [46, 47, 48, 49, 50, 51, 60, 61] [] σ s_8 := FR.cal hF_s_7 hG_s_8 rfl rfl
    have w_s_8_46 : (s_8.1 46 0).toInt = (s_7.1 46 0).toInt := by rw [hG_s_8.1 46 (by decide)]
    have hPI_s_8 : PI s_8 := PI.fr hG_s_8 (by decide) hPI_s_7
    have hPA_s_8 : PA s_8 := PA.fr hG_s_8 (by decide) hPA_s_7
    have hSI_s_8 : SI s_8 := SI.fr hG_s_8 (by decide) hSI_s_7
    have hES_s_8 : ES s_8 := ES.fr hG_s_8 (by decide) hES_s_7
    have S8 := x_s_8.2 (by omega)
    have y8 := x_s_8.1
    clear x_s_8
    exact ok_ret ⟨hB_s_8, hF_s_8, hPI_s_8, hSI_s_8, hKI_s_8, hPA_s_8, hES_s_8, ⟨by (try dsimp only); omega, fun h => by first | exact absurd h (hnb (by omega)) | ((try dsimp only); omega), fun h => by first | exact absurd (hbb (by omega)) h | ((try dsimp only); omega), fun B h => by first | exact (S5 _ (c4 _ (S1 _ h))).mono (by omega) | exact (S8 _ (c7 _ (S6 _ (S1 _ h)))).mono (by omega)⟩⟩

set_option maxHeartbeats 4000000 in
theorem s_X1_step {x1 : Int32} {x2 : Int32} {σ : Sto} (hB : BX σ) (hPI : PI σ) (hSI : SI σ) (hKI : KI σ) (hPA : PA σ) (hES : ES σ) (p_x1 : 0 ≤ x1.toInt ∧ x1.toInt ≤ 39) (p_x2 : 0 ≤ x2.toInt ∧ x2.toInt ≤ 39) (hV0 : VS (σ.1 6 x2.toNatClampNeg) (σ.1 7 x2.toNatClampNeg)) (hN0 : ND (σ.1 6 x2.toNatClampNeg).toInt (σ.1 61 0).toInt) (ht : (σ.1 57 x1.toNatClampNeg).toInt < (σ.1 46 0).toInt) (hSB : SB σ 58) : OK (f_X1_step x1 x2 σ) (fun s => BX s ∧ FR [46, 47, 48, 49, 50, 51, 52, 53, 54, 55, 57, 58, 60, 61] [] σ s ∧ PI s ∧ SI s ∧ KI s ∧ PA s ∧ ES s ∧ (σ.1 52 0).toInt ≤ (s.1 52 0).toInt ∧ ((σ.1 46 0).toInt ≤ (s.1 46 0).toInt ∧ (s.1 57 x1.toNatClampNeg).toInt < (s.1 46 0).toInt ∧ HD (σ.1 6 x2.toNatClampNeg).toInt (σ.1 61 0).toInt (s.1 61 0).toInt ∧ (∀ q : Nat, q ≠ x1.toNatClampNeg → s.1 57 q = σ.1 57 q) ∧ (∀ B : Int, SB σ B → SB s (B + 1)))) := by
  unfold f_X1_step
  have hF : FR [46, 47, 48, 49, 50, 51, 52, 53, 54, 55, 57, 58, 60, 61] [] σ σ := FR.rf
  have k_m1 : ((-1) : Int32).toInt = -1 := by decide +kernel
  have k_0 : (0 : Int32).toInt = 0 := by decide +kernel
  have k_3 : (3 : Int32).toInt = 3 := by decide +kernel
  have k_5 : (5 : Int32).toInt = 5 := by decide +kernel
  have k_6 : (6 : Int32).toInt = 6 := by decide +kernel
  have k_100 : (100 : Int32).toInt = 100 := by decide +kernel
  have k_103 : (103 : Int32).toInt = 103 := by decide +kernel
  have k_111 : (111 : Int32).toInt = 111 := by decide +kernel
  have k_112 : (112 : Int32).toInt = 112 := by decide +kernel
  have k_114 : (114 : Int32).toInt = 114 := by decide +kernel
  have k_115 : (115 : Int32).toInt = 115 := by decide +kernel
  have k_116 : (116 : Int32).toInt = 116 := by decide +kernel
  have k_119 : (119 : Int32).toInt = 119 := by decide +kernel
  have k_122 : (122 : Int32).toInt = 122 := by decide +kernel
  have g46z := gX_46 hB 0
  have hW57_0 : ∀ q : Nat, q ≠ x1.toNatClampNeg → σ.1 57 q = σ.1 57 q := fun _ _ => rfl
  refine ok_ix ⟨by omega, by omega⟩ ?_
  have g_1 := gX_6 hB (x2.toNatClampNeg)
  refine ok_lt fun v_1 e_v_1 => ?_
  have b_v_1 : 0 ≤ v_1.toInt ∧ v_1.toInt ≤ 255 := by rw [e_v_1]; exact gX_6 hB _
  refine ok_ix ⟨by omega, by omega⟩ ?_
  have g_2 := gX_7 hB (x2.toNatClampNeg)
  refine ok_lt fun v_2 e_v_2 => ?_
  have b_v_2 : 0 ≤ v_2.toInt ∧ v_2.toInt ≤ 999 := by rw [e_v_2]; exact gX_7 hB _
  have hV : VS v_1 v_2 := by rw [e_v_1, e_v_2]; exact hV0
  have hND : ND v_1.toInt (σ.1 61 0).toInt := by rw [e_v_1]; exact hN0
  have z115 : v_1.toInt = 115 → v_2.toInt ≤ 5 := fun q => hV.1 (Or.inr q)
  refine ok_ite (fun c_3 => ?_) (fun c_3 => ?_)
  · have c_3 := c_3
    refine ok_cals (s_X1_twice  (σ := σ) hB hPI hSI hKI hPA hES (nd_100 hND (by omega)).1 (by have := (nd_100 hND (by omega)).2; omega)) (fun s_4 h_4 => ?_)
    obtain ⟨hB_s_4, hG_s_4, hPI_s_4, hSI_s_4, hKI_s_4, hPA_s_4, hES_s_4, m52_s_4, x_s_4⟩ := h_4
    (try dsimp only at hB_s_4 hG_s_4 hPI_s_4 hSI_s_4 hKI_s_4 hPA_s_4 hES_s_4 m52_s_4 x_s_4)
    have hF_s_4 : FR [46, 47, 48, 49, 50, 51, 52, 53, 54, 55, 57, 58, 60, 61] [] σ s_4 := FR.cal hF hG_s_4 rfl rfl
    have z57_s_4 : (s_4.1 57 x1.toNatClampNeg).toInt = (σ.1 57 x1.toNatClampNeg).toInt := by rw [hG_s_4.1 57 (by decide)]
    have hW57_s_4 : ∀ q : Nat, q ≠ x1.toNatClampNeg → s_4.1 57 q = σ.1 57 q := by rw [hG_s_4.1 57 (by decide)]; exact hW57_0
    have S4 := x_s_4.2.2
    have x_s_4 := And.intro x_s_4.1 x_s_4.2.1
    exact ok_ret ⟨hB_s_4, hF_s_4, hPI_s_4, hSI_s_4, hKI_s_4, hPA_s_4, hES_s_4, (by (try dsimp only); omega), ⟨by (try dsimp only); omega, by (try dsimp only); omega, by (try dsimp only); first | exact (by rw [← e_v_1]; exact hd_o (vs_op hV (by omega)) x_s_23.2.1 x_s_23.2.2) | exact (by rw [← e_v_1]; exact hd_1 (by omega)), hW57_s_4, fun B h => S4 B h⟩⟩
  · have c_3 := c_3
    refine ok_ite (fun c_5 => ?_) (fun c_5 => ?_)
    · have c_5 := c_5
      exact ok_ret ⟨hB, hF, hPI, hSI, hKI, hPA, hES, (by (try dsimp only); omega), ⟨by (try dsimp only); omega, by (try dsimp only); omega, by (try dsimp only); first | exact (by rw [← e_v_1]; exact hd_o (vs_op hV (by omega)) x_s_23.2.1 x_s_23.2.2) | exact (by rw [← e_v_1]; exact hd_1 (by omega)), hW57_0, fun B h => h.mono (by omega)⟩⟩
    · have c_5 := c_5
      refine ok_ite (fun c_6 => ?_) (fun c_6 => ?_)
      · have c_6 := c_6
        refine ok_calv (s_X7_make (x1 := v_1) (x2 := v_2) (x3 := (0 : Int32)) (σ := σ) hB hPI hPA (by omega) (by omega) (by omega) (vs_T1 hV (by omega)) (by rw [pex_L (by omega)]; decide) (Or.inl (by omega))) (fun v_5 s_5 h_7 => ?_)
        obtain ⟨b_v_5, hB_s_5, hG_s_5, hPI_s_5, hPA_s_5, x_s_5⟩ := h_7
        (try dsimp only at b_v_5 hB_s_5 hG_s_5 hPI_s_5 hPA_s_5 x_s_5)
        have hF_s_5 : FR [46, 47, 48, 49, 50, 51, 52, 53, 54, 55, 57, 58, 60, 61] [] σ s_5 := FR.cal hF hG_s_5 rfl rfl
        have w_s_5_52 : (s_5.1 52 0).toInt = (σ.1 52 0).toInt := by rw [hG_s_5.1 52 (by decide)]
        have w_s_5_61 : (s_5.1 61 0).toInt = (σ.1 61 0).toInt := by rw [hG_s_5.1 61 (by decide)]
        have z57_s_5 : (s_5.1 57 x1.toNatClampNeg).toInt = (σ.1 57 x1.toNatClampNeg).toInt := by rw [hG_s_5.1 57 (by decide)]
        have hSI_s_5 : SI s_5 := SI.fr hG_s_5 (by decide) hSI
        have hW57_s_5 : ∀ q : Nat, q ≠ x1.toNatClampNeg → s_5.1 57 q = σ.1 57 q := by rw [hG_s_5.1 57 (by decide)]; exact hW57_0
        have L5_ := x_s_5.2.2.2.2
        rw [pex_L (by omega)] at L5_
        have F5_ := x_s_5.2.2.2.1
        have x_s_5 : (σ.1 46 0).toInt ≤ (s_5.1 46 0).toInt ∧ v_5.toInt < (s_5.1 46 0).toInt := ⟨x_s_5.1, x_s_5.2.1⟩
        have hKI_s_5 : KI s_5 := KI.up hKI (hG_s_5.1 60 (by decide)) (hG_s_5.1 61 (by decide)) x_s_5.1
        have hES_s_5 : ES s_5 := ES.up hES (hG_s_5.1 52 (by decide)) (hG_s_5.1 55 (by decide)) x_s_5.1
        have n5 := nd_in hND (by omega)
        have c5 : ∀ B, SB σ B → SB s_5 B := fun B h => h.same hKI (hG_s_5.1 60 (by decide)) (hG_s_5.1 61 (by decide)) F5_ hB
        refine ok_cals (s_X1_push (x1 := v_5) (σ := s_5) hB_s_5 hKI_s_5 (by omega) (by omega)) (fun s_6 h_8 => ?_)
        obtain ⟨hB_s_6, hG_s_6, hKI_s_6, x_s_6⟩ := h_8
        (try dsimp only at hB_s_6 hG_s_6 hKI_s_6 x_s_6)
        have hF_s_6 : FR [46, 47, 48, 49, 50, 51, 52, 53, 54, 55, 57, 58, 60, 61] [] σ s_6 := FR.cal hF_s_5 hG_s_6 rfl rfl
        have w_s_6_46 : (s_6.1 46 0).toInt = (s_5.1 46 0).toInt := by rw [hG_s_6.1 46 (by decide)]
        have w_s_6_52 : (s_6.1 52 0).toInt = (s_5.1 52 0).toInt := by rw [hG_s_6.1 52 (by decide)]
        have z57_s_6 : (s_6.1 57 x1.toNatClampNeg).toInt = (s_5.1 57 x1.toNatClampNeg).toInt := by rw [hG_s_6.1 57 (by decide)]
        have hPI_s_6 : PI s_6 := PI.fr hG_s_6 (by decide) hPI_s_5
        have hPA_s_6 : PA s_6 := PA.fr hG_s_6 (by decide) hPA_s_5
        have hSI_s_6 : SI s_6 := SI.fr hG_s_6 (by decide) hSI_s_5
        have hW57_s_6 : ∀ q : Nat, q ≠ x1.toNatClampNeg → s_6.1 57 q = σ.1 57 q := by rw [hG_s_6.1 57 (by decide)]; exact hW57_s_5
        have hES_s_6 : ES s_6 := ES.fr hG_s_6 (by decide) hES_s_5
        have S6 := x_s_6.2 (by omega)
        have y6 := x_s_6.1 (by omega)
        clear x_s_6
        exact ok_ret ⟨hB_s_6, hF_s_6, hPI_s_6, hSI_s_6, hKI_s_6, hPA_s_6, hES_s_6, (by (try dsimp only); omega), ⟨by (try dsimp only); omega, by (try dsimp only); omega, by (try dsimp only); first | exact (by rw [← e_v_1]; exact hd_o (vs_op hV (by omega)) x_s_23.2.1 x_s_23.2.2) | exact (by rw [← e_v_1]; exact hd_1 (by omega)), hW57_s_6, fun B h => (S6 _ (c5 _ h)).mono (by omega)⟩⟩
      · have c_6 := c_6
        refine ok_ite (fun c_9 => ?_) (fun c_9 => ?_)
        · have c_9 := c_9
          refine ok_calv (s_X1_pop  (σ := σ) hB hKI) (fun v_7 s_7 h_10 => ?_)
          obtain ⟨b_v_7, hB_s_7, hG_s_7, hKI_s_7, x_s_7⟩ := h_10
          (try dsimp only at b_v_7 hB_s_7 hG_s_7 hKI_s_7 x_s_7)
          have hF_s_7 : FR [46, 47, 48, 49, 50, 51, 52, 53, 54, 55, 57, 58, 60, 61] [] σ s_7 := FR.cal hF hG_s_7 rfl rfl
          have w_s_7_46 : (s_7.1 46 0).toInt = (σ.1 46 0).toInt := by rw [hG_s_7.1 46 (by decide)]
          have w_s_7_52 : (s_7.1 52 0).toInt = (σ.1 52 0).toInt := by rw [hG_s_7.1 52 (by decide)]
          have z57_s_7 : (s_7.1 57 x1.toNatClampNeg).toInt = (σ.1 57 x1.toNatClampNeg).toInt := by rw [hG_s_7.1 57 (by decide)]
          have hPI_s_7 : PI s_7 := PI.fr hG_s_7 (by decide) hPI
          have hSI_s_7 : SI s_7 := SI.fr hG_s_7 (by decide) hSI
          have hPA_s_7 : PA s_7 := PA.fr hG_s_7 (by decide) hPA
          have hES_s_7 : ES s_7 := ES.fr hG_s_7 (by decide) hES
          have hW57_s_7 : ∀ q : Nat, q ≠ x1.toNatClampNeg → s_7.1 57 q = σ.1 57 q := by rw [hG_s_7.1 57 (by decide)]; exact hW57_0
          have n1 := nd_1 hND (by omega)
          have S7 := x_s_7.2 n1
          have y7 := x_s_7.1 n1
          clear x_s_7
          have pp := (hPA.1 v_7.toNatClampNeg (by have := clamp_I (x := v_7) (by omega); omega)).1
          refine ok_cals (s_X1_state (x1 := (3 : Int32)) (x2 := ((-1) : Int32)) (x3 := v_7) (σ := s_7) hB_s_7 hPI_s_7 hSI_s_7 hKI_s_7 hPA_s_7 hES_s_7 (by omega) (by omega) (by omega) (by first | exact t2_o (by omega) | exact t2_T (by omega) (by omega) ⟨by omega, z115 (by omega)⟩ (by omega)) (by omega)) (fun s_8 h_11 => ?_)
          obtain ⟨hB_s_8, hG_s_8, hPI_s_8, hSI_s_8, hKI_s_8, hPA_s_8, hES_s_8, m52_s_8, x_s_8⟩ := h_11
          (try dsimp only at hB_s_8 hG_s_8 hPI_s_8 hSI_s_8 hKI_s_8 hPA_s_8 hES_s_8 m52_s_8 x_s_8)
          have hF_s_8 : FR [46, 47, 48, 49, 50, 51, 52, 53, 54, 55, 57, 58, 60, 61] [] σ s_8 := FR.cal hF_s_7 hG_s_8 rfl rfl
          have w_s_8_61 : (s_8.1 61 0).toInt = (s_7.1 61 0).toInt := by rw [hG_s_8.1 61 (by decide)]
          have z57_s_8 : (s_8.1 57 x1.toNatClampNeg).toInt = (s_7.1 57 x1.toNatClampNeg).toInt := by rw [hG_s_8.1 57 (by decide)]
          have hW57_s_8 : ∀ q : Nat, q ≠ x1.toNatClampNeg → s_8.1 57 q = σ.1 57 q := by rw [hG_s_8.1 57 (by decide)]; exact hW57_s_7
          exact ok_ret ⟨hB_s_8, hF_s_8, hPI_s_8, hSI_s_8, hKI_s_8, hPA_s_8, hES_s_8, (by (try dsimp only); omega), ⟨by (try dsimp only); omega, by (try dsimp only); omega, by (try dsimp only); first | exact (by rw [← e_v_1]; exact hd_o (vs_op hV (by omega)) x_s_23.2.1 x_s_23.2.2) | exact (by rw [← e_v_1]; exact hd_1 (by omega)), hW57_s_8, fun B h => (x_s_8.2.2 _ (S7 _ h)).mono (by omega)⟩⟩
        · have c_9 := c_9
          refine ok_ite (fun c_12 => ?_) (fun c_12 => ?_)
          · have c_12 := c_12
            refine ok_calv (s_X1_pop  (σ := σ) hB hKI) (fun v_9 s_9 h_13 => ?_)
            obtain ⟨b_v_9, hB_s_9, hG_s_9, hKI_s_9, x_s_9⟩ := h_13
            (try dsimp only at b_v_9 hB_s_9 hG_s_9 hKI_s_9 x_s_9)
            have hF_s_9 : FR [46, 47, 48, 49, 50, 51, 52, 53, 54, 55, 57, 58, 60, 61] [] σ s_9 := FR.cal hF hG_s_9 rfl rfl
            have w_s_9_46 : (s_9.1 46 0).toInt = (σ.1 46 0).toInt := by rw [hG_s_9.1 46 (by decide)]
            have w_s_9_52 : (s_9.1 52 0).toInt = (σ.1 52 0).toInt := by rw [hG_s_9.1 52 (by decide)]
            have z57_s_9 : (s_9.1 57 x1.toNatClampNeg).toInt = (σ.1 57 x1.toNatClampNeg).toInt := by rw [hG_s_9.1 57 (by decide)]
            have hPI_s_9 : PI s_9 := PI.fr hG_s_9 (by decide) hPI
            have hSI_s_9 : SI s_9 := SI.fr hG_s_9 (by decide) hSI
            have hPA_s_9 : PA s_9 := PA.fr hG_s_9 (by decide) hPA
            have hES_s_9 : ES s_9 := ES.fr hG_s_9 (by decide) hES
            have hW57_s_9 : ∀ q : Nat, q ≠ x1.toNatClampNeg → s_9.1 57 q = σ.1 57 q := by rw [hG_s_9.1 57 (by decide)]; exact hW57_0
            have n1 := nd_1 hND (by omega)
            have S9 := x_s_9.2 n1
            have y9 := x_s_9.1 n1
            clear x_s_9
            have pp := (hPA.1 v_9.toNatClampNeg (by have := clamp_I (x := v_9) (by omega); omega)).1
            refine ok_cals (s_X1_drop (x1 := v_9) (σ := s_9) hB_s_9 hPI_s_9 hSI_s_9 hKI_s_9 hPA_s_9 hES_s_9 (by omega) (by omega)) (fun s_10 h_14 => ?_)
            obtain ⟨hB_s_10, hG_s_10, hPI_s_10, hSI_s_10, hKI_s_10, hPA_s_10, hES_s_10, m52_s_10, x_s_10⟩ := h_14
            (try dsimp only at hB_s_10 hG_s_10 hPI_s_10 hSI_s_10 hKI_s_10 hPA_s_10 hES_s_10 m52_s_10 x_s_10)
            have hF_s_10 : FR [46, 47, 48, 49, 50, 51, 52, 53, 54, 55, 57, 58, 60, 61] [] σ s_10 := FR.cal hF_s_9 hG_s_10 rfl rfl
            have w_s_10_61 : (s_10.1 61 0).toInt = (s_9.1 61 0).toInt := by rw [hG_s_10.1 61 (by decide)]
            have z57_s_10 : (s_10.1 57 x1.toNatClampNeg).toInt = (s_9.1 57 x1.toNatClampNeg).toInt := by rw [hG_s_10.1 57 (by decide)]
            have hW57_s_10 : ∀ q : Nat, q ≠ x1.toNatClampNeg → s_10.1 57 q = σ.1 57 q := by rw [hG_s_10.1 57 (by decide)]; exact hW57_s_9
            exact ok_ret ⟨hB_s_10, hF_s_10, hPI_s_10, hSI_s_10, hKI_s_10, hPA_s_10, hES_s_10, (by (try dsimp only); omega), ⟨by (try dsimp only); omega, by (try dsimp only); omega, by (try dsimp only); first | exact (by rw [← e_v_1]; exact hd_o (vs_op hV (by omega)) x_s_23.2.1 x_s_23.2.2) | exact (by rw [← e_v_1]; exact hd_1 (by omega)), hW57_s_10, fun B h => (x_s_10.2.2 _ (S9 _ h)).mono (by omega)⟩⟩
          · have c_12 := c_12
            refine ok_ite (fun c_15 => ?_) (fun c_15 => ?_)
            · have c_15 := c_15
              refine ok_cals (s_X1_state (x1 := (6 : Int32)) (x2 := ((-1) : Int32)) (x3 := ((-1) : Int32)) (σ := σ) hB hPI hSI hKI hPA hES (by omega) (by omega) (by omega) (by first | exact t2_o (by omega) | exact t2_T (by omega) (by omega) ⟨by omega, z115 (by omega)⟩ (by omega)) (by omega)) (fun s_11 h_16 => ?_)
              obtain ⟨hB_s_11, hG_s_11, hPI_s_11, hSI_s_11, hKI_s_11, hPA_s_11, hES_s_11, m52_s_11, x_s_11⟩ := h_16
              (try dsimp only at hB_s_11 hG_s_11 hPI_s_11 hSI_s_11 hKI_s_11 hPA_s_11 hES_s_11 m52_s_11 x_s_11)
              have hF_s_11 : FR [46, 47, 48, 49, 50, 51, 52, 53, 54, 55, 57, 58, 60, 61] [] σ s_11 := FR.cal hF hG_s_11 rfl rfl
              have w_s_11_61 : (s_11.1 61 0).toInt = (σ.1 61 0).toInt := by rw [hG_s_11.1 61 (by decide)]
              have z57_s_11 : (s_11.1 57 x1.toNatClampNeg).toInt = (σ.1 57 x1.toNatClampNeg).toInt := by rw [hG_s_11.1 57 (by decide)]
              have hW57_s_11 : ∀ q : Nat, q ≠ x1.toNatClampNeg → s_11.1 57 q = σ.1 57 q := by rw [hG_s_11.1 57 (by decide)]; exact hW57_0
              exact ok_ret ⟨hB_s_11, hF_s_11, hPI_s_11, hSI_s_11, hKI_s_11, hPA_s_11, hES_s_11, (by (try dsimp only); omega), ⟨by (try dsimp only); omega, by (try dsimp only); omega, by (try dsimp only); first | exact (by rw [← e_v_1]; exact hd_o (vs_op hV (by omega)) x_s_23.2.1 x_s_23.2.2) | exact (by rw [← e_v_1]; exact hd_1 (by omega)), hW57_s_11, fun B h => (x_s_11.2.2 _ h).mono (by omega)⟩⟩
            · have c_15 := c_15
              refine ok_ite (fun c_17 => ?_) (fun c_17 => ?_)
              · have c_17 := c_17
                refine ok_calv (s_X1_pop  (σ := σ) hB hKI) (fun v_12 s_12 h_18 => ?_)
                obtain ⟨b_v_12, hB_s_12, hG_s_12, hKI_s_12, x_s_12⟩ := h_18
                (try dsimp only at b_v_12 hB_s_12 hG_s_12 hKI_s_12 x_s_12)
                have hF_s_12 : FR [46, 47, 48, 49, 50, 51, 52, 53, 54, 55, 57, 58, 60, 61] [] σ s_12 := FR.cal hF hG_s_12 rfl rfl
                have w_s_12_46 : (s_12.1 46 0).toInt = (σ.1 46 0).toInt := by rw [hG_s_12.1 46 (by decide)]
                have w_s_12_52 : (s_12.1 52 0).toInt = (σ.1 52 0).toInt := by rw [hG_s_12.1 52 (by decide)]
                have z57_s_12 : (s_12.1 57 x1.toNatClampNeg).toInt = (σ.1 57 x1.toNatClampNeg).toInt := by rw [hG_s_12.1 57 (by decide)]
                have hPI_s_12 : PI s_12 := PI.fr hG_s_12 (by decide) hPI
                have hSI_s_12 : SI s_12 := SI.fr hG_s_12 (by decide) hSI
                have hPA_s_12 : PA s_12 := PA.fr hG_s_12 (by decide) hPA
                have hES_s_12 : ES s_12 := ES.fr hG_s_12 (by decide) hES
                have hW57_s_12 : ∀ q : Nat, q ≠ x1.toNatClampNeg → s_12.1 57 q = σ.1 57 q := by rw [hG_s_12.1 57 (by decide)]; exact hW57_0
                have n1 := nd_1 hND (by omega)
                have S12 := x_s_12.2 n1
                have y12 := x_s_12.1 n1
                clear x_s_12
                have pp := (hPA.1 v_12.toNatClampNeg (by have := clamp_I (x := v_12) (by omega); omega)).1
                refine ok_cals (s_X1_state (x1 := (0 : Int32)) (x2 := v_2) (x3 := v_12) (σ := s_12) hB_s_12 hPI_s_12 hSI_s_12 hKI_s_12 hPA_s_12 hES_s_12 (by omega) (by omega) (by omega) (by first | exact t2_o (by omega) | exact t2_T (by omega) (by omega) ⟨by omega, z115 (by omega)⟩ (by omega)) (by omega)) (fun s_13 h_19 => ?_)
                obtain ⟨hB_s_13, hG_s_13, hPI_s_13, hSI_s_13, hKI_s_13, hPA_s_13, hES_s_13, m52_s_13, x_s_13⟩ := h_19
                (try dsimp only at hB_s_13 hG_s_13 hPI_s_13 hSI_s_13 hKI_s_13 hPA_s_13 hES_s_13 m52_s_13 x_s_13)
                have hF_s_13 : FR [46, 47, 48, 49, 50, 51, 52, 53, 54, 55, 57, 58, 60, 61] [] σ s_13 := FR.cal hF_s_12 hG_s_13 rfl rfl
                have w_s_13_61 : (s_13.1 61 0).toInt = (s_12.1 61 0).toInt := by rw [hG_s_13.1 61 (by decide)]
                have z57_s_13 : (s_13.1 57 x1.toNatClampNeg).toInt = (s_12.1 57 x1.toNatClampNeg).toInt := by rw [hG_s_13.1 57 (by decide)]
                have hW57_s_13 : ∀ q : Nat, q ≠ x1.toNatClampNeg → s_13.1 57 q = σ.1 57 q := by rw [hG_s_13.1 57 (by decide)]; exact hW57_s_12
                exact ok_ret ⟨hB_s_13, hF_s_13, hPI_s_13, hSI_s_13, hKI_s_13, hPA_s_13, hES_s_13, (by (try dsimp only); omega), ⟨by (try dsimp only); omega, by (try dsimp only); omega, by (try dsimp only); first | exact (by rw [← e_v_1]; exact hd_o (vs_op hV (by omega)) x_s_23.2.1 x_s_23.2.2) | exact (by rw [← e_v_1]; exact hd_1 (by omega)), hW57_s_13, fun B h => (x_s_13.2.2 _ (S12 _ h)).mono (by omega)⟩⟩
              · have c_17 := c_17
                refine ok_ite (fun c_20 => ?_) (fun c_20 => ?_)
                · have c_20 := c_20
                  refine ok_calv (s_X1_pop  (σ := σ) hB hKI) (fun v_14 s_14 h_21 => ?_)
                  obtain ⟨b_v_14, hB_s_14, hG_s_14, hKI_s_14, x_s_14⟩ := h_21
                  (try dsimp only at b_v_14 hB_s_14 hG_s_14 hKI_s_14 x_s_14)
                  have hF_s_14 : FR [46, 47, 48, 49, 50, 51, 52, 53, 54, 55, 57, 58, 60, 61] [] σ s_14 := FR.cal hF hG_s_14 rfl rfl
                  have w_s_14_46 : (s_14.1 46 0).toInt = (σ.1 46 0).toInt := by rw [hG_s_14.1 46 (by decide)]
                  have w_s_14_52 : (s_14.1 52 0).toInt = (σ.1 52 0).toInt := by rw [hG_s_14.1 52 (by decide)]
                  have z57_s_14 : (s_14.1 57 x1.toNatClampNeg).toInt = (σ.1 57 x1.toNatClampNeg).toInt := by rw [hG_s_14.1 57 (by decide)]
                  have hPI_s_14 : PI s_14 := PI.fr hG_s_14 (by decide) hPI
                  have hSI_s_14 : SI s_14 := SI.fr hG_s_14 (by decide) hSI
                  have hPA_s_14 : PA s_14 := PA.fr hG_s_14 (by decide) hPA
                  have hES_s_14 : ES s_14 := ES.fr hG_s_14 (by decide) hES
                  have hW57_s_14 : ∀ q : Nat, q ≠ x1.toNatClampNeg → s_14.1 57 q = σ.1 57 q := by rw [hG_s_14.1 57 (by decide)]; exact hW57_0
                  have n1 := nd_1 hND (by omega)
                  have S14 := x_s_14.2 n1
                  have y14 := x_s_14.1 n1
                  clear x_s_14
                  have pp := (hPA.1 v_14.toNatClampNeg (by have := clamp_I (x := v_14) (by omega); omega)).1
                  refine ok_cals (s_X1_state (x1 := (5 : Int32)) (x2 := ((-1) : Int32)) (x3 := v_14) (σ := s_14) hB_s_14 hPI_s_14 hSI_s_14 hKI_s_14 hPA_s_14 hES_s_14 (by omega) (by omega) (by omega) (by first | exact t2_o (by omega) | exact t2_T (by omega) (by omega) ⟨by omega, z115 (by omega)⟩ (by omega)) (by omega)) (fun s_15 h_22 => ?_)
                  obtain ⟨hB_s_15, hG_s_15, hPI_s_15, hSI_s_15, hKI_s_15, hPA_s_15, hES_s_15, m52_s_15, x_s_15⟩ := h_22
                  (try dsimp only at hB_s_15 hG_s_15 hPI_s_15 hSI_s_15 hKI_s_15 hPA_s_15 hES_s_15 m52_s_15 x_s_15)
                  have hF_s_15 : FR [46, 47, 48, 49, 50, 51, 52, 53, 54, 55, 57, 58, 60, 61] [] σ s_15 := FR.cal hF_s_14 hG_s_15 rfl rfl
                  have w_s_15_61 : (s_15.1 61 0).toInt = (s_14.1 61 0).toInt := by rw [hG_s_15.1 61 (by decide)]
                  have z57_s_15 : (s_15.1 57 x1.toNatClampNeg).toInt = (s_14.1 57 x1.toNatClampNeg).toInt := by rw [hG_s_15.1 57 (by decide)]
                  have hW57_s_15 : ∀ q : Nat, q ≠ x1.toNatClampNeg → s_15.1 57 q = σ.1 57 q := by rw [hG_s_15.1 57 (by decide)]; exact hW57_s_14
                  exact ok_ret ⟨hB_s_15, hF_s_15, hPI_s_15, hSI_s_15, hKI_s_15, hPA_s_15, hES_s_15, (by (try dsimp only); omega), ⟨by (try dsimp only); omega, by (try dsimp only); omega, by (try dsimp only); first | exact (by rw [← e_v_1]; exact hd_o (vs_op hV (by omega)) x_s_23.2.1 x_s_23.2.2) | exact (by rw [← e_v_1]; exact hd_1 (by omega)), hW57_s_15, fun B h => (x_s_15.2.2 _ (S14 _ h)).mono (by omega)⟩⟩
                · have c_20 := c_20
                  refine ok_ite (fun c_23 => ?_) (fun c_23 => ?_)
                  · have c_23 := c_23
                    refine ok_cals (s_X1_exchange  (σ := σ) hB hPI hSI hKI hPA hES (nd_119 hND (by omega)).1 (nd_119 hND (by omega)).2) (fun s_16 h_24 => ?_)
                    obtain ⟨hB_s_16, hG_s_16, hPI_s_16, hSI_s_16, hKI_s_16, hPA_s_16, hES_s_16, m52_s_16, x_s_16⟩ := h_24
                    (try dsimp only at hB_s_16 hG_s_16 hPI_s_16 hSI_s_16 hKI_s_16 hPA_s_16 hES_s_16 m52_s_16 x_s_16)
                    have hF_s_16 : FR [46, 47, 48, 49, 50, 51, 52, 53, 54, 55, 57, 58, 60, 61] [] σ s_16 := FR.cal hF hG_s_16 rfl rfl
                    have z57_s_16 : (s_16.1 57 x1.toNatClampNeg).toInt = (σ.1 57 x1.toNatClampNeg).toInt := by rw [hG_s_16.1 57 (by decide)]
                    have hW57_s_16 : ∀ q : Nat, q ≠ x1.toNatClampNeg → s_16.1 57 q = σ.1 57 q := by rw [hG_s_16.1 57 (by decide)]; exact hW57_0
                    have S16 := x_s_16.2.2.2
                    have x_s_16 := And.intro x_s_16.1 x_s_16.2.1
                    exact ok_ret ⟨hB_s_16, hF_s_16, hPI_s_16, hSI_s_16, hKI_s_16, hPA_s_16, hES_s_16, (by (try dsimp only); omega), ⟨by (try dsimp only); omega, by (try dsimp only); omega, by (try dsimp only); first | exact (by rw [← e_v_1]; exact hd_o (vs_op hV (by omega)) x_s_23.2.1 x_s_23.2.2) | exact (by rw [← e_v_1]; exact hd_1 (by omega)), hW57_s_16, fun B h => (S16 B h).mono (by omega)⟩⟩
                  · have c_23 := c_23
                    refine ok_ite (fun c_25 => ?_) (fun c_25 => ?_)
                    · have c_25 := c_25
                      refine ok_calp (s_X3_chooses (x1 := x2) (σ := σ) hB (by omega)) (fun v_17 h_26 => ?_)
                      have b_v_17 := h_26
                      (try dsimp only at b_v_17)
                      refine ok_ite (fun c_27 => ?_) (fun c_27 => ?_)
                      · rw [fa_eq] at c_27
                        refine ok_calv (s_X1_pop  (σ := σ) hB hKI) (fun v_19 s_19 h_28 => ?_)
                        obtain ⟨b_v_19, hB_s_19, hG_s_19, hKI_s_19, x_s_19⟩ := h_28
                        (try dsimp only at b_v_19 hB_s_19 hG_s_19 hKI_s_19 x_s_19)
                        have hF_s_19 : FR [46, 47, 48, 49, 50, 51, 52, 53, 54, 55, 57, 58, 60, 61] [] σ s_19 := FR.cal hF hG_s_19 rfl rfl
                        have w_s_19_46 : (s_19.1 46 0).toInt = (σ.1 46 0).toInt := by rw [hG_s_19.1 46 (by decide)]
                        have w_s_19_52 : (s_19.1 52 0).toInt = (σ.1 52 0).toInt := by rw [hG_s_19.1 52 (by decide)]
                        have z57_s_19 : (s_19.1 57 x1.toNatClampNeg).toInt = (σ.1 57 x1.toNatClampNeg).toInt := by rw [hG_s_19.1 57 (by decide)]
                        have hPI_s_19 : PI s_19 := PI.fr hG_s_19 (by decide) hPI
                        have hSI_s_19 : SI s_19 := SI.fr hG_s_19 (by decide) hSI
                        have hPA_s_19 : PA s_19 := PA.fr hG_s_19 (by decide) hPA
                        have hES_s_19 : ES s_19 := ES.fr hG_s_19 (by decide) hES
                        have hW57_s_19 : ∀ q : Nat, q ≠ x1.toNatClampNeg → s_19.1 57 q = σ.1 57 q := by rw [hG_s_19.1 57 (by decide)]; exact hW57_0
                        have n1 := nd_1 hND (by omega)
                        have S19 := x_s_19.2 n1
                        have y19 := x_s_19.1 n1
                        clear x_s_19
                        have pp := (hPA.1 v_19.toNatClampNeg (by have := clamp_I (x := v_19) (by omega); omega)).1
                        refine ok_cals (s_X1_drop (x1 := v_19) (σ := s_19) hB_s_19 hPI_s_19 hSI_s_19 hKI_s_19 hPA_s_19 hES_s_19 (by omega) (by omega)) (fun s_20 h_29 => ?_)
                        obtain ⟨hB_s_20, hG_s_20, hPI_s_20, hSI_s_20, hKI_s_20, hPA_s_20, hES_s_20, m52_s_20, x_s_20⟩ := h_29
                        (try dsimp only at hB_s_20 hG_s_20 hPI_s_20 hSI_s_20 hKI_s_20 hPA_s_20 hES_s_20 m52_s_20 x_s_20)
                        have hF_s_20 : FR [46, 47, 48, 49, 50, 51, 52, 53, 54, 55, 57, 58, 60, 61] [] σ s_20 := FR.cal hF_s_19 hG_s_20 rfl rfl
                        have w_s_20_61 : (s_20.1 61 0).toInt = (s_19.1 61 0).toInt := by rw [hG_s_20.1 61 (by decide)]
                        have z57_s_20 : (s_20.1 57 x1.toNatClampNeg).toInt = (s_19.1 57 x1.toNatClampNeg).toInt := by rw [hG_s_20.1 57 (by decide)]
                        have hW57_s_20 : ∀ q : Nat, q ≠ x1.toNatClampNeg → s_20.1 57 q = σ.1 57 q := by rw [hG_s_20.1 57 (by decide)]; exact hW57_s_19
                        exact ok_ret ⟨hB_s_20, hF_s_20, hPI_s_20, hSI_s_20, hKI_s_20, hPA_s_20, hES_s_20, (by (try dsimp only); omega), ⟨by (try dsimp only); omega, by (try dsimp only); omega, by (try dsimp only); first | exact (by rw [← e_v_1]; exact hd_o (vs_op hV (by omega)) x_s_23.2.1 x_s_23.2.2) | exact (by rw [← e_v_1]; exact hd_1 (by omega)), hW57_s_20, fun B h => (x_s_20.2.2 _ (S19 _ h)).mono (by omega)⟩⟩
                      · rw [fa_eq] at c_27
                        refine ok_calv (s_X1_pop  (σ := σ) hB hKI) (fun v_21 s_21 h_30 => ?_)
                        obtain ⟨b_v_21, hB_s_21, hG_s_21, hKI_s_21, x_s_21⟩ := h_30
                        (try dsimp only at b_v_21 hB_s_21 hG_s_21 hKI_s_21 x_s_21)
                        have hF_s_21 : FR [46, 47, 48, 49, 50, 51, 52, 53, 54, 55, 57, 58, 60, 61] [] σ s_21 := FR.cal hF hG_s_21 rfl rfl
                        have w_s_21_46 : (s_21.1 46 0).toInt = (σ.1 46 0).toInt := by rw [hG_s_21.1 46 (by decide)]
                        have w_s_21_52 : (s_21.1 52 0).toInt = (σ.1 52 0).toInt := by rw [hG_s_21.1 52 (by decide)]
                        have z57_s_21 : (s_21.1 57 x1.toNatClampNeg).toInt = (σ.1 57 x1.toNatClampNeg).toInt := by rw [hG_s_21.1 57 (by decide)]
                        have hPI_s_21 : PI s_21 := PI.fr hG_s_21 (by decide) hPI
                        have hSI_s_21 : SI s_21 := SI.fr hG_s_21 (by decide) hSI
                        have hPA_s_21 : PA s_21 := PA.fr hG_s_21 (by decide) hPA
                        have hES_s_21 : ES s_21 := ES.fr hG_s_21 (by decide) hES
                        have hW57_s_21 : ∀ q : Nat, q ≠ x1.toNatClampNeg → s_21.1 57 q = σ.1 57 q := by rw [hG_s_21.1 57 (by decide)]; exact hW57_0
                        have n1 := nd_1 hND (by omega)
                        have S21 := x_s_21.2 n1
                        have y21 := x_s_21.1 n1
                        clear x_s_21
                        have pp := (hPA.1 v_21.toNatClampNeg (by have := clamp_I (x := v_21) (by omega); omega)).1
                        refine ok_ix ⟨by omega, by omega⟩ ?_
                        refine ok_lt fun s_22 e_s_22 => ?_
                        have hB_s_22 : BX s_22 := by rw [e_s_22]; exact pX_57 hB_s_21 (by omega)
                        have hF_s_22 : FR [46, 47, 48, 49, 50, 51, 52, 53, 54, 55, 57, 58, 60, 61] [] σ s_22 := by rw [e_s_22]; exact FR.st hF_s_21 (by decide)
                        have w_s_22_46 : (s_22.1 46 0).toInt = (s_21.1 46 0).toInt := by rw [e_s_22]; rfl
                        have w_s_22_52 : (s_22.1 52 0).toInt = (s_21.1 52 0).toInt := by rw [e_s_22]; rfl
                        have w_s_22_61 : (s_22.1 61 0).toInt = (s_21.1 61 0).toInt := by rw [e_s_22]; rfl
                        have hKI_s_22 : KI s_22 := by rw [e_s_22]; exact KI.st1 (by decide) hKI_s_21
                        have hPI_s_22 : PI s_22 := by rw [e_s_22]; exact PI.st1 (by decide) hPI_s_21
                        have hSI_s_22 : SI s_22 := by rw [e_s_22]; exact SI.st1 (by decide) hSI_s_21
                        have hPA_s_22 : PA s_22 := by rw [e_s_22]; exact PA.st1 (by decide) hPA_s_21
                        have hES_s_22 : ES s_22 := by rw [e_s_22]; exact ES.st1 (by decide) hES_s_21
                        have z22 : (s_22.1 57 x1.toNatClampNeg).toInt = v_21.toInt := by rw [e_s_22, sti_s]
                        have hW57_s_22 : ∀ q : Nat, q ≠ x1.toNatClampNeg → s_22.1 57 q = σ.1 57 q := fun q hq => by rw [e_s_22, sti_j hq]; exact hW57_s_21 q hq
                        exact ok_ret ⟨hB_s_22, hF_s_22, hPI_s_22, hSI_s_22, hKI_s_22, hPA_s_22, hES_s_22, (by (try dsimp only); omega), ⟨by (try dsimp only); omega, by (try dsimp only); omega, by (try dsimp only); first | exact (by rw [← e_v_1]; exact hd_o (vs_op hV (by omega)) x_s_23.2.1 x_s_23.2.2) | exact (by rw [← e_v_1]; exact hd_1 (by omega)), hW57_s_22, fun B h => (SB.row (s := s_22) (S21 _ h) (by rw [e_s_22]; rfl) (by rw [e_s_22]; rfl) (by rw [e_s_22]; rfl)).mono (by omega)⟩⟩
                    · have c_25 := c_25
                      refine ok_cals (s_X1_operate (x1 := v_1) (σ := σ) hB hPI hSI hKI hPA hES (by omega) (vs_op hV (by omega)) (nd_o hND (vs_op hV (by omega))) (nd_B hND) hSB) (fun s_23 h_31 => ?_)
                      obtain ⟨hB_s_23, hG_s_23, hPI_s_23, hSI_s_23, hKI_s_23, hPA_s_23, hES_s_23, x_s_23⟩ := h_31
                      (try dsimp only at hB_s_23 hG_s_23 hPI_s_23 hSI_s_23 hKI_s_23 hPA_s_23 hES_s_23 x_s_23)
                      have hF_s_23 : FR [46, 47, 48, 49, 50, 51, 52, 53, 54, 55, 57, 58, 60, 61] [] σ s_23 := FR.cal hF hG_s_23 rfl rfl
                      have w_s_23_52 : (s_23.1 52 0).toInt = (σ.1 52 0).toInt := by rw [hG_s_23.1 52 (by decide)]
                      have z57_s_23 : (s_23.1 57 x1.toNatClampNeg).toInt = (σ.1 57 x1.toNatClampNeg).toInt := by rw [hG_s_23.1 57 (by decide)]
                      have hW57_s_23 : ∀ q : Nat, q ≠ x1.toNatClampNeg → s_23.1 57 q = σ.1 57 q := by rw [hG_s_23.1 57 (by decide)]; exact hW57_0
                      have S23 := x_s_23.2.2.2
                      have x_s_23 := And.intro x_s_23.1 (And.intro x_s_23.2.1 x_s_23.2.2.1)
                      exact ok_ret ⟨hB_s_23, hF_s_23, hPI_s_23, hSI_s_23, hKI_s_23, hPA_s_23, hES_s_23, (by (try dsimp only); omega), ⟨by (try dsimp only); omega, by (try dsimp only); omega, by (try dsimp only); first | exact (by rw [← e_v_1]; exact hd_o (vs_op hV (by omega)) x_s_23.2.1 x_s_23.2.2) | exact (by rw [← e_v_1]; exact hd_1 (by omega)), hW57_s_23, fun B h => S23 B h⟩⟩

set_option maxHeartbeats 4000000 in
theorem s_X1_lift {σ : Sto} (hB : BX σ) (hPI : PI σ) (hSI : SI σ) (hGB : GB σ) : OK (f_X1_lift σ) (fun s => BX s ∧ FR [46, 47, 48, 49, 50, 51, 52, 53, 54, 55, 56, 57, 58, 59, 60, 61, 62] [] σ s ∧ PI s ∧ SI s ∧ PA s ∧ ES s ∧ TS s ∧ FS s) := by
  unfold f_X1_lift
  have hF : FR [46, 47, 48, 49, 50, 51, 52, 53, 54, 55, 56, 57, 58, 59, 60, 61, 62] [] σ σ := FR.rf
  have k_m1 : ((-1) : Int32).toInt = -1 := by decide +kernel
  have k_0 : (0 : Int32).toInt = 0 := by decide +kernel
  have k_1 : (1 : Int32).toInt = 1 := by decide +kernel
  have k_84 : (84 : Int32).toInt = 84 := by decide +kernel
  refine ok_lt fun s_1 e_s_1 => ?_
  have hB_s_1 : BX s_1 := by rw [e_s_1]; exact pX_52 hB (by omega)
  have hF_s_1 : FR [46, 47, 48, 49, 50, 51, 52, 53, 54, 55, 56, 57, 58, 59, 60, 61, 62] [] σ s_1 := by rw [e_s_1]; exact FR.st hF (by decide)
  have w_s_1_46 : (s_1.1 46 0).toInt = (σ.1 46 0).toInt := by rw [e_s_1]; rfl
  have w_s_1_52 : (s_1.1 52 0).toInt = (0 : Int32).toInt := by rw [e_s_1, sti_s]
  have w_s_1_61 : (s_1.1 61 0).toInt = (σ.1 61 0).toInt := by rw [e_s_1]; rfl
  have f_s_1_20 : (s_1.1 20 0).toInt = (σ.1 20 0).toInt := by rw [hF_s_1.1 20 (by decide)]
  have hPI_s_1 : PI s_1 := by rw [e_s_1]; exact PI.st1 (by decide) hPI
  have hSI_s_1 : SI s_1 := by rw [e_s_1]; exact SI.st1 (by decide) hSI
  have hGB_s_1 : GB s_1 := by rw [e_s_1]; exact GB.st1 (by decide) hGB
  refine ok_lt fun s_2 e_s_2 => ?_
  have hB_s_2 : BX s_2 := by rw [e_s_2]; exact pX_58 hB_s_1 (by omega)
  have hF_s_2 : FR [46, 47, 48, 49, 50, 51, 52, 53, 54, 55, 56, 57, 58, 59, 60, 61, 62] [] σ s_2 := by rw [e_s_2]; exact FR.st hF_s_1 (by decide)
  have w_s_2_46 : (s_2.1 46 0).toInt = (s_1.1 46 0).toInt := by rw [e_s_2]; rfl
  have w_s_2_52 : (s_2.1 52 0).toInt = (s_1.1 52 0).toInt := by rw [e_s_2]; rfl
  have w_s_2_61 : (s_2.1 61 0).toInt = (s_1.1 61 0).toInt := by rw [e_s_2]; rfl
  have f_s_2_20 : (s_2.1 20 0).toInt = (σ.1 20 0).toInt := by rw [hF_s_2.1 20 (by decide)]
  have hPI_s_2 : PI s_2 := by rw [e_s_2]; exact PI.st1 (by decide) hPI_s_1
  have hSI_s_2 : SI s_2 := by rw [e_s_2]; exact SI.st1 (by decide) hSI_s_1
  have hGB_s_2 : GB s_2 := by rw [e_s_2]; exact GB.st1 (by decide) hGB_s_1
  refine ok_lt fun s_3 e_s_3 => ?_
  have hB_s_3 : BX s_3 := by rw [e_s_3]; exact pX_46 hB_s_2 (by omega)
  have hF_s_3 : FR [46, 47, 48, 49, 50, 51, 52, 53, 54, 55, 56, 57, 58, 59, 60, 61, 62] [] σ s_3 := by rw [e_s_3]; exact FR.st hF_s_2 (by decide)
  have w_s_3_46 : (s_3.1 46 0).toInt = (0 : Int32).toInt := by rw [e_s_3, sti_s]
  have w_s_3_52 : (s_3.1 52 0).toInt = (s_2.1 52 0).toInt := by rw [e_s_3]; rfl
  have w_s_3_61 : (s_3.1 61 0).toInt = (s_2.1 61 0).toInt := by rw [e_s_3]; rfl
  have f_s_3_20 : (s_3.1 20 0).toInt = (σ.1 20 0).toInt := by rw [hF_s_3.1 20 (by decide)]
  have hPI_s_3 : PI s_3 := by rw [e_s_3]; exact PI.st1 (by decide) hPI_s_2
  have hSI_s_3 : SI s_3 := by rw [e_s_3]; exact SI.st1 (by decide) hSI_s_2
  have hGB_s_3 : GB s_3 := by rw [e_s_3]; exact GB.st1 (by decide) hGB_s_2
  have v46 : (s_3.1 46 0).toInt = 0 := by rw [e_s_3, sti_s]; exact k_0
  have v52 : (s_3.1 52 0).toInt = 0 := by rw [e_s_3, e_s_2, e_s_1]; exact k_0
  have hPA_s_3 : PA s_3 := ⟨fun e he => by exfalso; omega, fun h => by exfalso; omega, fun e he => by exfalso; omega⟩
  have hES_s_3 : ES s_3 := fun i hi => by exfalso; omega
  refine ok_itr2 (fun (n : Nat) (x1_4 : Int32) (s_4 : Sto) => n = (41 - x1_4.toInt).toNat ∧ (0 ≤ x1_4.toInt ∧ x1_4.toInt ≤ 40) ∧ (BX s_4) ∧ (FR [46, 47, 48, 49, 50, 51, 52, 53, 54, 55, 56, 57, 58, 59, 60, 61, 62] [] σ s_4) ∧ (PI s_4) ∧ (SI s_4) ∧ (PA s_4) ∧ (ES s_4) ∧ (∀ b : Nat, (b : Int) < x1_4.toInt → (s_4.1 57 b).toInt < (s_4.1 46 0).toInt) ∧ (∀ b : Nat, (b : Int) < x1_4.toInt → (s_4.1 56 b).toInt ≤ (s_4.1 52 0).toInt)) ?_ (n := _) ⟨rfl, (by omega), hB_s_3, hF_s_3, hPI_s_3, hSI_s_3, hPA_s_3, hES_s_3, (fun b hb => by exfalso; have h9 : (0 : Int32).toInt = 0 := (by decide +kernel); omega), (fun b hb => by exfalso; have h9 : (0 : Int32).toInt = 0 := (by decide +kernel); omega)⟩ (show _ < 10000000 by omega)
  intro a_20 n x1_4 s_4 hI ih_a_20
  obtain ⟨hn_a_20, b_x1_4, hB_s_4, hF_s_4, hPI_s_4, hSI_s_4, hPA_s_4, hES_s_4, hts, hfs⟩ := hI
  have f_s_4_20 : (s_4.1 20 0).toInt = (σ.1 20 0).toInt := by rw [hF_s_4.1 20 (by decide)]
  have g_2 := gX_20 hB_s_4 0
  have g_3 : (s_4.1 20 0).toInt = (σ.1 20 0).toInt := by rw [hF_s_4.1 20 (by decide)]
  have g_4 := gX_20 hB 0
  refine ok_ite (fun c_1 => ?_) (fun c_1 => ?_)
  · rw [fa_le] at c_1
    refine ok_ix ⟨by omega, by omega⟩ ?_
    have g_5 := gX_52 hB_s_4 0
    refine ok_lt fun s_6 e_s_6 => ?_
    have hB_s_6 : BX s_6 := by rw [e_s_6]; exact pX_56 hB_s_4 (by omega)
    have hF_s_6 : FR [46, 47, 48, 49, 50, 51, 52, 53, 54, 55, 56, 57, 58, 59, 60, 61, 62] [] σ s_6 := by rw [e_s_6]; exact FR.st hF_s_4 (by decide)
    have w_s_6_46 : (s_6.1 46 0).toInt = (s_4.1 46 0).toInt := by rw [e_s_6]; rfl
    have w_s_6_52 : (s_6.1 52 0).toInt = (s_4.1 52 0).toInt := by rw [e_s_6]; rfl
    have w_s_6_61 : (s_6.1 61 0).toInt = (s_4.1 61 0).toInt := by rw [e_s_6]; rfl
    have f_s_6_20 : (s_6.1 20 0).toInt = (σ.1 20 0).toInt := by rw [hF_s_6.1 20 (by decide)]
    have hPI_s_6 : PI s_6 := by rw [e_s_6]; exact PI.st1 (by decide) hPI_s_4
    have hSI_s_6 : SI s_6 := by rw [e_s_6]; exact SI.st1 (by decide) hSI_s_4
    have hPA_s_6 : PA s_6 := by rw [e_s_6]; exact PA.st1 (by decide) hPA_s_4
    have hES_s_6 : ES s_6 := by rw [e_s_6]; exact ES.st1 (by decide) hES_s_4
    have c20 := clamp_I (x := s_4.1 20 0) (by omega)
    have hFS_s_6 : FS s_6 := fun b hb => by rw [show s_6.1 56 = (sti s_4 56 (s_4.1 20 0).toNatClampNeg (s_4.1 52 0)).1 56 by rw [e_s_6], sti_if]; by_cases q : b = (s_4.1 20 0).toNatClampNeg; (rw [if_pos q]; omega); (rw [if_neg q]; have := hfs b (by omega); omega)
    refine ok_cals (s_X1_countUnlike  (σ := s_6) hB_s_6 hPI_s_6) (fun s_7 h_6 => ?_)
    obtain ⟨hB_s_7, hG_s_7⟩ := h_6
    (try dsimp only at hB_s_7 hG_s_7)
    have hF_s_7 : FR [46, 47, 48, 49, 50, 51, 52, 53, 54, 55, 56, 57, 58, 59, 60, 61, 62] [] σ s_7 := FR.cal hF_s_6 hG_s_7 rfl rfl
    have w_s_7_46 : (s_7.1 46 0).toInt = (s_6.1 46 0).toInt := by rw [hG_s_7.1 46 (by decide)]
    have w_s_7_52 : (s_7.1 52 0).toInt = (s_6.1 52 0).toInt := by rw [hG_s_7.1 52 (by decide)]
    have w_s_7_61 : (s_7.1 61 0).toInt = (s_6.1 61 0).toInt := by rw [hG_s_7.1 61 (by decide)]
    have f_s_7_20 : (s_7.1 20 0).toInt = (σ.1 20 0).toInt := by rw [hF_s_7.1 20 (by decide)]
    have hPI_s_7 : PI s_7 := PI.fr hG_s_7 (by decide) hPI_s_6
    have hSI_s_7 : SI s_7 := SI.fr hG_s_7 (by decide) hSI_s_6
    have hPA_s_7 : PA s_7 := PA.fr hG_s_7 (by decide) hPA_s_6
    have hES_s_7 : ES s_7 := ES.fr hG_s_7 (by decide) hES_s_6
    have hFS_s_7 : FS s_7 := FS.fr hG_s_7 (by decide) hFS_s_6
    have hTS_s_7 : TS s_7 := fun b hb => by rw [hG_s_7.1 57 (by decide), hG_s_7.1 46 (by decide), show s_6.1 57 = s_4.1 57 by rw [e_s_6]; rfl, show s_6.1 46 = s_4.1 46 by rw [e_s_6]; rfl]; exact hts b (by rw [hG_s_7.1 20 (by decide), show s_6.1 20 = s_4.1 20 by rw [e_s_6]; rfl] at hb; omega)
    exact ok_ret ⟨hB_s_7, hF_s_7, hPI_s_7, hSI_s_7, hPA_s_7, hES_s_7, hTS_s_7, hFS_s_7⟩
  · rw [fa_le] at c_1
    refine ok_ix ⟨by omega, by omega⟩ ?_
    have g_7 := gX_52 hB_s_4 0
    refine ok_lt fun s_8 e_s_8 => ?_
    have hB_s_8 : BX s_8 := by rw [e_s_8]; exact pX_56 hB_s_4 (by omega)
    have hF_s_8 : FR [46, 47, 48, 49, 50, 51, 52, 53, 54, 55, 56, 57, 58, 59, 60, 61, 62] [] σ s_8 := by rw [e_s_8]; exact FR.st hF_s_4 (by decide)
    have w_s_8_46 : (s_8.1 46 0).toInt = (s_4.1 46 0).toInt := by rw [e_s_8]; rfl
    have w_s_8_52 : (s_8.1 52 0).toInt = (s_4.1 52 0).toInt := by rw [e_s_8]; rfl
    have w_s_8_61 : (s_8.1 61 0).toInt = (s_4.1 61 0).toInt := by rw [e_s_8]; rfl
    have f_s_8_20 : (s_8.1 20 0).toInt = (σ.1 20 0).toInt := by rw [hF_s_8.1 20 (by decide)]
    have hPI_s_8 : PI s_8 := by rw [e_s_8]; exact PI.st1 (by decide) hPI_s_4
    have hSI_s_8 : SI s_8 := by rw [e_s_8]; exact SI.st1 (by decide) hSI_s_4
    have hPA_s_8 : PA s_8 := by rw [e_s_8]; exact PA.st1 (by decide) hPA_s_4
    have hES_s_8 : ES s_8 := by rw [e_s_8]; exact ES.st1 (by decide) hES_s_4
    have hFS5_s_8 : ∀ b : Nat, (b : Int) ≤ x1_4.toInt → (s_8.1 56 b).toInt ≤ (s_8.1 52 0).toInt := fun b hb => by rw [show s_8.1 56 = (sti s_4 56 x1_4.toNatClampNeg (s_4.1 52 0)).1 56 by rw [e_s_8], sti_if]; by_cases q : b = x1_4.toNatClampNeg; (rw [if_pos q]; omega); (rw [if_neg q]; have := hfs b (by have := clamp_I (x := x1_4) (by omega); omega); omega)
    obtain ⟨G1, G2, G3, G4, G5, G6⟩ := hGB x1_4.toNatClampNeg (by have := clamp_I (x := x1_4) (by omega); omega)
    refine ok_ix ⟨by omega, by omega⟩ ?_
    refine ok_lt fun s_9 e_s_9 => ?_
    have hB_s_9 : BX s_9 := by rw [e_s_9]; exact pX_57 hB_s_8 (by omega)
    have hF_s_9 : FR [46, 47, 48, 49, 50, 51, 52, 53, 54, 55, 56, 57, 58, 59, 60, 61, 62] [] σ s_9 := by rw [e_s_9]; exact FR.st hF_s_8 (by decide)
    have w_s_9_46 : (s_9.1 46 0).toInt = (s_8.1 46 0).toInt := by rw [e_s_9]; rfl
    have w_s_9_52 : (s_9.1 52 0).toInt = (s_8.1 52 0).toInt := by rw [e_s_9]; rfl
    have w_s_9_61 : (s_9.1 61 0).toInt = (s_8.1 61 0).toInt := by rw [e_s_9]; rfl
    have f_s_9_20 : (s_9.1 20 0).toInt = (σ.1 20 0).toInt := by rw [hF_s_9.1 20 (by decide)]
    have hPI_s_9 : PI s_9 := by rw [e_s_9]; exact PI.st1 (by decide) hPI_s_8
    have hSI_s_9 : SI s_9 := by rw [e_s_9]; exact SI.st1 (by decide) hSI_s_8
    have hPA_s_9 : PA s_9 := by rw [e_s_9]; exact PA.st1 (by decide) hPA_s_8
    have hES_s_9 : ES s_9 := by rw [e_s_9]; exact ES.st1 (by decide) hES_s_8
    have hFS5_s_9 : ∀ b : Nat, (b : Int) ≤ x1_4.toInt → (s_9.1 56 b).toInt ≤ (s_8.1 52 0).toInt := by rw [e_s_9]; exact hFS5_s_8
    have z9 : (s_9.1 57 x1_4.toNatClampNeg).toInt = -1 := by rw [e_s_9, sti_s]; exact k_m1
    refine ok_lt fun s_10 e_s_10 => ?_
    have hB_s_10 : BX s_10 := by rw [e_s_10]; exact pX_61 hB_s_9 (by omega)
    have hF_s_10 : FR [46, 47, 48, 49, 50, 51, 52, 53, 54, 55, 56, 57, 58, 59, 60, 61, 62] [] σ s_10 := by rw [e_s_10]; exact FR.st hF_s_9 (by decide)
    have w_s_10_46 : (s_10.1 46 0).toInt = (s_9.1 46 0).toInt := by rw [e_s_10]; rfl
    have w_s_10_52 : (s_10.1 52 0).toInt = (s_9.1 52 0).toInt := by rw [e_s_10]; rfl
    have w_s_10_61 : (s_10.1 61 0).toInt = (0 : Int32).toInt := by rw [e_s_10, sti_s]
    have f_s_10_20 : (s_10.1 20 0).toInt = (σ.1 20 0).toInt := by rw [hF_s_10.1 20 (by decide)]
    have hPI_s_10 : PI s_10 := by rw [e_s_10]; exact PI.st1 (by decide) hPI_s_9
    have hSI_s_10 : SI s_10 := by rw [e_s_10]; exact SI.st1 (by decide) hSI_s_9
    have hPA_s_10 : PA s_10 := by rw [e_s_10]; exact PA.st1 (by decide) hPA_s_9
    have hES_s_10 : ES s_10 := by rw [e_s_10]; exact ES.st1 (by decide) hES_s_9
    have hFS5_s_10 : ∀ b : Nat, (b : Int) ≤ x1_4.toInt → (s_10.1 56 b).toInt ≤ (s_8.1 52 0).toInt := by rw [e_s_10]; exact hFS5_s_9
    have z10 : (s_10.1 57 x1_4.toNatClampNeg).toInt = -1 := by rw [e_s_10]; exact z9
    have z61 : (s_10.1 61 0).toInt = 0 := by rw [e_s_10, sti_s]; exact k_0
    have hKI_s_10 : KI s_10 := fun k hk => by omega
    have g46 := gX_46 hB_s_10 0
    refine ok_itr2 (fun (n : Nat) (x2_11 : Int32) (s_11 : Sto) => n = (7 - x2_11.toInt).toNat ∧ (0 ≤ x2_11.toInt ∧ x2_11.toInt ≤ 6) ∧ (BX s_11) ∧ (FR [46, 47, 48, 49, 50, 51, 52, 53, 54, 55, 56, 57, 58, 59, 60, 61, 62] [] σ s_11) ∧ (PI s_11) ∧ (SI s_11) ∧ (KI s_11) ∧ (PA s_11) ∧ (ES s_11) ∧ (∀ b : Nat, (b : Int) ≤ x1_4.toInt → (s_11.1 56 b).toInt ≤ (s_8.1 52 0).toInt) ∧ ((s_11.1 61 0).toInt = x2_11.toInt) ∧ (x2_11.toInt ≤ (σ.1 8 (σ.1 21 x1_4.toNatClampNeg).toNatClampNeg).toInt) ∧ ((s_11.1 57 x1_4.toNatClampNeg).toInt < (s_11.1 46 0).toInt) ∧ (∀ b : Nat, (b : Int) < x1_4.toInt → (s_11.1 57 b).toInt < (s_11.1 46 0).toInt) ∧ (SB s_11 x2_11.toInt) ∧ ((s_8.1 52 0).toInt ≤ (s_11.1 52 0).toInt)) ?_ (n := _) ⟨rfl, (by omega), hB_s_10, hF_s_10, hPI_s_10, hSI_s_10, hKI_s_10, hPA_s_10, hES_s_10, hFS5_s_10, (by omega), (by omega), (by omega), (fun b hb => by rw [show s_10.1 57 = s_9.1 57 by rw [e_s_10]; rfl, show s_10.1 46 = s_4.1 46 by rw [e_s_10, e_s_9, e_s_8]; rfl, e_s_9, sti_if, if_neg (by have := clamp_I (x := x1_4) (by omega); omega), show s_8.1 57 = s_4.1 57 by rw [e_s_8]; rfl]; exact hts b hb), (by rw [k_0]; exact SB.z z61), (by omega)⟩ (show _ < 10000000 by omega)
    intro a_55 n x2_11 s_11 hI ih_a_55
    obtain ⟨hn_a_55, b_x2_11, hB_s_11, hF_s_11, hPI_s_11, hSI_s_11, hKI_s_11, hPA_s_11, hES_s_11, hFS5_s_11, hht, hle, htb, htl, hsb, hk52⟩ := hI
    have f_s_11_20 : (s_11.1 20 0).toInt = (σ.1 20 0).toInt := by rw [hF_s_11.1 20 (by decide)]
    refine ok_ix ⟨by omega, by omega⟩ ?_
    have g_8 := gX_21 hB_s_11 (x1_4.toNatClampNeg)
    refine ok_lt fun v_12 e_v_12 => ?_
    have b_v_12 : 0 ≤ v_12.toInt ∧ v_12.toInt ≤ 39 := by rw [e_v_12]; exact gX_21 hB_s_11 _
    have q_v_12 : v_12.toInt = (σ.1 21 (x1_4.toNatClampNeg)).toInt := by rw [e_v_12, hF_s_11.1 21 (by decide)]
    refine ok_ix ⟨by omega, by omega⟩ ?_
    have g_9 := gX_8 hB_s_11 (v_12.toNatClampNeg)
    refine ok_lt fun v_13 e_v_13 => ?_
    have b_v_13 : (-1) ≤ v_13.toInt ∧ v_13.toInt ≤ 6 := by rw [e_v_13]; exact gX_8 hB_s_11 _
    have e13 : v_13.toInt = (σ.1 8 (σ.1 21 x1_4.toNatClampNeg).toNatClampNeg).toInt := by rw [e_v_13, e_v_12, hF_s_11.1 8 (by decide), hF_s_11.1 21 (by decide)]
    refine ok_ite (fun c_10 => ?_) (fun c_10 => ?_)
    · rw [fa_le] at c_10
      refine ok_ix ⟨by omega, by omega⟩ ?_
      refine ok_lt fun v_15 e_v_15 => ?_
      have b_v_15 : 0 ≤ v_15.toInt ∧ v_15.toInt ≤ 39 := by rw [e_v_15]; exact gX_21 hB_s_11 _
      have q_v_15 : v_15.toInt = (σ.1 21 (x1_4.toNatClampNeg)).toInt := by rw [e_v_15, hF_s_11.1 21 (by decide)]
      have e15 : v_15 = σ.1 21 x1_4.toNatClampNeg := by rw [e_v_15, hF_s_11.1 21 (by decide)]
      refine ok_itr2 (fun (n : Nat) (x2_16 : Int32) (s_16 : Sto) => n = (41 - x2_16.toInt).toNat ∧ (0 ≤ x2_16.toInt ∧ x2_16.toInt ≤ 40) ∧ (BX s_16) ∧ (FR [46, 47, 48, 49, 50, 51, 52, 53, 54, 55, 56, 57, 58, 59, 60, 61, 62] [] σ s_16) ∧ (PI s_16) ∧ (SI s_16) ∧ (KI s_16) ∧ (PA s_16) ∧ (ES s_16) ∧ (∀ b : Nat, (b : Int) ≤ x1_4.toInt → (s_16.1 56 b).toInt ≤ (s_8.1 52 0).toInt) ∧ ((s_16.1 61 0).toInt ≤ 6) ∧ ((σ.1 21 x1_4.toNatClampNeg).toInt ≤ x2_16.toInt) ∧ ((s_16.1 57 x1_4.toNatClampNeg).toInt < (s_16.1 46 0).toInt) ∧ (x2_16.toInt ≤ (σ.1 22 x1_4.toNatClampNeg).toInt → (s_16.1 61 0).toInt = (σ.1 8 x2_16.toNatClampNeg).toInt) ∧ (∀ b : Nat, (b : Int) < x1_4.toInt → (s_16.1 57 b).toInt < (s_16.1 46 0).toInt) ∧ (SB s_16 (6 + x2_16.toInt - (σ.1 21 x1_4.toNatClampNeg).toInt)) ∧ ((s_8.1 52 0).toInt ≤ (s_16.1 52 0).toInt)) ?_ (n := _) ⟨rfl, (by omega), hB_s_11, hF_s_11, hPI_s_11, hSI_s_11, hKI_s_11, hPA_s_11, hES_s_11, hFS5_s_11, (by omega), (by rw [e15]; exact Int.le_refl _), (by omega), (fun _ => by rw [e15]; omega), htl, (hsb.mono (by rw [e15]; omega)), (by omega)⟩ (show _ < 10000000 by omega)
      intro a_107 n x2_16 s_16 hI ih_a_107
      obtain ⟨hn_a_107, b_x2_16, hB_s_16, hF_s_16, hPI_s_16, hSI_s_16, hKI_s_16, hPA_s_16, hES_s_16, hFS5_s_16, hh6, hfi, htb, hst, htl, hsb, hk52⟩ := hI
      have f_s_16_20 : (s_16.1 20 0).toInt = (σ.1 20 0).toInt := by rw [hF_s_16.1 20 (by decide)]
      refine ok_ix ⟨by omega, by omega⟩ ?_
      have g_11 := gX_22 hB_s_16 (x1_4.toNatClampNeg)
      refine ok_lt fun v_17 e_v_17 => ?_
      have b_v_17 : 0 ≤ v_17.toInt ∧ v_17.toInt ≤ 39 := by rw [e_v_17]; exact gX_22 hB_s_16 _
      have q_v_17 : v_17.toInt = (σ.1 22 (x1_4.toNatClampNeg)).toInt := by rw [e_v_17, hF_s_16.1 22 (by decide)]
      have e17 : v_17.toInt = (σ.1 22 x1_4.toNatClampNeg).toInt := by rw [e_v_17, hF_s_16.1 22 (by decide)]
      refine ok_ite (fun c_12 => ?_) (fun c_12 => ?_)
      · rw [fa_lt] at c_12
        refine ok_ix ⟨by omega, by omega⟩ ?_
        refine ok_lt fun v_19 e_v_19 => ?_
        have b_v_19 : 0 ≤ v_19.toInt ∧ v_19.toInt ≤ 39 := by rw [e_v_19]; exact gX_22 hB_s_16 _
        have q_v_19 : v_19.toInt = (σ.1 22 (x1_4.toNatClampNeg)).toInt := by rw [e_v_19, hF_s_16.1 22 (by decide)]
        refine ok_calp (s_X3_ends (x1 := v_19) (σ := s_16) hB_s_16 (by omega)) (fun v_20 h_13 => ?_)
        obtain ⟨b_v_20, x_v_20⟩ := h_13
        (try dsimp only at b_v_20 x_v_20)
        refine ok_jnI1 (fun (s_21 : Sto) => True ∧ (BX s_21) ∧ (FR [46, 47, 48, 49, 50, 51, 52, 53, 54, 55, 56, 57, 58, 59, 60, 61, 62] [] σ s_21) ∧ (PI s_21) ∧ (SI s_21) ∧ (PA s_21) ∧ (ES s_21) ∧ (∀ b : Nat, (b : Int) ≤ x1_4.toInt → (s_21.1 56 b).toInt ≤ (s_8.1 52 0).toInt) ∧ ((s_21.1 20 0).toInt = (σ.1 20 0).toInt) ∧ (∀ b : Nat, (b : Int) < x1_4.toInt + 1 → (s_21.1 57 b).toInt < (s_21.1 46 0).toInt) ∧ ((s_8.1 52 0).toInt ≤ (s_21.1 52 0).toInt)) ?_ ?_
        · intro s_21 hJ
          obtain ⟨-, hB_s_21, hF_s_21, hPI_s_21, hSI_s_21, hPA_s_21, hES_s_21, hFS5_s_21, j20, jts, jk52⟩ := hJ
          have f_s_21_20 : (s_21.1 20 0).toInt = (σ.1 20 0).toInt := by rw [hF_s_21.1 20 (by decide)]
          obtain ⟨t_14, ht_14, g_14⟩ : ∃ t : Int, (x1_4 + 1).toInt = t ∧ t = x1_4.toInt + (1 : Int32).toInt := ⟨_, rfl, by have h9 := fb_addI (x := x1_4) (y := (1 : Int32)) (by omega) (by omega); exact h9⟩
          refine ok_lt fun x1_22 e_x1_22 => ?_
          have q_x1_22 : x1_22.toInt = t_14 := by rw [e_x1_22]; exact ht_14
          exact ih_a_20 _ x1_22 s_21 (by rw [hn_a_20]; omega) ⟨rfl, (by omega), hB_s_21, hF_s_21, hPI_s_21, hSI_s_21, hPA_s_21, hES_s_21, (fun b hb => jts b (by omega)), (fun b hb => by have := hFS5_s_21 b (by omega); omega)⟩
        · intro k_156 hk_k_156
          refine ok_ite (fun c_15 => ?_) (fun c_15 => ?_)
          · rw [fa_eq] at c_15
            refine ok_cals (s_X1_handOver (x1 := x1_4) (σ := s_16) hB_s_16 hPI_s_16 hSI_s_16 hKI_s_16 hPA_s_16 hES_s_16 (by omega) (by omega) (by omega)) (fun s_24 h_16 => ?_)
            obtain ⟨hB_s_24, hG_s_24, hPI_s_24, hSI_s_24, hKI_s_24, hPA_s_24, hES_s_24, m52_s_24, x_s_24⟩ := h_16
            (try dsimp only at hB_s_24 hG_s_24 hPI_s_24 hSI_s_24 hKI_s_24 hPA_s_24 hES_s_24 m52_s_24 x_s_24)
            have hF_s_24 : FR [46, 47, 48, 49, 50, 51, 52, 53, 54, 55, 56, 57, 58, 59, 60, 61, 62] [] σ s_24 := FR.cal hF_s_16 hG_s_24 rfl rfl
            have w_s_24_61 : (s_24.1 61 0).toInt = (s_16.1 61 0).toInt := by rw [hG_s_24.1 61 (by decide)]
            have f_s_24_20 : (s_24.1 20 0).toInt = (σ.1 20 0).toInt := by rw [hF_s_24.1 20 (by decide)]
            have hFS5_s_24 : ∀ b : Nat, (b : Int) ≤ x1_4.toInt → (s_24.1 56 b).toInt ≤ (s_8.1 52 0).toInt := by rw [hG_s_24.1 56 (by decide)]; exact hFS5_s_16
            exact hk_k_156 s_24 ⟨trivial, hB_s_24, hF_s_24, hPI_s_24, hSI_s_24, hPA_s_24, hES_s_24, hFS5_s_24, (by omega), (fun b hb => by by_cases q : b = x1_4.toNatClampNeg; (rw [q]; exact x_s_24.2.1); (rw [x_s_24.2.2 b q]; have := htl b (by have := clamp_I (x := x1_4) (by omega); omega); have := x_s_24.1; omega)), (by omega)⟩
          · rw [fa_eq] at c_15
            exact hk_k_156 s_16 ⟨trivial, hB_s_16, hF_s_16, hPI_s_16, hSI_s_16, hPA_s_16, hES_s_16, hFS5_s_16, (by omega), (fun b hb => by by_cases q : b = x1_4.toNatClampNeg; (rw [q]; exact htb); exact htl b (by have := clamp_I (x := x1_4) (by omega); omega)), (by omega)⟩
      · rw [fa_lt] at c_12
        refine ok_cals (s_X1_step (x1 := x1_4) (x2 := x2_16) (σ := s_16) hB_s_16 hPI_s_16 hSI_s_16 hKI_s_16 hPA_s_16 hES_s_16 (by omega) (by omega) (by rw [hF_s_16.1 6 (by decide), hF_s_16.1 7 (by decide)]; exact (G6 x2_16.toNatClampNeg (by have q9 := clamp_I (x := x2_16) (by omega); omega) (by have q9 := clamp_I (x := x2_16) (by omega); omega)).1) (by rw [hF_s_16.1 6 (by decide), hst (by omega)]; exact (G6 x2_16.toNatClampNeg (by have q9 := clamp_I (x := x2_16) (by omega); omega) (by have q9 := clamp_I (x := x2_16) (by omega); omega)).2.1) (by omega) (hsb.mono (by omega))) (fun s_25 h_17 => ?_)
        obtain ⟨hB_s_25, hG_s_25, hPI_s_25, hSI_s_25, hKI_s_25, hPA_s_25, hES_s_25, m52_s_25, x_s_25⟩ := h_17
        (try dsimp only at hB_s_25 hG_s_25 hPI_s_25 hSI_s_25 hKI_s_25 hPA_s_25 hES_s_25 m52_s_25 x_s_25)
        have hF_s_25 : FR [46, 47, 48, 49, 50, 51, 52, 53, 54, 55, 56, 57, 58, 59, 60, 61, 62] [] σ s_25 := FR.cal hF_s_16 hG_s_25 rfl rfl
        have f_s_25_20 : (s_25.1 20 0).toInt = (σ.1 20 0).toInt := by rw [hF_s_25.1 20 (by decide)]
        have hFS5_s_25 : ∀ b : Nat, (b : Int) ≤ x1_4.toInt → (s_25.1 56 b).toInt ≤ (s_8.1 52 0).toInt := by rw [hG_s_25.1 56 (by decide)]; exact hFS5_s_16
        have S25 := x_s_25.2.2.2.2
        have W25 := x_s_25.2.2.2.1
        have x_s_25 := And.intro x_s_25.1 (And.intro x_s_25.2.1 x_s_25.2.2.1)
        have M := G6 x2_16.toNatClampNeg (by have q9 := clamp_I (x := x2_16) (by omega); omega) (by have q9 := clamp_I (x := x2_16) (by omega); omega)
        have hd : HD (σ.1 6 x2_16.toNatClampNeg).toInt (s_16.1 61 0).toInt (s_25.1 61 0).toInt := by rw [← hF_s_16.1 6 (by decide)]; exact x_s_25.2.2
        have hn6 : (s_25.1 61 0).toInt ≤ 6 := nd_6 (show ND (σ.1 6 x2_16.toNatClampNeg).toInt (s_16.1 61 0).toInt by rw [hst (by omega)]; exact M.2.1) hd
        have hd2 : x2_16.toInt < (σ.1 22 x1_4.toNatClampNeg).toInt → (s_25.1 61 0).toInt = (σ.1 8 (x2_16.toNatClampNeg + 1)).toInt := fun q => hd_fun (by rw [← hst (by omega)]; exact hd) (M.2.2 (by have q9 := clamp_I (x := x2_16) (by omega); omega))
        obtain ⟨t_18, ht_18, g_18⟩ : ∃ t : Int, (x2_16 + 1).toInt = t ∧ t = x2_16.toInt + (1 : Int32).toInt := ⟨_, rfl, by have h9 := fb_addI (x := x2_16) (y := (1 : Int32)) (by omega) (by omega); exact h9⟩
        refine ok_lt fun x2_26 e_x2_26 => ?_
        have q_x2_26 : x2_26.toInt = t_18 := by rw [e_x2_26]; exact ht_18
        exact ih_a_107 _ x2_26 s_25 (by rw [hn_a_107]; omega) ⟨rfl, (by omega), hB_s_25, hF_s_25, hPI_s_25, hSI_s_25, hKI_s_25, hPA_s_25, hES_s_25, hFS5_s_25, (by omega), (by omega), (by omega), (fun q => by rw [show x2_26.toNatClampNeg = x2_16.toNatClampNeg + 1 by have := clamp_I (x := x2_16) (by omega); have := clamp_I (x := x2_26) (by omega); omega]; exact hd2 (by omega)), (fun b hb => by rw [W25 b (by have := clamp_I (x := x1_4) (by omega); omega)]; have := htl b hb; omega), ((S25 _ hsb).mono (by omega)), (by omega)⟩
    · rw [fa_le] at c_10
      refine ok_calv (s_X7_make (x1 := (84 : Int32)) (x2 := x2_11) (x3 := (0 : Int32)) (σ := s_11) hB_s_11 hPI_s_11 hPA_s_11 (by omega) (by omega) (by omega) (t1_T (by omega) (by omega)) (by rw [pex_L (by omega)]; decide) (Or.inl (by omega))) (fun v_27 s_27 h_19 => ?_)
      obtain ⟨b_v_27, hB_s_27, hG_s_27, hPI_s_27, hPA_s_27, x_s_27⟩ := h_19
      (try dsimp only at b_v_27 hB_s_27 hG_s_27 hPI_s_27 hPA_s_27 x_s_27)
      have hF_s_27 : FR [46, 47, 48, 49, 50, 51, 52, 53, 54, 55, 56, 57, 58, 59, 60, 61, 62] [] σ s_27 := FR.cal hF_s_11 hG_s_27 rfl rfl
      have w_s_27_52 : (s_27.1 52 0).toInt = (s_11.1 52 0).toInt := by rw [hG_s_27.1 52 (by decide)]
      have w_s_27_61 : (s_27.1 61 0).toInt = (s_11.1 61 0).toInt := by rw [hG_s_27.1 61 (by decide)]
      have f_s_27_20 : (s_27.1 20 0).toInt = (σ.1 20 0).toInt := by rw [hF_s_27.1 20 (by decide)]
      have hSI_s_27 : SI s_27 := SI.fr hG_s_27 (by decide) hSI_s_11
      have hFS5_s_27 : ∀ b : Nat, (b : Int) ≤ x1_4.toInt → (s_27.1 56 b).toInt ≤ (s_8.1 52 0).toInt := by rw [hG_s_27.1 56 (by decide)]; exact hFS5_s_11
      have L27 := x_s_27.2.2.2.2
      rw [pex_L (by omega)] at L27
      have F27 := x_s_27.2.2.2.1
      have x_s_27 : (s_11.1 46 0).toInt ≤ (s_27.1 46 0).toInt ∧ v_27.toInt < (s_27.1 46 0).toInt := ⟨x_s_27.1, x_s_27.2.1⟩
      have hKI_s_27 : KI s_27 := KI.up hKI_s_11 (hG_s_27.1 60 (by decide)) (hG_s_27.1 61 (by decide)) x_s_27.1
      have hES_s_27 : ES s_27 := ES.up hES_s_11 (hG_s_27.1 52 (by decide)) (hG_s_27.1 55 (by decide)) x_s_27.1
      have z57_s_27 : (s_27.1 57 x1_4.toNatClampNeg).toInt = (s_11.1 57 x1_4.toNatClampNeg).toInt := by rw [hG_s_27.1 57 (by decide)]
      have c27 : ∀ B, SB s_11 B → SB s_27 B := fun B h => h.same hKI_s_11 (hG_s_27.1 60 (by decide)) (hG_s_27.1 61 (by decide)) F27 hB_s_11
      refine ok_cals (s_X1_push (x1 := v_27) (σ := s_27) hB_s_27 hKI_s_27 (by omega) (by omega)) (fun s_28 h_20 => ?_)
      obtain ⟨hB_s_28, hG_s_28, hKI_s_28, x_s_28⟩ := h_20
      (try dsimp only at hB_s_28 hG_s_28 hKI_s_28 x_s_28)
      have hF_s_28 : FR [46, 47, 48, 49, 50, 51, 52, 53, 54, 55, 56, 57, 58, 59, 60, 61, 62] [] σ s_28 := FR.cal hF_s_27 hG_s_28 rfl rfl
      have w_s_28_46 : (s_28.1 46 0).toInt = (s_27.1 46 0).toInt := by rw [hG_s_28.1 46 (by decide)]
      have w_s_28_52 : (s_28.1 52 0).toInt = (s_27.1 52 0).toInt := by rw [hG_s_28.1 52 (by decide)]
      have f_s_28_20 : (s_28.1 20 0).toInt = (σ.1 20 0).toInt := by rw [hF_s_28.1 20 (by decide)]
      have hPI_s_28 : PI s_28 := PI.fr hG_s_28 (by decide) hPI_s_27
      have hPA_s_28 : PA s_28 := PA.fr hG_s_28 (by decide) hPA_s_27
      have hSI_s_28 : SI s_28 := SI.fr hG_s_28 (by decide) hSI_s_27
      have hFS5_s_28 : ∀ b : Nat, (b : Int) ≤ x1_4.toInt → (s_28.1 56 b).toInt ≤ (s_8.1 52 0).toInt := by rw [hG_s_28.1 56 (by decide)]; exact hFS5_s_27
      have hES_s_28 : ES s_28 := ES.fr hG_s_28 (by decide) hES_s_27
      have S28 := x_s_28.2 (by omega)
      have y28 := x_s_28.1
      clear x_s_28
      have z57_s_28 : (s_28.1 57 x1_4.toNatClampNeg).toInt = (s_27.1 57 x1_4.toNatClampNeg).toInt := by rw [hG_s_28.1 57 (by decide)]
      obtain ⟨t_21, ht_21, g_21⟩ : ∃ t : Int, (x2_11 + 1).toInt = t ∧ t = x2_11.toInt + (1 : Int32).toInt := ⟨_, rfl, by have h9 := fb_addI (x := x2_11) (y := (1 : Int32)) (by omega) (by omega); exact h9⟩
      refine ok_lt fun x2_29 e_x2_29 => ?_
      have q_x2_29 : x2_29.toInt = t_21 := by rw [e_x2_29]; exact ht_21
      exact ih_a_55 _ x2_29 s_28 (by rw [hn_a_55]; omega) ⟨rfl, (by omega), hB_s_28, hF_s_28, hPI_s_28, hSI_s_28, hKI_s_28, hPA_s_28, hES_s_28, hFS5_s_28, (by omega), (by omega), (by omega), (fun b hb => by rw [hG_s_28.1 57 (by decide), hG_s_28.1 46 (by decide), hG_s_27.1 57 (by decide)]; have := htl b hb; omega), ((S28 _ (c27 _ hsb)).mono (by omega)), (by omega)⟩

set_option maxHeartbeats 4000000 in
theorem s_X10_assumeAll {σ : Sto} (hB : BX σ) : OK (f_X10_assumeAll σ) (fun s => BX s ∧ FR [63, 64, 65] [] σ s) := by
  unfold f_X10_assumeAll
  have hF : FR [63, 64, 65] [] σ σ := FR.rf
  have k_0 : (0 : Int32).toInt = 0 := by decide +kernel
  have k_1 : (1 : Int32).toInt = 1 := by decide +kernel
  have k_6 : (6 : Int32).toInt = 6 := by decide +kernel
  have k_160 : (160 : Int32).toInt = 160 := by decide +kernel
  refine ok_itr2 (fun (n : Nat) (x1_1 : Int32) (s_1 : Sto) => n = (7 - x1_1.toInt).toNat ∧ (0 ≤ x1_1.toInt ∧ x1_1.toInt ≤ 6) ∧ (BX s_1) ∧ (FR [63, 64, 65] [] σ s_1)) ?_ (n := _) ⟨rfl, (by omega), hB, hF⟩ (show _ < 10000000 by omega)
  intro a_2 n x1_1 s_1 hI ih_a_2
  obtain ⟨hn_a_2, b_x1_1, hB_s_1, hF_s_1⟩ := hI
  refine ok_ite (fun c_1 => ?_) (fun c_1 => ?_)
  · rw [fa_le] at c_1
    refine ok_itr2 (fun (n : Nat) (x1_3 : Int32) (s_3 : Sto) => n = (7 - x1_3.toInt).toNat ∧ (0 ≤ x1_3.toInt ∧ x1_3.toInt ≤ 6) ∧ (BX s_3) ∧ (FR [63, 64, 65] [] σ s_3)) ?_ (n := _) ⟨rfl, (by omega), hB_s_1, hF_s_1⟩ (show _ < 10000000 by omega)
    intro a_32 n x1_3 s_3 hI ih_a_32
    obtain ⟨hn_a_32, b_x1_3, hB_s_3, hF_s_3⟩ := hI
    refine ok_ite (fun c_2 => ?_) (fun c_2 => ?_)
    · rw [fa_le] at c_2
      refine ok_itr2 (fun (n : Nat) (x1_5 : Int32) (s_5 : Sto) => n = (161 - x1_5.toInt).toNat ∧ (0 ≤ x1_5.toInt ∧ x1_5.toInt ≤ 160) ∧ (BX s_5) ∧ (FR [63, 64, 65] [] σ s_5)) ?_ (n := _) ⟨rfl, (by omega), hB_s_3, hF_s_3⟩ (show _ < 10000000 by omega)
      intro a_53 n x1_5 s_5 hI ih_a_53
      obtain ⟨hn_a_53, b_x1_5, hB_s_5, hF_s_5⟩ := hI
      refine ok_ite (fun c_3 => ?_) (fun c_3 => ?_)
      · rw [fa_le] at c_3
        refine ok_itr2 (fun (n : Nat) (x1_7 : Int32) (s_7 : Sto) => n = (121 - x1_7.toInt).toNat ∧ (0 ≤ x1_7.toInt ∧ x1_7.toInt ≤ 120) ∧ (BX s_7) ∧ (FR [63, 64, 65] [] σ s_7)) ?_ (n := _) ⟨rfl, (by omega), hB_s_5, hF_s_5⟩ (show _ < 10000000 by omega)
        intro a_75 n x1_7 s_7 hI ih_a_75
        obtain ⟨hn_a_75, b_x1_7, hB_s_7, hF_s_7⟩ := hI
        have g_5 := gX_27 hB_s_7 0
        have g_6 : (s_7.1 27 0).toInt = (σ.1 27 0).toInt := by rw [hF_s_7.1 27 (by decide)]
        have g_7 := gX_27 hB 0
        refine ok_ite (fun c_4 => ?_) (fun c_4 => ?_)
        · rw [fa_le] at c_4
          exact ok_ret ⟨hB_s_7, hF_s_7⟩
        · rw [fa_le] at c_4
          refine ok_ix ⟨by omega, by omega⟩ ?_
          have g_8 := gX_31 hB_s_7 (x1_7.toNatClampNeg)
          refine ok_lt fun v_9 e_v_9 => ?_
          have b_v_9 : 0 ≤ v_9.toInt ∧ v_9.toInt ≤ 1 := by rw [e_v_9]; exact gX_31 hB_s_7 _
          refine ok_jn ?_
          refine ok_ite (fun c_9 => ?_) (fun c_9 => ?_)
          · rw [fa_eq] at c_9
            obtain ⟨t_10, ht_10, g_10⟩ : ∃ t : Int, (x1_7 + 1).toInt = t ∧ t = x1_7.toInt + (1 : Int32).toInt := ⟨_, rfl, by have h9 := fb_addI (x := x1_7) (y := (1 : Int32)) (by omega) (by omega); exact h9⟩
            refine ok_lt fun x1_11 e_x1_11 => ?_
            have q_x1_11 : x1_11.toInt = t_10 := by rw [e_x1_11]; exact ht_10
            exact ih_a_75 _ x1_11 s_7 (by rw [hn_a_75]; omega) ⟨rfl, (by omega), hB_s_7, hF_s_7⟩
          · rw [fa_eq] at c_9
            refine ok_ix ⟨by omega, by omega⟩ ?_
            refine ok_lt fun s_13 e_s_13 => ?_
            have hB_s_13 : BX s_13 := by rw [e_s_13]; exact pX_64 hB_s_7 (by omega)
            have hF_s_13 : FR [63, 64, 65] [] σ s_13 := by rw [e_s_13]; exact FR.st hF_s_7 (by decide)
            obtain ⟨t_11, ht_11, g_11⟩ : ∃ t : Int, (x1_7 + 1).toInt = t ∧ t = x1_7.toInt + (1 : Int32).toInt := ⟨_, rfl, by have h9 := fb_addI (x := x1_7) (y := (1 : Int32)) (by omega) (by omega); exact h9⟩
            refine ok_lt fun x1_11 e_x1_11 => ?_
            have q_x1_11 : x1_11.toInt = t_11 := by rw [e_x1_11]; exact ht_11
            exact ih_a_75 _ x1_11 s_13 (by rw [hn_a_75]; omega) ⟨rfl, (by omega), hB_s_13, hF_s_13⟩
      · rw [fa_le] at c_3
        refine ok_ix ⟨by omega, by omega⟩ ?_
        refine ok_lt fun s_14 e_s_14 => ?_
        have hB_s_14 : BX s_14 := by rw [e_s_14]; exact pX_65 hB_s_5 (by omega)
        have hF_s_14 : FR [63, 64, 65] [] σ s_14 := by rw [e_s_14]; exact FR.st hF_s_5 (by decide)
        obtain ⟨t_12, ht_12, g_12⟩ : ∃ t : Int, (x1_5 + 1).toInt = t ∧ t = x1_5.toInt + (1 : Int32).toInt := ⟨_, rfl, by have h9 := fb_addI (x := x1_5) (y := (1 : Int32)) (by omega) (by omega); exact h9⟩
        refine ok_lt fun x1_15 e_x1_15 => ?_
        have q_x1_15 : x1_15.toInt = t_12 := by rw [e_x1_15]; exact ht_12
        exact ih_a_53 _ x1_15 s_14 (by rw [hn_a_53]; omega) ⟨rfl, (by omega), hB_s_14, hF_s_14⟩
    · rw [fa_le] at c_2
      refine ok_ix ⟨by omega, by omega⟩ ?_
      refine ok_lt fun s_16 e_s_16 => ?_
      have hB_s_16 : BX s_16 := by rw [e_s_16]; exact pX_64 hB_s_3 (by omega)
      have hF_s_16 : FR [63, 64, 65] [] σ s_16 := by rw [e_s_16]; exact FR.st hF_s_3 (by decide)
      obtain ⟨t_13, ht_13, g_13⟩ : ∃ t : Int, (x1_3 + 1).toInt = t ∧ t = x1_3.toInt + (1 : Int32).toInt := ⟨_, rfl, by have h9 := fb_addI (x := x1_3) (y := (1 : Int32)) (by omega) (by omega); exact h9⟩
      refine ok_lt fun x1_17 e_x1_17 => ?_
      have q_x1_17 : x1_17.toInt = t_13 := by rw [e_x1_17]; exact ht_13
      exact ih_a_32 _ x1_17 s_16 (by rw [hn_a_32]; omega) ⟨rfl, (by omega), hB_s_16, hF_s_16⟩
  · rw [fa_le] at c_1
    refine ok_jn ?_
    refine ok_ite (fun c_14 => ?_) (fun c_14 => ?_)
    · rw [fa_le] at c_14
      refine ok_bz (by rw [fa_eq, fa_eq]; omega) ?_
      refine ok_ix ⟨by omega, by omega⟩ ?_
      refine ok_lt fun s_19 e_s_19 => ?_
      have hB_s_19 : BX s_19 := by rw [e_s_19]; exact pX_63 hB_s_1 (by omega)
      have hF_s_19 : FR [63, 64, 65] [] σ s_19 := by rw [e_s_19]; exact FR.st hF_s_1 (by decide)
      obtain ⟨t_15, ht_15, g_15⟩ : ∃ t : Int, (x1_1 + 1).toInt = t ∧ t = x1_1.toInt + (1 : Int32).toInt := ⟨_, rfl, by have h9 := fb_addI (x := x1_1) (y := (1 : Int32)) (by omega) (by omega); exact h9⟩
      refine ok_lt fun x1_21 e_x1_21 => ?_
      have q_x1_21 : x1_21.toInt = t_15 := by rw [e_x1_21]; exact ht_15
      exact ih_a_2 _ x1_21 s_19 (by rw [hn_a_2]; omega) ⟨rfl, (by omega), hB_s_19, hF_s_19⟩
    · rw [fa_le] at c_14
      refine ok_bz (by rw [fa_eq, fa_eq]; omega) ?_
      refine ok_ix ⟨by omega, by omega⟩ ?_
      refine ok_lt fun s_19 e_s_19 => ?_
      have hB_s_19 : BX s_19 := by rw [e_s_19]; exact pX_63 hB_s_1 (by omega)
      have hF_s_19 : FR [63, 64, 65] [] σ s_19 := by rw [e_s_19]; exact FR.st hF_s_1 (by decide)
      obtain ⟨t_16, ht_16, g_16⟩ : ∃ t : Int, (x1_1 + 1).toInt = t ∧ t = x1_1.toInt + (1 : Int32).toInt := ⟨_, rfl, by have h9 := fb_addI (x := x1_1) (y := (1 : Int32)) (by omega) (by omega); exact h9⟩
      refine ok_lt fun x1_21 e_x1_21 => ?_
      have q_x1_21 : x1_21.toInt = t_16 := by rw [e_x1_21]; exact ht_16
      exact ih_a_2 _ x1_21 s_19 (by rw [hn_a_2]; omega) ⟨rfl, (by omega), hB_s_19, hF_s_19⟩

