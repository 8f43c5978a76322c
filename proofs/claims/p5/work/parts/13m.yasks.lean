theorem s_unlike {σ : Sto} (hB : BM σ) (hS : STS σ) : OK (f_X12_unlike σ) (fun r => BM r.2 ∧ FR [67, 68] [] σ r.2) := by
  have k_0 : (0 : Int32).toInt = 0 := by decide +kernel
  have k_m1 : ((-1) : Int32).toInt = -1 := by decide +kernel
  have g47 := gM_47 hB 0
  have g26 := gM_26 hB 0
  have nb := nB_le hB
  unfold f_X12_unlike
  refine ok_lt fun s1 e1 => ?_
  have B1 : BM s1 := by rw [e1]; exact pM_68 hB (by omega)
  have F1 : FR [67, 68] [] σ s1 := by rw [e1]; exact FR.st FR.rf (by decide)
  have n1 : nMt s1 = 0 := by
    show (s1.1 68 0).toInt.toNat = 0
    rw [e1, sti_if, if_pos rfl, k_0]; rfl
  have M1 : MET s1 := ⟨fun i hi => by omega, fun i j hi _ _ => by omega⟩
  refine ok_itr2 (fun n x s => n = (401 - x.toInt).toNat ∧ 0 ≤ x.toInt ∧ x.toInt ≤ 400 ∧ BM s ∧ FR [67, 68] [] σ s ∧ MET s) ?_ (n := (401 - (0 : Int32).toInt).toNat) ⟨rfl, by omega, by omega, B1, F1, M1⟩ (by rw [k_0]; decide)
  intro ag n x s I ih
  obtain ⟨hn, x0, x4, s1', s2, s3⟩ := I
  have cx := clamp_I x0
  refine ok_ite (fun c1 => ?_) (fun c1 => ?_)
  · refine ok_itr2 (fun n x s => n = (41 - x.toInt).toNat ∧ 0 ≤ x.toInt ∧ x.toInt ≤ 40 ∧ BM s ∧ FR [67, 68] [] σ s ∧ MET s) ?_ (n := (41 - (0 : Int32).toInt).toNat) ⟨rfl, by omega, by omega, s1', s2, s3⟩ (by rw [k_0]; decide)
    intro ag2 m y u I2 ih2
    obtain ⟨hm, y0, y4, u1, u2, u3⟩ := I2
    have cy := clamp_I y0
    refine ok_ite (fun _ => ok_ret ⟨u1, u2⟩) (fun c2 => ?_)
    rw [fa_le, u2.1 26 (by decide)] at c2
    have iy : 0 ≤ y.toInt ∧ y.toInt < 40 := by omega
    refine ok_ix iy ?_
    rw [u2.1 46 (by decide)]
    refine ok_lt fun v6 e6 => ?_
    refine ok_jnI1 (fun w => BM w ∧ FR [67, 68] [] σ w ∧ MET w) (fun w hw => ?_) (fun k hk => ?_)
    · refine ok_lt fun x8 e8 => ?_
      have ex : x8.toInt = y.toInt + 1 := by rw [e8]; exact i1 (by omega)
      exact ih2 (41 - x8.toInt).toNat x8 w (by omega) ⟨rfl, by omega, by omega, hw.1, hw.2.1, hw.2.2⟩
    · refine ok_ite (fun _ => hk u ⟨u1, u2, u3⟩) (fun c3 => ?_)
      rw [fa_eq, k_m1, e6] at c3
      refine ok_ix iy ?_
      refine ok_lt fun v10 e10 => ?_
      subst e10
      have yb : y.toNatClampNeg < nB σ := by omega
      rcases hS.2.2.2.2.1 _ yb with w | ⟨w1, w2⟩
      · exact absurd w c3
      · refine ok_cals (sd_meets 250 60 _ u u1 u3 w1 (Nat.le_refl _) (((TT.fr67 u2 _ _ _).mpr w2).up (by decide) (Nat.le_refl _))) (fun s11 t => ?_)
        exact hk s11 ⟨t.1, FR.cal u2 t.2.1 rfl rfl, t.2.2⟩
  · rw [fa_le, s2.1 47 (by decide)] at c1
    have ix_ : 0 ≤ x.toInt ∧ x.toInt < 400 := by omega
    refine ok_ix ix_ ?_
    rw [s2.1 44 (by decide)]
    refine ok_lt fun v12 e12 => ?_
    refine ok_jnI1 (fun w => BM w ∧ FR [67, 68] [] σ w ∧ MET w) (fun w hw => ?_) (fun k hk => ?_)
    · refine ok_lt fun x8 e8 => ?_
      have ex : x8.toInt = x.toInt + 1 := by rw [e8]; exact i1 (by omega)
      exact ih (401 - x8.toInt).toNat x8 w (by omega) ⟨rfl, by omega, by omega, hw.1, hw.2.1, hw.2.2⟩
    · refine ok_ite (fun _ => hk s ⟨s1', s2, s3⟩) (fun c3 => ?_)
      rw [fa_eq, k_m1, e12] at c3
      refine ok_ix ix_ ?_
      refine ok_lt fun v16 e16 => ?_
      subst e16
      have W := hS.1 x.toNatClampNeg (by omega)
      have ne6 : (σ.1 42 x.toNatClampNeg).toInt ≠ 6 := fun q => c3 (W.2.2.2.2 q)
      obtain ⟨w1, w2⟩ := W.2.2.2.1 ne6
      refine ok_cals (sd_meets 250 60 _ s s1' s3 w1 (Nat.le_refl _) (((TT.fr67 s2 _ _ _).mpr w2).up (by decide) (Nat.le_refl _))) (fun s11 t => ?_)
      exact hk s11 ⟨t.1, FR.cal s2 t.2.1 rfl rfl, t.2.2⟩
