def kX (s : Sto) : Int := if (s.1 34 0).toInt = 0 then (s.1 36 0).toInt else -1
/-- what form lays -/
def FRM (σ s : Sto) : Prop := ∃ s8 s9 s11 s12,
  (SOK s8 ∧ FR MSQ [1, 5] σ s8 ∧ JRS (EVx σ) (nX σ) (Jx s8) (kX s8) ∧ LST s8) ∧
  (SOK s9 ∧ FR [38] [] s8 s9 ∧ ∀ e, e < (EVx σ).1 → ((s9.1 38 e).toInt ≠ 0 ↔ DG (EVx σ) (Jx s8) (gB (EVx σ) e) (gA (EVx σ) e))) ∧
  (f_X8_findAbove s9 = some s11 ∧ BX s11 ∧ FR [41] [] s9 s11) ∧
  (f_X8_findLoops s11 = some s12 ∧ BX s12 ∧ FR [] [2, 3] s11 s12) ∧
  (f_X8_findMerges s12 = some s ∧ BX s ∧ FR [] [4] s12 s)
theorem t_form {σ : Sto} (h : FMX σ) (hA : ∀ b, b < nX σ → AG (EVx σ) J0f b) : PC (f_X8_form σ) (FRM σ) := by
  have k_0 : (0 : Int32).toInt = 0 := by decide +kernel
  have k_1 : (1 : Int32).toInt = 1 := by decide +kernel
  have k_120 : (120 : Int32).toInt = 120 := by decide +kernel
  have g27 := gX_27 h.1.1 0
  have hV : ((EVx σ).1 : Int) = (σ.1 27 0).toInt := Int.toNat_of_nonneg g27.1
  have hE := h.2.1
  unfold f_X8_form
  refine pc_itr2 (fun x s => 0 ≤ x.toInt ∧ SOK s ∧ FR [37] [] σ s ∧ ∀ d : Nat, (d : Int) < x.toInt → (s.1 37 d).toInt = 0) ?_ ⟨by omega, h.1, FR.rf, fun d hd => by omega⟩
  intro ag x s I ih
  obtain ⟨x0, kS, f, hz⟩ := I
  have cx := clamp_I x0
  refine pc_ite (fun c1 => ?_) (fun c1 => ?_)
  · rw [fa_le, k_120] at c1
    refine pc_lt fun s3 e3 => ?_
    have F3 : FR MSQ [1, 5] σ s3 := by rw [e3]; exact FR.st (FR.cal FR.rf f rfl rfl) (by decide)
    have K3 : SOK s3 := by rw [e3]; exact ⟨pX_36 kS.1 (by omega), EB.st1 (by decide) kS.2.1, BV.st1 (by decide) kS.2.2⟩
    have J3 : JEx σ s3 J0f := fun d hd => by
      refine decide_eq_false (fun z => z ?_)
      rw [e3, sti_o (by decide)]
      exact hz d (by omega)
    refine pc_calv (t_red h F3 K3 J3) (fun v4 s4 q => ?_)
    obtain ⟨q1, q2, q3, q4, q5⟩ := q
    (try dsimp only at q1 q2 q3 q4 q5)
    have L4 := q5 hA
    refine pc_bz (fun _ => ?_)
    refine pc_lt fun s5 e5 => ?_
    refine pc_lt fun s7 e7 => ?_
    have v4b : 0 ≤ v4.toInt ∧ v4.toInt ≤ 1 := by
      rcases q3 with z | z <;> rw [z] <;> omega
    have F7 : FR MSQ [1, 5] σ s7 := by rw [e7, e5]; exact FR.st (FR.st (FR.cal F3 q2 rfl rfl) (by decide)) (by decide)
    have K7 : SOK s7 := by
      rw [e7, e5]
      exact ⟨pX_34 (pX_35 q1.1 v4b) (by omega), EB.st1 (by decide) (EB.st1 (by decide) q1.2.1), BV.st1 (by decide) (BV.st1 (by decide) q1.2.2)⟩
    have o7 : ∀ {k : Nat}, k ≠ 34 ∧ k ≠ 35 → s7.1 k = s4.1 k := fun {k} hk => by rw [e7, sti_o hk.1, e5, sti_o hk.2]
    have L7 : LST s7 := L4.cg (o7 (by decide)) (o7 (by decide)) (o7 (by decide)) (o7 (by decide)) (o7 (by decide)) (o7 (by decide)) (o7 (by decide)) (o7 (by decide)) (by rw [e7, e5]; rfl) (by rw [e7, e5]; rfl)
    have J7 : JEx σ s7 J0f := J3.cg (by rw [o7 (by decide), q2.1 37 (by decide)])
    have z34 : (s7.1 34 0).toInt = 0 := by rw [e7, sti_s]; exact k_0
    have z35 : s7.1 35 0 = v4 := by rw [e7, sti_o (by decide), e5, sti_s]
    have z36 : (s7.1 36 0).toInt = 0 := by rw [o7 (by decide), q2.1 36 (by decide), e3, sti_s]; exact k_0
    refine pc_jnI1 (fun s8 => SOK s8 ∧ FR MSQ [1, 5] σ s8 ∧ JRS (EVx σ) (nX σ) (Jx s8) (kX s8) ∧ LST s8) (fun s8 J8 => ?_) (fun k hk => ?_)
    · obtain ⟨y1, y2, y3, y4⟩ := J8
      obtain ⟨a, b, _⟩ := MSQ.e y2
      refine pc_itr2 (fun x t => 0 ≤ x.toInt ∧ SOK t ∧ FR [38] [] s8 t ∧ ∀ e : Nat, (e : Int) < x.toInt → e < (EVx σ).1 → ((t.1 38 e).toInt ≠ 0 ↔ DG (EVx σ) (Jx s8) (gB (EVx σ) e) (gA (EVx σ) e))) ?_ ⟨by omega, y1, FR.rf, fun e he => by omega⟩
      intro ag2 x t I2 ih2
      obtain ⟨x0, t1, t2, t3⟩ := I2
      have cx := clamp_I x0
      have ft : ∀ {k : Nat}, k ≠ 38 → t.1 k = s8.1 k := fun {k} hk => t2.1 k (by simp [hk])
      refine pc_ite (fun c2 => ?_) (fun c2 => ?_)
      · rw [fa_le, ft (by decide), y2.1 27 (by decide)] at c2
        refine pc_cals (pc_and (pc_ok (s_X8_findAbove t1.1)) pc_eq) (fun s11 w => ?_)
        obtain ⟨⟨w1, w2⟩, w3⟩ := w
        refine pc_cals (pc_and (pc_ok (s_X8_findLoops w1)) pc_eq) (fun s12 u => ?_)
        obtain ⟨⟨u1, u2⟩, u3⟩ := u
        have E12 : EB s12 := EB.fr u2 (by decide) (EB.fr w2 (by decide) t1.2.1)
        refine pc_cals (pc_and (pc_ok (s_X8_findMerges u1 E12)) pc_eq) (fun s13 p => ?_)
        obtain ⟨⟨p1, p2, _⟩, p3⟩ := p
        exact pc_ret ⟨s8, t, s11, s12, ⟨y1, y2, y3, y4⟩, ⟨t1, t2, fun e he => t3 e (by omega) he⟩, ⟨w3, w1, w2⟩, ⟨u3, u1, u2⟩, ⟨p3, p1, p2⟩⟩
      · rw [fa_le, ft (by decide), y2.1 27 (by decide)] at c2
        have ex : (x + 1).toInt = x.toInt + 1 := i1 (by omega)
        have heE : x.toNatClampNeg < (EVx σ).1 := by omega
        have he := hE.2 _ heE
        have eVt : EVx t = EVx σ := (EVw.cg (ft (by decide)) (ft (by decide)) (ft (by decide)) (ft (by decide))).trans a
        refine pc_calp (t_isBackX (σ := t) (x := x) y1.1 (ft (by decide)) (ft (by decide))) (fun v14 h14 => ?_)
        have dm := y4.2.2
        unfold DMX at dm
        rw [a, b] at dm
        rw [eVt, t2.2 1 List.not_mem_nil, dm _ he.1] at h14
        refine pc_bz (fun _ => ?_)
        refine pc_ix (fun _ => ?_)
        refine pc_lt fun s15 e15 => ?_
        refine pc_lt fun x17 e17 => ?_
        subst e17
        have v14b : 0 ≤ v14.toInt ∧ v14.toInt ≤ 1 := by
          rcases h14.1 with z | z <;> rw [z] <;> omega
        refine ih2 (x + 1) s15 ⟨by omega, by rw [e15]; exact ⟨pX_38 t1.1 v14b, EB.st1 (by decide) t1.2.1, BV.st1 (by decide) t1.2.2⟩, by rw [e15]; exact FR.st t2 (by decide), fun e h1 h2 => ?_⟩
        rw [e15, sti_if]
        by_cases w : e = x.toNatClampNeg
        · rw [if_pos w, w]
          have nz : v14.toInt ≠ 0 ↔ v14 ≠ 0 := by
            show ¬ v14.toInt = 0 ↔ ¬ v14 = 0
            rw [fa_eq, k_0]
          rw [nz]
          constructor
          · intro z
            exact Classical.byContradiction fun y => z (h14.2.mpr (fun w => y w.2))
          · intro z y
            exact (h14.2.mp y) ⟨he.2, z⟩
        · rw [if_neg w]; exact t3 e (by omega) h2
    · refine pc_ite (fun c2 => ?_) (fun c2 => ?_)
      · rw [z35] at c2
        have NG : ¬ GG (EVx σ) J0f (nX σ) := fun z => q4.mpr z c2
        obtain ⟨a7, b7, _⟩ := MSQ.e F7
        have U7 : ∀ e d, e < (EVx s7).1 → d < (EVx s7).1 → gA (EVx s7) e = gA (EVx s7) d → gB (EVx s7) e = gB (EVx s7) d → e = d := by rw [a7]; exact h.2.2.2
        refine pc_cals (pc_and (t_findCandidates K7.1 (by rw [a7, b7]; exact hE.2) U7 (by rw [a7]; exact J7) L7.2.1 L7.2.2) (pc_ok (s_X8_findCandidates K7.1))) (fun s19 w => ?_)
        obtain ⟨⟨w1, w2⟩, w3, _⟩ := w
        have C19 : CLX σ s19 := by
          unfold CLX thx at w2 ⊢
          rw [a7] at w2
          exact w2
        have F19 : FR MSQ [1, 5] σ s19 := FR.cal F7 w1 rfl rfl
        have K19 : SOK s19 := ⟨w3, EB.fr w1 (by decide) K7.2.1, BV.fr w1 (by decide) K7.2.2⟩
        have J19 : JEx σ s19 J0f := J7.cg (w1.1 37 (by decide))
        have z34b : (s19.1 34 0).toInt = 0 := by rw [w1.1 34 (by decide)]; exact z34
        refine pc_calv (t_oneJump h F19 K19 C19 J19 NG) (fun v20 s20 u => ?_)
        obtain ⟨⟨u1, u2⟩, u3⟩ := u
        (try dsimp only at u1 u2 u3)
        have F20 : FR MSQ [1, 5] σ s20 := FR.cal F19 u2 rfl rfl
        have z34c : (s20.1 34 0).toInt = 0 := by rw [u2.1 34 (by decide)]; exact z34b
        refine pc_ite (fun c3 => ?_) (fun c3 => ?_)
        · rcases u3 with ⟨_, J20, NO⟩ | ⟨u0, _⟩
          · refine pc_calv (t_twoJumps h F20 u1 (C19.cg (u2.1 44 (by decide)) (u2.1 45 (by decide))) J20 NG NO) (fun v22 s22 p => ?_)
            obtain ⟨⟨p1, p2⟩, p3⟩ := p
            (try dsimp only at p1 p2 p3)
            have F22 : FR MSQ [1, 5] σ s22 := FR.cal F20 p2 rfl rfl
            have z34d : (s22.1 34 0).toInt = 0 := by rw [p2.1 34 (by decide)]; exact z34c
            refine pc_ite (fun c4 => ?_) (fun c4 => ?_)
            · rcases p3 with ⟨_, J22, NT⟩ | ⟨p0, _⟩
              · refine pc_lt fun s24 e24 => ?_
                have K24 : SOK s24 := by rw [e24]; exact ⟨pX_34 p1.1 (by omega), EB.st1 (by decide) p1.2.1, BV.st1 (by decide) p1.2.2⟩
                have F24 : FR MSQ [1, 5] σ s24 := by rw [e24]; exact FR.st F22 (by decide)
                have J24 : JEx σ s24 J0f := J22.cg (by rw [e24, sti_o (by decide)])
                refine pc_calv (t_red h F24 K24 J24) (fun v25 s25 o => ?_)
                obtain ⟨o1, o2, _, _, o5⟩ := o
                (try dsimp only at o1 o2 o5)
                have z34e : (s25.1 34 0).toInt = 1 := by rw [o2.1 34 (by decide), e24, sti_s]; exact k_1
                refine hk s25 ⟨o1, FR.cal F24 o2 rfl rfl, Or.inr (Or.inr (Or.inr ⟨NG, NO, NT, ?_, fun e he => ?_⟩)), o5 hA⟩
                · unfold kX
                  rw [if_neg (by omega)]
                · exact (J24.cg (o2.1 37 (by decide))) e he
              · exact absurd c4 p0
            · rcases p3 with ⟨p0, _⟩ | ⟨_, p4, p5, a, b, r1, r2, r3, r4, r5, r6, r7, r8⟩
              · exact absurd p0 c4
              · refine hk s22 ⟨p1, F22, Or.inr (Or.inr (Or.inl ⟨NG, NO, a, b, ?_, r1, r2, r3, r4, r5, r6, r7, fun e he => ?_⟩)), p4⟩
                · unfold kX
                  rw [if_pos z34d]; exact p5
                · rw [r8 e he]
                  unfold sJ J0f
                  rw [Bool.false_or]
          · exact absurd c3 u0
        · rcases u3 with ⟨u0, _⟩ | ⟨_, u4, u5, a, r1, r2, r3, r4, r5⟩
          · exact absurd u0 c3
          · refine hk s20 ⟨u1, F20, Or.inr (Or.inl ⟨NG, a, ?_, r1, r2, r3, r4, fun e he => ?_⟩), u4⟩
            · unfold kX
              rw [if_pos z34c]; exact u5
            · rw [r5 e he]
              unfold sJ J0f
              rw [Bool.false_or]
      · rw [z35] at c2
        refine hk s7 ⟨K7, F7, Or.inl ⟨?_, q4.mp c2, fun e he => J7 e he⟩, L7⟩
        unfold kX
        rw [if_pos z34]; exact z36
  · rw [fa_le, k_120] at c1
    have ex : (x + 1).toInt = x.toInt + 1 := i1 (by omega)
    refine pc_ix (fun _ => ?_)
    refine pc_lt fun s26 e26 => ?_
    refine pc_lt fun x27 e27 => ?_
    subst e27
    refine ih (x + 1) s26 ⟨by omega, by rw [e26]; exact ⟨pX_37 kS.1 (by omega), EB.st1 (by decide) kS.2.1, BV.st1 (by decide) kS.2.2⟩, by rw [e26]; exact FR.st f (by decide), fun d hd => ?_⟩
    rw [e26, sti_if]
    by_cases q : d = x.toNatClampNeg
    · rw [if_pos q]; exact k_0
    · rw [if_neg q]; exact hz d (by omega)
